theorem cd_X8_becomes : yX8_becomes.cls = RX8 ∧ yX8_becomes.cls ≠ "java/lang/invoke/MethodHandle" ∧ yX8_becomes.cls ≠ "java/lang/invoke/VarHandle" ∧ (parseMethodDescriptor yX8_becomes.desc).map (fun d => d.parameters.length) = some 2 := by decide +kernel
theorem cd_X8_heap : yX8_heap.cls = RX8 ∧ yX8_heap.cls ≠ "java/lang/invoke/MethodHandle" ∧ yX8_heap.cls ≠ "java/lang/invoke/VarHandle" ∧ (parseMethodDescriptor yX8_heap.desc).map (fun d => d.parameters.length) = some 2 := by decide +kernel
theorem cd_X8_lap : yX8_lap.cls = RX8 ∧ yX8_lap.cls ≠ "java/lang/invoke/MethodHandle" ∧ yX8_lap.cls ≠ "java/lang/invoke/VarHandle" ∧ (parseMethodDescriptor yX8_lap.desc).map (fun d => d.parameters.length) = some 1 := by decide +kernel
theorem cd_X8_endOf : yX8_endOf.cls = RX8 ∧ yX8_endOf.cls ≠ "java/lang/invoke/MethodHandle" ∧ yX8_endOf.cls ≠ "java/lang/invoke/VarHandle" ∧ (parseMethodDescriptor yX8_endOf.desc).map (fun d => d.parameters.length) = some 1 := by decide +kernel
theorem cd_X8_cutOf : yX8_cutOf.cls = RX8 ∧ yX8_cutOf.cls ≠ "java/lang/invoke/MethodHandle" ∧ yX8_cutOf.cls ≠ "java/lang/invoke/VarHandle" ∧ (parseMethodDescriptor yX8_cutOf.desc).map (fun d => d.parameters.length) = some 1 := by decide +kernel
theorem cd_X8_rowOf : yX8_rowOf.cls = RX8 ∧ yX8_rowOf.cls ≠ "java/lang/invoke/MethodHandle" ∧ yX8_rowOf.cls ≠ "java/lang/invoke/VarHandle" ∧ (parseMethodDescriptor yX8_rowOf.desc).map (fun d => d.parameters.length) = some 2 := by decide +kernel
theorem cd_X8_slate : yX8_slate.cls = RX8 ∧ yX8_slate.cls ≠ "java/lang/invoke/MethodHandle" ∧ yX8_slate.cls ≠ "java/lang/invoke/VarHandle" ∧ (parseMethodDescriptor yX8_slate.desc).map (fun d => d.parameters.length) = some 2 := by decide +kernel
theorem cd_X8_jointOf : yX8_jointOf.cls = RX8 ∧ yX8_jointOf.cls ≠ "java/lang/invoke/MethodHandle" ∧ yX8_jointOf.cls ≠ "java/lang/invoke/VarHandle" ∧ (parseMethodDescriptor yX8_jointOf.desc).map (fun d => d.parameters.length) = some 2 := by decide +kernel
theorem cd_X8_joint : yX8_joint.cls = RX8 ∧ yX8_joint.cls ≠ "java/lang/invoke/MethodHandle" ∧ yX8_joint.cls ≠ "java/lang/invoke/VarHandle" ∧ (parseMethodDescriptor yX8_joint.desc).map (fun d => d.parameters.length) = some 2 := by decide +kernel
theorem cd_X8_mayBe : yX8_mayBe.cls = RX8 ∧ yX8_mayBe.cls ≠ "java/lang/invoke/MethodHandle" ∧ yX8_mayBe.cls ≠ "java/lang/invoke/VarHandle" ∧ (parseMethodDescriptor yX8_mayBe.desc).map (fun d => d.parameters.length) = some 2 := by decide +kernel
theorem cd_X8_may : yX8_may.cls = RX8 ∧ yX8_may.cls ≠ "java/lang/invoke/MethodHandle" ∧ yX8_may.cls ≠ "java/lang/invoke/VarHandle" ∧ (parseMethodDescriptor yX8_may.desc).map (fun d => d.parameters.length) = some 2 := by decide +kernel
def f_X8_becomes (N : Nat) (M_s : Nat → Int32) (x1 : Int32) (x2 : Int32) : Option (Int32 × (Nat → Int32)) :=
  ck (gi x1 99) (ck (gi x1 99) (some ((M_s x1.toNatClampNeg), (upd M_s x1.toNatClampNeg x2))))
set_option maxHeartbeats 4000000 in
set_option maxRecDepth 100000 in
theorem k_X8_becomes (l : Launch) (dC : Nat → ClassId) (dI : Nat → Nat → Nat) (cI cZ cS : ClassId) (N : Nat) (aM aM_s : Nat) (fs_M : List Value) (sz : Nat) (M_s : Nat → Int32) (x1 : Int32) (x2 : Int32) (hf_M_s : fs_M[0]? = some (.ref aM_s)) (res : Int32 × (Nat → Int32)) (h : f_X8_becomes N M_s x1 x2 = some res) : Met l yX8_becomes wsX8_becomes ({ frames := 0, cells := 0, slots := 0, locals := 0 }) (va_Pc [.ref aM, .int x1, .int x2] (preW (dC, dI) cI cZ cS [(aM, .inr (7, fs_M)), (aM_s, .inl (cI, 99, .inl M_s))] sz)) (va_Qi (fun (r : Int32) (_ : Unit) => r = res.1) (fun _ => qW (dC, dI) cI cZ cS (va_A [(aM, .inr (7, fs_M)), (aM_s, .inl (cI, 99, .inl M_s))] sz) [(aM, .inr (7, fs_M)), (aM_s, .inl (cI, 99, .inl res.2))]) (va_A [(aM, .inr (7, fs_M)), (aM_s, .inl (cI, 99, .inl M_s))] sz)) 0 0 (va_A [(aM, .inr (7, fs_M)), (aM_s, .inl (cI, 99, .inl M_s))] sz) := by
  refine Met.ofW (cc := cX8_becomes) (maxL := 4) (ret := (some .int)) (by decide) rfl ?_
  intro p e s m args below meth c s₁ B hml hv
  obtain ⟨rfl, hsz, hP, hK, hD0⟩ := hv
  have hx := B.exec
  have hb := B.bytes
  have hr := B.returns
  have hts := atoms_spec (ws := wsX8_becomes) B.pre
  have hown : s.vm.findClass RX8 = some m.cls := findClass_of_methodNamed B.named
  have hlocks := B.notSynchronized
  subst hsz
  have hD := hD0.self (sz := s.heap.size)
  generalize hAe : va_A [(aM, .inr (7, fs_M)), (aM_s, .inl (cI, 99, .inl M_s))] s.heap.size = A at hD ⊢
  have hA : ∀ q : Nat, s.heap.size ≤ q → A q := fun q h => by rw [← hAe]; exact Or.inr h
  have hS : va_S A s.heap s.heap [] := va_S.rf
  have hl := lv_entry ([.ref aM, .int x1, .int x2]) (n := 4) (Nat.le_of_ble_eq_true rfl)
  rw [lg_entry_eq]
  generalize (lg_sl ([.ref aM, .int x1, .int x2]) ++ List.replicate (4 - (lg_sl ([.ref aM, .int x1, .int x2])).length) Slot.unset).toArray = ls at hl ⊢
  have hl : lv_has ls 4 [(0, .ref aM), (1, .int x1), (2, .int x2)] := hl
  unfold f_X8_becomes at h
  refine lv_aload_n hx hb dX8_becomes_0 rfl (lv_at hl 0 rfl) ?_
  refine va_get (D := (dC, dI)) (ci := 7) (v := .ref aM_s) (C := RX8) (T := TX8) (N := 37) hx hb hts (fun _ h => List.mem_cons_of_mem _ (List.mem_append_right _ h)) hown hK hP 0 rfl rfl 0 (by decide) (hts (.fieldLink RX8 9 "SlateRowsModel" "s" "[I") (by decide +kernel)) (fun _ h9 => h9) hf_M_s dX8_becomes_1 ?_
  refine lv_iload_n hx hb dX8_becomes_4 rfl (lv_at hl 1 rfl) ?_
  obtain ⟨hi, h⟩ := ck_some h
  refine va_iald hx hb hK hP 1 0 rfl rfl (gi_in hi) dX8_becomes_5 ?_
  refine lv_istore_n (lv' := [(3, .int (M_s x1.toNatClampNeg)), (0, .ref aM), (1, .int x1), (2, .int x2)]) hx hb dX8_becomes_6 rfl hl (by decide) rfl (fun ls hl => ?_)
  refine lv_aload_n hx hb dX8_becomes_7 rfl (lv_at hl 1 rfl) ?_
  refine va_get (D := (dC, dI)) (ci := 7) (v := .ref aM_s) (C := RX8) (T := TX8) (N := 37) hx hb hts (fun _ h => List.mem_cons_of_mem _ (List.mem_append_right _ h)) hown hK hP 0 rfl rfl 0 (by decide) (hts (.fieldLink RX8 9 "SlateRowsModel" "s" "[I") (by decide +kernel)) (fun _ h9 => h9) hf_M_s dX8_becomes_8 ?_
  refine lv_iload_n hx hb dX8_becomes_11 rfl (lv_at hl 2 rfl) ?_
  refine lv_iload_n hx hb dX8_becomes_12 rfl (lv_at hl 3 rfl) ?_
  obtain ⟨hi, h⟩ := ck_some h
  refine va_iast hx hb hK hP hD hS 1 0 rfl rfl (gi_in hi) dX8_becomes_13 (fun H locs hP hD hS => ?_)
  have hP : va_P (dC, dI) vwCl [(aM, .inr (7, fs_M)), (aM_s, .inl (cI, 99, .inl (upd M_s x1.toNatClampNeg x2)))] H := hP
  have hD : va_D A [(aM, .inr (7, fs_M)), (aM_s, .inl (cI, 99, .inl (upd M_s x1.toNatClampNeg x2)))] := hD
  refine lv_iload_n hx hb dX8_becomes_14 rfl (lv_at hl 0 rfl) ?_
  have h := Option.some.inj h
  exact W.iret hx hb hr (fun t ht hW => ⟨⟨_, (), rfl, by rw [← h], by (try rw [← h]); rw [ht]; exact hP, va_K.moved hW.alike hK, by (try rw [← h]); exact hD⟩, hS.F ht⟩) hS.2.2 dX8_becomes_15
def f_X8_heap (N : Nat) (M_s : Nat → Int32) (x1 : Int32) (x2 : Int32) : Option (Int32 × (Nat → Int32)) :=
  (f_X8_isWidth N M_s x1).bind fun r_1 => if (b2i r_1) = 0 then (some ((-1), M_s)) else ((f_X8_isIn N x2.toInt64 0 12).bind fun r_3 => if (b2i r_3) = 0 then (some ((-1), M_s)) else ((f_X8_becomes N M_s ((3 + (3 * x1)) + 1) x2).bind fun r_5 => some (r_5.1, r_5.2)))
set_option maxHeartbeats 4000000 in
set_option maxRecDepth 100000 in
theorem k_X8_heap (l : Launch) (dC : Nat → ClassId) (dI : Nat → Nat → Nat) (cI cZ cS : ClassId) (N : Nat) (aM aM_s : Nat) (fs_M : List Value) (sz : Nat) (M_s : Nat → Int32) (x1 : Int32) (x2 : Int32) (hf_M_s : fs_M[0]? = some (.ref aM_s)) (res : Int32 × (Nat → Int32)) (h : f_X8_heap N M_s x1 x2 = some res) : Met l yX8_heap wsX8_heap ({ frames := 2, cells := 0, slots := 0, locals := 46 }) (va_Pc [.ref aM, .int x1, .int x2] (preW (dC, dI) cI cZ cS [(aM, .inr (7, fs_M)), (aM_s, .inl (cI, 99, .inl M_s))] sz)) (va_Qi (fun (r : Int32) (_ : Unit) => r = res.1) (fun _ => qW (dC, dI) cI cZ cS (va_A [(aM, .inr (7, fs_M)), (aM_s, .inl (cI, 99, .inl M_s))] sz) [(aM, .inr (7, fs_M)), (aM_s, .inl (cI, 99, .inl res.2))]) (va_A [(aM, .inr (7, fs_M)), (aM_s, .inl (cI, 99, .inl M_s))] sz)) 0 0 (va_A [(aM, .inr (7, fs_M)), (aM_s, .inl (cI, 99, .inl M_s))] sz) := by
  refine Met.ofW (cc := cX8_heap) (maxL := 3) (ret := (some .int)) (by decide) rfl ?_
  intro p e s m args below meth c s₁ B hml hv
  obtain ⟨rfl, hsz, hP, hK, hD0⟩ := hv
  have hx := B.exec
  have hb := B.bytes
  have hr := B.returns
  have hts := atoms_spec (ws := wsX8_heap) B.pre
  have hown : s.vm.findClass RX8 = some m.cls := findClass_of_methodNamed B.named
  have hlocks := B.notSynchronized
  subst hsz
  have hD := hD0.self (sz := s.heap.size)
  generalize hAe : va_A [(aM, .inr (7, fs_M)), (aM_s, .inl (cI, 99, .inl M_s))] s.heap.size = A at hD ⊢
  have hA : ∀ q : Nat, s.heap.size ≤ q → A q := fun q h => by rw [← hAe]; exact Or.inr h
  have hS : va_S A s.heap s.heap [] := va_S.rf
  have hl := lv_entry ([.ref aM, .int x1, .int x2]) (n := 3) (Nat.le_of_ble_eq_true rfl)
  rw [lg_entry_eq]
  generalize (lg_sl ([.ref aM, .int x1, .int x2]) ++ List.replicate (3 - (lg_sl ([.ref aM, .int x1, .int x2])).length) Slot.unset).toArray = ls at hl ⊢
  have hl : lv_has ls 3 [(0, .ref aM), (1, .int x1), (2, .int x2)] := hl
  unfold f_X8_heap at h
  refine lv_aload_n hx hb dX8_heap_0 rfl (lv_at hl 0 rfl) ?_
  refine lv_iload_n hx hb dX8_heap_1 rfl (lv_at hl 1 rfl) ?_
  obtain ⟨r_1, hg, h⟩ := bd_some h
  refine rdV (As := [.int x1]) (rest := []) (ci := 7) ⟨hx, hb, hml, hown, hts⟩ (k_X8_isWidth l dC dI cI cZ cS N aM aM_s fs_M M_s x1 hf_M_s r_1 hg) (cwV 1 hts gX8_heap_X8_isWidth rfl rfl rfl cd_X8_isWidth ⟨Nat.le_of_ble_eq_true rfl, Nat.le_of_ble_eq_true rfl⟩) hP hD hK [0, 1] (by decide) rfl rfl rfl rfl hl.1 rfl (Nat.le_of_ble_eq_true rfl) dX8_heap_2 ⟨Nat.zero_le _, Nat.zero_le _⟩ ?_
  refine lv_if_eq (tgt := 35) hx hb dX8_heap_5 (by decide) (fun c_2 => ?_) (fun c_2 => ?_)
  · have h := it_p c_2 h
    refine lv_iconst (v := (-1)) hx hb dX8_heap_35 (by decide) ?_
    have h := Option.some.inj h
    exact W.iret hx hb hr (fun t ht hW => ⟨⟨_, (), rfl, by rw [← h], by (try rw [← h]); rw [ht]; exact hP, va_K.moved hW.alike hK, by (try rw [← h]); exact hD⟩, hS.F ht⟩) hS.2.2 dX8_heap_36
  · have h := it_n c_2 h
    refine lv_iload_n hx hb dX8_heap_8 rfl (lv_at hl 2 rfl) ?_
    refine lv_i2l hx hb dX8_heap_9 rfl ?_
    refine lv_lconst (v := 0) hx hb dX8_heap_10 (by decide) ?_
    refine lv_ldc2 (v := 12) hx hb hown (hts (.constantLong RX8 130 (12)) (by decide +kernel)) dX8_heap_11 ?_
    obtain ⟨r_3, hg, h⟩ := bd_some h
    refine rdS (As := [.long x2.toInt64, .long 0, .long 12]) (rest := []) ⟨hx, hb, hml, hown, hts⟩ (k_X8_isIn l dC dI cI cZ cS N x2.toInt64 0 12 r_3 hg) (va_cwS 3 hts gX8_heap_X8_isIn rfl rfl rfl cd_X8_isIn ⟨Nat.le_of_ble_eq_true rfl, Nat.le_of_ble_eq_true rfl⟩) hP hD hK [] (by decide) rfl rfl hl.1 rfl (Nat.le_of_ble_eq_true rfl) dX8_heap_14 ⟨Nat.zero_le _, Nat.zero_le _⟩ ?_
    refine lv_if_eq (tgt := 35) hx hb dX8_heap_17 (by decide) (fun c_4 => ?_) (fun c_4 => ?_)
    · have h := it_p c_4 h
      refine lv_iconst (v := (-1)) hx hb dX8_heap_35 (by decide) ?_
      have h := Option.some.inj h
      exact W.iret hx hb hr (fun t ht hW => ⟨⟨_, (), rfl, by rw [← h], by (try rw [← h]); rw [ht]; exact hP, va_K.moved hW.alike hK, by (try rw [← h]); exact hD⟩, hS.F ht⟩) hS.2.2 dX8_heap_36
    · have h := it_n c_4 h
      refine lv_aload_n hx hb dX8_heap_20 rfl (lv_at hl 0 rfl) ?_
      refine lv_iconst (v := 3) hx hb dX8_heap_21 (by decide) ?_
      refine lv_iconst (v := 3) hx hb dX8_heap_22 (by decide) ?_
      refine lv_iload_n hx hb dX8_heap_23 rfl (lv_at hl 1 rfl) ?_
      refine lv_imul hx hb dX8_heap_24 ?_
      refine lv_iadd hx hb dX8_heap_25 ?_
      refine lv_iconst (v := 1) hx hb dX8_heap_26 (by decide) ?_
      refine lv_iadd hx hb dX8_heap_27 ?_
      refine lv_iload_n hx hb dX8_heap_28 rfl (lv_at hl 2 rfl) ?_
      obtain ⟨r_5, hg, h⟩ := bd_some h
      refine mtVi (As := [.int ((3 + (3 * x1)) + 1), .int x2]) (rest := []) (ci := 7) (wr := []) (w2 := [(aM, .inr (7, fs_M)), (aM_s, .inl (cI, 99, .inl r_5.2))]) ⟨hx, hb, hml, hown, hts⟩ (k_X8_becomes l dC dI cI cZ cS N aM aM_s fs_M _ M_s ((3 + (3 * x1)) + 1) x2 hf_M_s r_5 hg) (cwV 2 hts gX8_heap_X8_becomes rfl rfl rfl cd_X8_becomes ⟨Nat.le_of_ble_eq_true rfl, Nat.le_of_ble_eq_true rfl⟩) hP hD hK hS hA [0, 1] [] [0, 1] (by decide) (by decide) (by decide) (by decide) rfl rfl rfl rfl rfl rfl hl.1 rfl (Nat.le_of_ble_eq_true rfl) dX8_heap_29 ⟨Nat.zero_le _, Nat.zero_le _⟩ (fun H locs hP hD hS => ?_)
      refine lv_goto (tgt := 36) hx hb dX8_heap_32 (by decide) ?_
      have h := Option.some.inj h
      exact W.iret hx hb hr (fun t ht hW => ⟨⟨_, (), rfl, by rw [← h], by (try rw [← h]); rw [ht]; exact hP, va_K.moved hW.alike hK, by (try rw [← h]); exact hD⟩, hS.F ht⟩) hS.2.2 dX8_heap_36
def f_X8_lap (N : Nat) (M_s : Nat → Int32) (x1 : Int32) : Option (Int32 × (Nat → Int32)) :=
  (f_X8_isIn N x1.toInt64 0 20).bind fun r_1 => if (b2i r_1) = 0 then (some ((-1), M_s)) else ((f_X8_becomes N M_s 0 x1).bind fun r_3 => some (r_3.1, r_3.2))
set_option maxHeartbeats 4000000 in
set_option maxRecDepth 100000 in
theorem k_X8_lap (l : Launch) (dC : Nat → ClassId) (dI : Nat → Nat → Nat) (cI cZ cS : ClassId) (N : Nat) (aM aM_s : Nat) (fs_M : List Value) (sz : Nat) (M_s : Nat → Int32) (x1 : Int32) (hf_M_s : fs_M[0]? = some (.ref aM_s)) (res : Int32 × (Nat → Int32)) (h : f_X8_lap N M_s x1 = some res) : Met l yX8_lap wsX8_lap ({ frames := 1, cells := 0, slots := 0, locals := 25 }) (va_Pc [.ref aM, .int x1] (preW (dC, dI) cI cZ cS [(aM, .inr (7, fs_M)), (aM_s, .inl (cI, 99, .inl M_s))] sz)) (va_Qi (fun (r : Int32) (_ : Unit) => r = res.1) (fun _ => qW (dC, dI) cI cZ cS (va_A [(aM, .inr (7, fs_M)), (aM_s, .inl (cI, 99, .inl M_s))] sz) [(aM, .inr (7, fs_M)), (aM_s, .inl (cI, 99, .inl res.2))]) (va_A [(aM, .inr (7, fs_M)), (aM_s, .inl (cI, 99, .inl M_s))] sz)) 0 0 (va_A [(aM, .inr (7, fs_M)), (aM_s, .inl (cI, 99, .inl M_s))] sz) := by
  refine Met.ofW (cc := cX8_lap) (maxL := 2) (ret := (some .int)) (by decide) rfl ?_
  intro p e s m args below meth c s₁ B hml hv
  obtain ⟨rfl, hsz, hP, hK, hD0⟩ := hv
  have hx := B.exec
  have hb := B.bytes
  have hr := B.returns
  have hts := atoms_spec (ws := wsX8_lap) B.pre
  have hown : s.vm.findClass RX8 = some m.cls := findClass_of_methodNamed B.named
  have hlocks := B.notSynchronized
  subst hsz
  have hD := hD0.self (sz := s.heap.size)
  generalize hAe : va_A [(aM, .inr (7, fs_M)), (aM_s, .inl (cI, 99, .inl M_s))] s.heap.size = A at hD ⊢
  have hA : ∀ q : Nat, s.heap.size ≤ q → A q := fun q h => by rw [← hAe]; exact Or.inr h
  have hS : va_S A s.heap s.heap [] := va_S.rf
  have hl := lv_entry ([.ref aM, .int x1]) (n := 2) (Nat.le_of_ble_eq_true rfl)
  rw [lg_entry_eq]
  generalize (lg_sl ([.ref aM, .int x1]) ++ List.replicate (2 - (lg_sl ([.ref aM, .int x1])).length) Slot.unset).toArray = ls at hl ⊢
  have hl : lv_has ls 2 [(0, .ref aM), (1, .int x1)] := hl
  unfold f_X8_lap at h
  refine lv_iload_n hx hb dX8_lap_0 rfl (lv_at hl 1 rfl) ?_
  refine lv_i2l hx hb dX8_lap_1 rfl ?_
  refine lv_lconst (v := 0) hx hb dX8_lap_2 (by decide) ?_
  refine lv_ldc2 (v := 20) hx hb hown (hts (.constantLong RX8 135 (20)) (by decide +kernel)) dX8_lap_3 ?_
  obtain ⟨r_1, hg, h⟩ := bd_some h
  refine rdS (As := [.long x1.toInt64, .long 0, .long 20]) (rest := []) ⟨hx, hb, hml, hown, hts⟩ (k_X8_isIn l dC dI cI cZ cS N x1.toInt64 0 20 r_1 hg) (va_cwS 3 hts gX8_lap_X8_isIn rfl rfl rfl cd_X8_isIn ⟨Nat.le_of_ble_eq_true rfl, Nat.le_of_ble_eq_true rfl⟩) hP hD hK [] (by decide) rfl rfl hl.1 rfl (Nat.le_of_ble_eq_true rfl) dX8_lap_6 ⟨Nat.zero_le _, Nat.zero_le _⟩ ?_
  refine lv_if_eq (tgt := 21) hx hb dX8_lap_9 (by decide) (fun c_2 => ?_) (fun c_2 => ?_)
  · have h := it_p c_2 h
    refine lv_iconst (v := (-1)) hx hb dX8_lap_21 (by decide) ?_
    have h := Option.some.inj h
    exact W.iret hx hb hr (fun t ht hW => ⟨⟨_, (), rfl, by rw [← h], by (try rw [← h]); rw [ht]; exact hP, va_K.moved hW.alike hK, by (try rw [← h]); exact hD⟩, hS.F ht⟩) hS.2.2 dX8_lap_22
  · have h := it_n c_2 h
    refine lv_aload_n hx hb dX8_lap_12 rfl (lv_at hl 0 rfl) ?_
    refine lv_iconst (v := 0) hx hb dX8_lap_13 (by decide) ?_
    refine lv_iload_n hx hb dX8_lap_14 rfl (lv_at hl 1 rfl) ?_
    obtain ⟨r_3, hg, h⟩ := bd_some h
    refine mtVi (As := [.int 0, .int x1]) (rest := []) (ci := 7) (wr := []) (w2 := [(aM, .inr (7, fs_M)), (aM_s, .inl (cI, 99, .inl r_3.2))]) ⟨hx, hb, hml, hown, hts⟩ (k_X8_becomes l dC dI cI cZ cS N aM aM_s fs_M _ M_s 0 x1 hf_M_s r_3 hg) (cwV 2 hts gX8_lap_X8_becomes rfl rfl rfl cd_X8_becomes ⟨Nat.le_of_ble_eq_true rfl, Nat.le_of_ble_eq_true rfl⟩) hP hD hK hS hA [0, 1] [] [0, 1] (by decide) (by decide) (by decide) (by decide) rfl rfl rfl rfl rfl rfl hl.1 rfl (Nat.le_of_ble_eq_true rfl) dX8_lap_15 ⟨Nat.zero_le _, Nat.zero_le _⟩ (fun H locs hP hD hS => ?_)
    refine lv_goto (tgt := 22) hx hb dX8_lap_18 (by decide) ?_
    have h := Option.some.inj h
    exact W.iret hx hb hr (fun t ht hW => ⟨⟨_, (), rfl, by rw [← h], by (try rw [← h]); rw [ht]; exact hP, va_K.moved hW.alike hK, by (try rw [← h]); exact hD⟩, hS.F ht⟩) hS.2.2 dX8_lap_22
def f_X8_endOf_L4 (N : Nat) (M_s : Nat → Int32) (x1 : Int32) : Nat → Int32 → Int32 → Option (Int32)
  | 0, _, _ => none
  | n + 1, v2, v3 =>
    (f_X8_slates N M_s x1).bind fun r_1 => if r_1 ≤ v3 then (some (v2)) else ((f_X8_slateOf N M_s x1 v3).bind fun r_3 => (f_X8_inches N M_s r_3).bind fun r_4 => f_X8_endOf_L4 N M_s x1 n (v2 + r_4) (v3 + 1))
def f_X8_endOf (N : Nat) (M_s : Nat → Int32) (x1 : Int32) : Option (Int32) :=
  f_X8_endOf_L4 N M_s x1 N 0 0
set_option maxHeartbeats 4000000 in
set_option maxRecDepth 100000 in
theorem k_X8_endOf (l : Launch) (dC : Nat → ClassId) (dI : Nat → Nat → Nat) (cI cZ cS : ClassId) (N : Nat) (aM aM_s : Nat) (fs_M : List Value) (M_s : Nat → Int32) (x1 : Int32) (hf_M_s : fs_M[0]? = some (.ref aM_s)) (res : Int32) (h : f_X8_endOf N M_s x1 = some res) : Met l yX8_endOf wsX8_endOf ({ frames := 1, cells := 0, slots := 0, locals := 22 }) (va_Pc [.ref aM, .int x1] (wd (dC, dI) cI cZ cS [(aM, .inr (7, fs_M)), (aM_s, .inl (cI, 99, .inl M_s))])) (vp_Si (fun r => r = res)) 0 0 (fun _ => False) := by
  refine Met.ofW (cc := cX8_endOf) (maxL := 4) (ret := (some .int)) (by decide) rfl ?_
  intro p e s m args below meth c s₁ B hml hv
  obtain ⟨rfl, hP, hK, hD⟩ := hv
  have hx := B.exec
  have hb := B.bytes
  have hr := B.returns
  have hts := atoms_spec (ws := wsX8_endOf) B.pre
  have hown : s.vm.findClass RX8 = some m.cls := findClass_of_methodNamed B.named
  have hlocks := B.notSynchronized
  have hl := lv_entry ([.ref aM, .int x1]) (n := 4) (Nat.le_of_ble_eq_true rfl)
  rw [lg_entry_eq]
  generalize (lg_sl ([.ref aM, .int x1]) ++ List.replicate (4 - (lg_sl ([.ref aM, .int x1])).length) Slot.unset).toArray = ls at hl ⊢
  have hl : lv_has ls 4 [(0, .ref aM), (1, .int x1)] := hl
  unfold f_X8_endOf at h
  refine lv_iconst (v := 0) hx hb dX8_endOf_0 (by decide) ?_
  refine lv_istore_n (lv' := [(2, .int 0), (0, .ref aM), (1, .int x1)]) hx hb dX8_endOf_1 rfl hl (by decide) rfl (fun ls hl => ?_)
  refine lv_iconst (v := 0) hx hb dX8_endOf_2 (by decide) ?_
  refine lv_istore_n (lv' := [(3, .int 0), (2, .int 0), (0, .ref aM), (1, .int x1)]) hx hb dX8_endOf_3 rfl hl (by decide) rfl (fun ls hl => ?_)
  have L4_4 : ∀ (n_5 : Nat) (v2_6 : Int32) (v3_7 : Int32)  (ls : Array Slot), f_X8_endOf_L4 N M_s x1 n_5 v2_6 v3_7 = some res → lv_has ls 4 [(0, .ref aM), (1, .int x1), (2, .int v2_6), (3, .int v3_7)] → W p l e (headSpec wsX8_endOf ({ frames := 1, cells := 0, slots := 0, locals := 22 })).room s m ([.ref aM, .int x1] : List Value).toArray below meth c s.heap [] 0 0 (MQ below (vp_Si (fun r => r = res)) ([.ref aM, .int x1] : List Value).toArray s 0 0 (fun _ => False)) (F0 m 4 ls []) := by
    intro n_5
    induction n_5 with
    | zero =>
      intro v2_6 v3_7 ls h
      simp only [f_X8_endOf_L4] at h
      try exact absurd h (by simp)
    | succ n_5 ihn_5 =>
      intro v2_6 v3_7 ls h hl
      rw [f_X8_endOf_L4] at h
      refine lv_iload_n hx hb dX8_endOf_4 rfl (lv_at hl 3 rfl) ?_
      refine lv_aload_n hx hb dX8_endOf_5 rfl (lv_at hl 0 rfl) ?_
      refine lv_iload_n hx hb dX8_endOf_6 rfl (lv_at hl 1 rfl) ?_
      obtain ⟨r_8, hg, h⟩ := bd_some h
      refine rdV (As := [.int x1]) (rest := [.int v3_7]) (ci := 7) ⟨hx, hb, hml, hown, hts⟩ (k_X8_slates l dC dI cI cZ cS N aM aM_s fs_M M_s x1 hf_M_s r_8 hg) (cwV 1 hts gX8_endOf_X8_slates rfl rfl rfl cd_X8_slates ⟨Nat.le_of_ble_eq_true rfl, Nat.le_of_ble_eq_true rfl⟩) hP hD hK [0, 1] (by decide) rfl rfl rfl rfl hl.1 rfl (Nat.le_of_ble_eq_true rfl) dX8_endOf_7 ⟨Nat.zero_le _, Nat.zero_le _⟩ ?_
      refine lv_icmp_ge (tgt := 32) hx hb dX8_endOf_10 (by decide) (fun c_9 => ?_) (fun c_9 => ?_)
      · have h := it_p c_9 h
        refine lv_iload_n hx hb dX8_endOf_32 rfl (lv_at hl 2 rfl) ?_
        exact W.iret hx hb hr (fun t ht hW => ⟨_, rfl, Option.some.inj h, ht⟩) (fun q hq => by cases hq) dX8_endOf_33
      · have h := it_n c_9 h
        refine lv_iload_n hx hb dX8_endOf_13 rfl (lv_at hl 2 rfl) ?_
        refine lv_aload_n hx hb dX8_endOf_14 rfl (lv_at hl 0 rfl) ?_
        refine lv_aload_n hx hb dX8_endOf_15 rfl (lv_at hl 0 rfl) ?_
        refine lv_iload_n hx hb dX8_endOf_16 rfl (lv_at hl 1 rfl) ?_
        refine lv_iload_n hx hb dX8_endOf_17 rfl (lv_at hl 3 rfl) ?_
        obtain ⟨r_10, hg, h⟩ := bd_some h
        refine rdV (As := [.int x1, .int v3_7]) (rest := [.ref aM, .int v2_6]) (ci := 7) ⟨hx, hb, hml, hown, hts⟩ (k_X8_slateOf l dC dI cI cZ cS N aM aM_s fs_M M_s x1 v3_7 hf_M_s r_10 hg) (cwV 2 hts gX8_endOf_X8_slateOf rfl rfl rfl cd_X8_slateOf ⟨Nat.le_of_ble_eq_true rfl, Nat.le_of_ble_eq_true rfl⟩) hP hD hK [0, 1] (by decide) rfl rfl rfl rfl hl.1 rfl (Nat.le_of_ble_eq_true rfl) dX8_endOf_18 ⟨Nat.zero_le _, Nat.zero_le _⟩ ?_
        obtain ⟨r_11, hg, h⟩ := bd_some h
        refine rdV (As := [.int r_10]) (rest := [.int v2_6]) (ci := 7) ⟨hx, hb, hml, hown, hts⟩ (k_X8_inches l dC dI cI cZ cS N aM aM_s fs_M M_s r_10 hf_M_s r_11 hg) (cwV 1 hts gX8_endOf_X8_inches rfl rfl rfl cd_X8_inches ⟨Nat.le_of_ble_eq_true rfl, Nat.le_of_ble_eq_true rfl⟩) hP hD hK [0, 1] (by decide) rfl rfl rfl rfl hl.1 rfl (Nat.le_of_ble_eq_true rfl) dX8_endOf_21 ⟨Nat.zero_le _, Nat.zero_le _⟩ ?_
        refine lv_iadd hx hb dX8_endOf_24 ?_
        refine lv_istore_n (lv' := [(2, .int (v2_6 + r_11)), (0, .ref aM), (1, .int x1), (3, .int v3_7)]) hx hb dX8_endOf_25 rfl hl (by decide) rfl (fun ls hl => ?_)
        refine lv_iinc (v := (v3_7 + 1)) (lv' := [(3, .int (v3_7 + 1)), (2, .int (v2_6 + r_11)), (0, .ref aM), (1, .int x1)]) hx hb dX8_endOf_26 hl (k := 3) rfl rfl (by decide) rfl (fun ls hl => ?_)
        refine lv_goto (tgt := 4) hx hb dX8_endOf_29 (by decide) ?_
        exact ihn_5 (v2_6 + r_11) (v3_7 + 1) ls h (lv_sub hl [2, 3, 1, 0] rfl)
  exact L4_4 N 0 0 ls h (lv_sub hl [2, 3, 1, 0] rfl)
def f_X8_cutOf (N : Nat) (M_s : Nat → Int32) (x1 : Int32) : Option (Int32) :=
  (f_X8_isLaid N M_s x1).bind fun r_1 => if (b2i r_1) = 0 then (some (0)) else ((f_X8_endOf N M_s x1).bind fun r_3 => (f_X8_lengthOf N M_s x1).bind fun r_4 => some ((r_3 - r_4)))
set_option maxHeartbeats 4000000 in
set_option maxRecDepth 100000 in
theorem k_X8_cutOf (l : Launch) (dC : Nat → ClassId) (dI : Nat → Nat → Nat) (cI cZ cS : ClassId) (N : Nat) (aM aM_s : Nat) (fs_M : List Value) (M_s : Nat → Int32) (x1 : Int32) (hf_M_s : fs_M[0]? = some (.ref aM_s)) (res : Int32) (h : f_X8_cutOf N M_s x1 = some res) : Met l yX8_cutOf wsX8_cutOf ({ frames := 2, cells := 0, slots := 0, locals := 45 }) (va_Pc [.ref aM, .int x1] (wd (dC, dI) cI cZ cS [(aM, .inr (7, fs_M)), (aM_s, .inl (cI, 99, .inl M_s))])) (vp_Si (fun r => r = res)) 0 0 (fun _ => False) := by
  refine Met.ofW (cc := cX8_cutOf) (maxL := 2) (ret := (some .int)) (by decide) rfl ?_
  intro p e s m args below meth c s₁ B hml hv
  obtain ⟨rfl, hP, hK, hD⟩ := hv
  have hx := B.exec
  have hb := B.bytes
  have hr := B.returns
  have hts := atoms_spec (ws := wsX8_cutOf) B.pre
  have hown : s.vm.findClass RX8 = some m.cls := findClass_of_methodNamed B.named
  have hlocks := B.notSynchronized
  have hl := lv_entry ([.ref aM, .int x1]) (n := 2) (Nat.le_of_ble_eq_true rfl)
  rw [lg_entry_eq]
  generalize (lg_sl ([.ref aM, .int x1]) ++ List.replicate (2 - (lg_sl ([.ref aM, .int x1])).length) Slot.unset).toArray = ls at hl ⊢
  have hl : lv_has ls 2 [(0, .ref aM), (1, .int x1)] := hl
  unfold f_X8_cutOf at h
  refine lv_aload_n hx hb dX8_cutOf_0 rfl (lv_at hl 0 rfl) ?_
  refine lv_iload_n hx hb dX8_cutOf_1 rfl (lv_at hl 1 rfl) ?_
  obtain ⟨r_1, hg, h⟩ := bd_some h
  refine rdV (As := [.int x1]) (rest := []) (ci := 7) ⟨hx, hb, hml, hown, hts⟩ (k_X8_isLaid l dC dI cI cZ cS N aM aM_s fs_M M_s x1 hf_M_s r_1 hg) (cwV 1 hts gX8_cutOf_X8_isLaid rfl rfl rfl cd_X8_isLaid ⟨Nat.le_of_ble_eq_true rfl, Nat.le_of_ble_eq_true rfl⟩) hP hD hK [0, 1] (by decide) rfl rfl rfl rfl hl.1 rfl (Nat.le_of_ble_eq_true rfl) dX8_cutOf_2 ⟨Nat.zero_le _, Nat.zero_le _⟩ ?_
  refine lv_if_eq (tgt := 22) hx hb dX8_cutOf_5 (by decide) (fun c_2 => ?_) (fun c_2 => ?_)
  · have h := it_p c_2 h
    refine lv_iconst (v := 0) hx hb dX8_cutOf_22 (by decide) ?_
    exact W.iret hx hb hr (fun t ht hW => ⟨_, rfl, Option.some.inj h, ht⟩) (fun q hq => by cases hq) dX8_cutOf_23
  · have h := it_n c_2 h
    refine lv_aload_n hx hb dX8_cutOf_8 rfl (lv_at hl 0 rfl) ?_
    refine lv_iload_n hx hb dX8_cutOf_9 rfl (lv_at hl 1 rfl) ?_
    obtain ⟨r_3, hg, h⟩ := bd_some h
    refine rdV (As := [.int x1]) (rest := []) (ci := 7) ⟨hx, hb, hml, hown, hts⟩ (k_X8_endOf l dC dI cI cZ cS N aM aM_s fs_M M_s x1 hf_M_s r_3 hg) (cwV 1 hts gX8_cutOf_X8_endOf rfl rfl rfl cd_X8_endOf ⟨Nat.le_of_ble_eq_true rfl, Nat.le_of_ble_eq_true rfl⟩) hP hD hK [0, 1] (by decide) rfl rfl rfl rfl hl.1 rfl (Nat.le_of_ble_eq_true rfl) dX8_cutOf_10 ⟨Nat.zero_le _, Nat.zero_le _⟩ ?_
    refine lv_aload_n hx hb dX8_cutOf_13 rfl (lv_at hl 0 rfl) ?_
    refine lv_iload_n hx hb dX8_cutOf_14 rfl (lv_at hl 1 rfl) ?_
    obtain ⟨r_4, hg, h⟩ := bd_some h
    refine rdV (As := [.int x1]) (rest := [.int r_3]) (ci := 7) ⟨hx, hb, hml, hown, hts⟩ (k_X8_lengthOf l dC dI cI cZ cS N aM aM_s fs_M M_s x1 hf_M_s r_4 hg) (cwV 1 hts gX8_cutOf_X8_lengthOf rfl rfl rfl cd_X8_lengthOf ⟨Nat.le_of_ble_eq_true rfl, Nat.le_of_ble_eq_true rfl⟩) hP hD hK [0, 1] (by decide) rfl rfl rfl rfl hl.1 rfl (Nat.le_of_ble_eq_true rfl) dX8_cutOf_15 ⟨Nat.zero_le _, Nat.zero_le _⟩ ?_
    refine lv_isub hx hb dX8_cutOf_18 ?_
    refine lv_goto (tgt := 23) hx hb dX8_cutOf_19 (by decide) ?_
    exact W.iret hx hb hr (fun t ht hW => ⟨_, rfl, Option.some.inj h, ht⟩) (fun q hq => by cases hq) dX8_cutOf_23
def f_X8_rowOf (N : Nat) (M_s : Nat → Int32) (x1 : Int32) (x2 : Int32) : Option (Int32) :=
  (f_X8_isRow N M_s x1).bind fun r_1 => if (b2i r_1) = 0 then (some ((-1))) else ((f_X8_isIn N x2.toInt64 0 2).bind fun r_3 => if (b2i r_3) = 0 then (some ((-1))) else (if x2 = 0 then ((f_X8_lengthOf N M_s x1).bind fun r_9 => some (r_9)) else (if x2 = 1 then ((f_X8_slates N M_s x1).bind fun r_8 => some (r_8)) else ((f_X8_cutOf N M_s x1).bind fun r_7 => some (r_7)))))
set_option maxHeartbeats 4000000 in
set_option maxRecDepth 100000 in
theorem k_X8_rowOf (l : Launch) (dC : Nat → ClassId) (dI : Nat → Nat → Nat) (cI cZ cS : ClassId) (N : Nat) (aM aM_s : Nat) (fs_M : List Value) (M_s : Nat → Int32) (x1 : Int32) (x2 : Int32) (hf_M_s : fs_M[0]? = some (.ref aM_s)) (res : Int32) (h : f_X8_rowOf N M_s x1 x2 = some res) : Met l yX8_rowOf wsX8_rowOf ({ frames := 3, cells := 0, slots := 0, locals := 66 }) (va_Pc [.ref aM, .int x1, .int x2] (wd (dC, dI) cI cZ cS [(aM, .inr (7, fs_M)), (aM_s, .inl (cI, 99, .inl M_s))])) (vp_Si (fun r => r = res)) 0 0 (fun _ => False) := by
  refine Met.ofW (cc := cX8_rowOf) (maxL := 3) (ret := (some .int)) (by decide) rfl ?_
  intro p e s m args below meth c s₁ B hml hv
  obtain ⟨rfl, hP, hK, hD⟩ := hv
  have hx := B.exec
  have hb := B.bytes
  have hr := B.returns
  have hts := atoms_spec (ws := wsX8_rowOf) B.pre
  have hown : s.vm.findClass RX8 = some m.cls := findClass_of_methodNamed B.named
  have hlocks := B.notSynchronized
  have hl := lv_entry ([.ref aM, .int x1, .int x2]) (n := 3) (Nat.le_of_ble_eq_true rfl)
  rw [lg_entry_eq]
  generalize (lg_sl ([.ref aM, .int x1, .int x2]) ++ List.replicate (3 - (lg_sl ([.ref aM, .int x1, .int x2])).length) Slot.unset).toArray = ls at hl ⊢
  have hl : lv_has ls 3 [(0, .ref aM), (1, .int x1), (2, .int x2)] := hl
  unfold f_X8_rowOf at h
  refine lv_aload_n hx hb dX8_rowOf_0 rfl (lv_at hl 0 rfl) ?_
  refine lv_iload_n hx hb dX8_rowOf_1 rfl (lv_at hl 1 rfl) ?_
  obtain ⟨r_1, hg, h⟩ := bd_some h
  refine rdV (As := [.int x1]) (rest := []) (ci := 7) ⟨hx, hb, hml, hown, hts⟩ (k_X8_isRow l dC dI cI cZ cS N aM aM_s fs_M M_s x1 hf_M_s r_1 hg) (cwV 1 hts gX8_rowOf_X8_isRow rfl rfl rfl cd_X8_isRow ⟨Nat.le_of_ble_eq_true rfl, Nat.le_of_ble_eq_true rfl⟩) hP hD hK [0, 1] (by decide) rfl rfl rfl rfl hl.1 rfl (Nat.le_of_ble_eq_true rfl) dX8_rowOf_2 ⟨Nat.zero_le _, Nat.zero_le _⟩ ?_
  refine lv_if_eq (tgt := 20) hx hb dX8_rowOf_5 (by decide) (fun c_2 => ?_) (fun c_2 => ?_)
  · have h := it_p c_2 h
    refine lv_iconst (v := (-1)) hx hb dX8_rowOf_20 (by decide) ?_
    refine lv_goto (tgt := 54) hx hb dX8_rowOf_21 (by decide) ?_
    exact W.iret hx hb hr (fun t ht hW => ⟨_, rfl, Option.some.inj h, ht⟩) (fun q hq => by cases hq) dX8_rowOf_54
  · have h := it_n c_2 h
    refine lv_iload_n hx hb dX8_rowOf_8 rfl (lv_at hl 2 rfl) ?_
    refine lv_i2l hx hb dX8_rowOf_9 rfl ?_
    refine lv_lconst (v := 0) hx hb dX8_rowOf_10 (by decide) ?_
    refine lv_ldc2 (v := 2) hx hb hown (hts (.constantLong RX8 128 (2)) (by decide +kernel)) dX8_rowOf_11 ?_
    obtain ⟨r_3, hg, h⟩ := bd_some h
    refine rdS (As := [.long x2.toInt64, .long 0, .long 2]) (rest := []) ⟨hx, hb, hml, hown, hts⟩ (k_X8_isIn l dC dI cI cZ cS N x2.toInt64 0 2 r_3 hg) (va_cwS 3 hts gX8_rowOf_X8_isIn rfl rfl rfl cd_X8_isIn ⟨Nat.le_of_ble_eq_true rfl, Nat.le_of_ble_eq_true rfl⟩) hP hD hK [] (by decide) rfl rfl hl.1 rfl (Nat.le_of_ble_eq_true rfl) dX8_rowOf_14 ⟨Nat.zero_le _, Nat.zero_le _⟩ ?_
    refine lv_if_ne (tgt := 24) hx hb dX8_rowOf_17 (by decide) (fun c_4 => ?_) (fun c_4 => ?_)
    · have h := it_n c_4 h
      refine lv_iload_n hx hb dX8_rowOf_24 rfl (lv_at hl 2 rfl) ?_
      refine lv_if_ne (tgt := 36) hx hb dX8_rowOf_25 (by decide) (fun c_5 => ?_) (fun c_5 => ?_)
      · have h := it_n c_5 h
        refine lv_iload_n hx hb dX8_rowOf_36 rfl (lv_at hl 2 rfl) ?_
        refine lv_iconst (v := 1) hx hb dX8_rowOf_37 (by decide) ?_
        refine lv_icmp_ne (tgt := 49) hx hb dX8_rowOf_38 (by decide) (fun c_6 => ?_) (fun c_6 => ?_)
        · have h := it_n c_6 h
          refine lv_aload_n hx hb dX8_rowOf_49 rfl (lv_at hl 0 rfl) ?_
          refine lv_iload_n hx hb dX8_rowOf_50 rfl (lv_at hl 1 rfl) ?_
          obtain ⟨r_7, hg, h⟩ := bd_some h
          refine rdV (As := [.int x1]) (rest := []) (ci := 7) ⟨hx, hb, hml, hown, hts⟩ (k_X8_cutOf l dC dI cI cZ cS N aM aM_s fs_M M_s x1 hf_M_s r_7 hg) (cwV 1 hts gX8_rowOf_X8_cutOf rfl rfl rfl cd_X8_cutOf ⟨Nat.le_of_ble_eq_true rfl, Nat.le_of_ble_eq_true rfl⟩) hP hD hK [0, 1] (by decide) rfl rfl rfl rfl hl.1 rfl (Nat.le_of_ble_eq_true rfl) dX8_rowOf_51 ⟨Nat.zero_le _, Nat.zero_le _⟩ ?_
          exact W.iret hx hb hr (fun t ht hW => ⟨_, rfl, Option.some.inj h, ht⟩) (fun q hq => by cases hq) dX8_rowOf_54
        · have h := it_p c_6 h
          refine lv_aload_n hx hb dX8_rowOf_41 rfl (lv_at hl 0 rfl) ?_
          refine lv_iload_n hx hb dX8_rowOf_42 rfl (lv_at hl 1 rfl) ?_
          obtain ⟨r_8, hg, h⟩ := bd_some h
          refine rdV (As := [.int x1]) (rest := []) (ci := 7) ⟨hx, hb, hml, hown, hts⟩ (k_X8_slates l dC dI cI cZ cS N aM aM_s fs_M M_s x1 hf_M_s r_8 hg) (cwV 1 hts gX8_rowOf_X8_slates rfl rfl rfl cd_X8_slates ⟨Nat.le_of_ble_eq_true rfl, Nat.le_of_ble_eq_true rfl⟩) hP hD hK [0, 1] (by decide) rfl rfl rfl rfl hl.1 rfl (Nat.le_of_ble_eq_true rfl) dX8_rowOf_43 ⟨Nat.zero_le _, Nat.zero_le _⟩ ?_
          refine lv_goto (tgt := 54) hx hb dX8_rowOf_46 (by decide) ?_
          exact W.iret hx hb hr (fun t ht hW => ⟨_, rfl, Option.some.inj h, ht⟩) (fun q hq => by cases hq) dX8_rowOf_54
      · have h := it_p c_5 h
        refine lv_aload_n hx hb dX8_rowOf_28 rfl (lv_at hl 0 rfl) ?_
        refine lv_iload_n hx hb dX8_rowOf_29 rfl (lv_at hl 1 rfl) ?_
        obtain ⟨r_9, hg, h⟩ := bd_some h
        refine rdV (As := [.int x1]) (rest := []) (ci := 7) ⟨hx, hb, hml, hown, hts⟩ (k_X8_lengthOf l dC dI cI cZ cS N aM aM_s fs_M M_s x1 hf_M_s r_9 hg) (cwV 1 hts gX8_rowOf_X8_lengthOf rfl rfl rfl cd_X8_lengthOf ⟨Nat.le_of_ble_eq_true rfl, Nat.le_of_ble_eq_true rfl⟩) hP hD hK [0, 1] (by decide) rfl rfl rfl rfl hl.1 rfl (Nat.le_of_ble_eq_true rfl) dX8_rowOf_30 ⟨Nat.zero_le _, Nat.zero_le _⟩ ?_
        refine lv_goto (tgt := 54) hx hb dX8_rowOf_33 (by decide) ?_
        exact W.iret hx hb hr (fun t ht hW => ⟨_, rfl, Option.some.inj h, ht⟩) (fun q hq => by cases hq) dX8_rowOf_54
    · have h := it_p c_4 h
      refine lv_iconst (v := (-1)) hx hb dX8_rowOf_20 (by decide) ?_
      refine lv_goto (tgt := 54) hx hb dX8_rowOf_21 (by decide) ?_
      exact W.iret hx hb hr (fun t ht hW => ⟨_, rfl, Option.some.inj h, ht⟩) (fun q hq => by cases hq) dX8_rowOf_54
def f_X8_slate (N : Nat) (M_s : Nat → Int32) (x1 : Int32) (x2 : Int32) : Option (Int32) :=
  (f_X8_isRow N M_s x1).bind fun r_1 => if (b2i r_1) = 0 then (some ((-1))) else (if 0 ≤ x2 then ((f_X8_slates N M_s x1).bind fun r_4 => if r_4 ≤ x2 then (some ((-4))) else ((f_X8_slateOf N M_s x1 x2).bind fun r_6 => some (r_6))) else (some ((-1))))
set_option maxHeartbeats 4000000 in
set_option maxRecDepth 100000 in
theorem k_X8_slate (l : Launch) (dC : Nat → ClassId) (dI : Nat → Nat → Nat) (cI cZ cS : ClassId) (N : Nat) (aM aM_s : Nat) (fs_M : List Value) (M_s : Nat → Int32) (x1 : Int32) (x2 : Int32) (hf_M_s : fs_M[0]? = some (.ref aM_s)) (res : Int32) (h : f_X8_slate N M_s x1 x2 = some res) : Met l yX8_slate wsX8_slate ({ frames := 2, cells := 0, slots := 0, locals := 46 }) (va_Pc [.ref aM, .int x1, .int x2] (wd (dC, dI) cI cZ cS [(aM, .inr (7, fs_M)), (aM_s, .inl (cI, 99, .inl M_s))])) (vp_Si (fun r => r = res)) 0 0 (fun _ => False) := by
  refine Met.ofW (cc := cX8_slate) (maxL := 3) (ret := (some .int)) (by decide) rfl ?_
  intro p e s m args below meth c s₁ B hml hv
  obtain ⟨rfl, hP, hK, hD⟩ := hv
  have hx := B.exec
  have hb := B.bytes
  have hr := B.returns
  have hts := atoms_spec (ws := wsX8_slate) B.pre
  have hown : s.vm.findClass RX8 = some m.cls := findClass_of_methodNamed B.named
  have hlocks := B.notSynchronized
  have hl := lv_entry ([.ref aM, .int x1, .int x2]) (n := 3) (Nat.le_of_ble_eq_true rfl)
  rw [lg_entry_eq]
  generalize (lg_sl ([.ref aM, .int x1, .int x2]) ++ List.replicate (3 - (lg_sl ([.ref aM, .int x1, .int x2])).length) Slot.unset).toArray = ls at hl ⊢
  have hl : lv_has ls 3 [(0, .ref aM), (1, .int x1), (2, .int x2)] := hl
  unfold f_X8_slate at h
  refine lv_aload_n hx hb dX8_slate_0 rfl (lv_at hl 0 rfl) ?_
  refine lv_iload_n hx hb dX8_slate_1 rfl (lv_at hl 1 rfl) ?_
  obtain ⟨r_1, hg, h⟩ := bd_some h
  refine rdV (As := [.int x1]) (rest := []) (ci := 7) ⟨hx, hb, hml, hown, hts⟩ (k_X8_isRow l dC dI cI cZ cS N aM aM_s fs_M M_s x1 hf_M_s r_1 hg) (cwV 1 hts gX8_slate_X8_isRow rfl rfl rfl cd_X8_isRow ⟨Nat.le_of_ble_eq_true rfl, Nat.le_of_ble_eq_true rfl⟩) hP hD hK [0, 1] (by decide) rfl rfl rfl rfl hl.1 rfl (Nat.le_of_ble_eq_true rfl) dX8_slate_2 ⟨Nat.zero_le _, Nat.zero_le _⟩ ?_
  refine lv_if_eq (tgt := 12) hx hb dX8_slate_5 (by decide) (fun c_2 => ?_) (fun c_2 => ?_)
  · have h := it_p c_2 h
    refine lv_iconst (v := (-1)) hx hb dX8_slate_12 (by decide) ?_
    refine lv_goto (tgt := 36) hx hb dX8_slate_13 (by decide) ?_
    exact W.iret hx hb hr (fun t ht hW => ⟨_, rfl, Option.some.inj h, ht⟩) (fun q hq => by cases hq) dX8_slate_36
  · have h := it_n c_2 h
    refine lv_iload_n hx hb dX8_slate_8 rfl (lv_at hl 2 rfl) ?_
    refine lv_if_ge (tgt := 16) hx hb dX8_slate_9 (by decide) (fun c_3 => ?_) (fun c_3 => ?_)
    · have h := it_p c_3 h
      refine lv_iload_n hx hb dX8_slate_16 rfl (lv_at hl 2 rfl) ?_
      refine lv_aload_n hx hb dX8_slate_17 rfl (lv_at hl 0 rfl) ?_
      refine lv_iload_n hx hb dX8_slate_18 rfl (lv_at hl 1 rfl) ?_
      obtain ⟨r_4, hg, h⟩ := bd_some h
      refine rdV (As := [.int x1]) (rest := [.int x2]) (ci := 7) ⟨hx, hb, hml, hown, hts⟩ (k_X8_slates l dC dI cI cZ cS N aM aM_s fs_M M_s x1 hf_M_s r_4 hg) (cwV 1 hts gX8_slate_X8_slates rfl rfl rfl cd_X8_slates ⟨Nat.le_of_ble_eq_true rfl, Nat.le_of_ble_eq_true rfl⟩) hP hD hK [0, 1] (by decide) rfl rfl rfl rfl hl.1 rfl (Nat.le_of_ble_eq_true rfl) dX8_slate_19 ⟨Nat.zero_le _, Nat.zero_le _⟩ ?_
      refine lv_icmp_ge (tgt := 34) hx hb dX8_slate_22 (by decide) (fun c_5 => ?_) (fun c_5 => ?_)
      · have h := it_p c_5 h
        refine lv_bipush (v := (-4)) hx hb dX8_slate_34 (by decide) ?_
        exact W.iret hx hb hr (fun t ht hW => ⟨_, rfl, Option.some.inj h, ht⟩) (fun q hq => by cases hq) dX8_slate_36
      · have h := it_n c_5 h
        refine lv_aload_n hx hb dX8_slate_25 rfl (lv_at hl 0 rfl) ?_
        refine lv_iload_n hx hb dX8_slate_26 rfl (lv_at hl 1 rfl) ?_
        refine lv_iload_n hx hb dX8_slate_27 rfl (lv_at hl 2 rfl) ?_
        obtain ⟨r_6, hg, h⟩ := bd_some h
        refine rdV (As := [.int x1, .int x2]) (rest := []) (ci := 7) ⟨hx, hb, hml, hown, hts⟩ (k_X8_slateOf l dC dI cI cZ cS N aM aM_s fs_M M_s x1 x2 hf_M_s r_6 hg) (cwV 2 hts gX8_slate_X8_slateOf rfl rfl rfl cd_X8_slateOf ⟨Nat.le_of_ble_eq_true rfl, Nat.le_of_ble_eq_true rfl⟩) hP hD hK [0, 1] (by decide) rfl rfl rfl rfl hl.1 rfl (Nat.le_of_ble_eq_true rfl) dX8_slate_28 ⟨Nat.zero_le _, Nat.zero_le _⟩ ?_
        refine lv_goto (tgt := 36) hx hb dX8_slate_31 (by decide) ?_
        exact W.iret hx hb hr (fun t ht hW => ⟨_, rfl, Option.some.inj h, ht⟩) (fun q hq => by cases hq) dX8_slate_36
    · have h := it_n c_3 h
      refine lv_iconst (v := (-1)) hx hb dX8_slate_12 (by decide) ?_
      refine lv_goto (tgt := 36) hx hb dX8_slate_13 (by decide) ?_
      exact W.iret hx hb hr (fun t ht hW => ⟨_, rfl, Option.some.inj h, ht⟩) (fun q hq => by cases hq) dX8_slate_36
def f_X8_jointOf_L5 (N : Nat) (M_s : Nat → Int32) (x1 : Int32) (x2 : Int32) : Nat → Int32 → Int32 → Option (Int32)
  | 0, _, _ => none
  | n + 1, v3, v4 =>
    if x2 < v4 then (some (v3)) else ((f_X8_slateOf N M_s x1 v4).bind fun r_2 => (f_X8_inches N M_s r_2).bind fun r_3 => f_X8_jointOf_L5 N M_s x1 x2 n (v3 + r_3) (v4 + 1))
def f_X8_jointOf (N : Nat) (M_s : Nat → Int32) (x1 : Int32) (x2 : Int32) : Option (Int32) :=
  f_X8_jointOf_L5 N M_s x1 x2 N 0 0
set_option maxHeartbeats 4000000 in
set_option maxRecDepth 100000 in
theorem k_X8_jointOf (l : Launch) (dC : Nat → ClassId) (dI : Nat → Nat → Nat) (cI cZ cS : ClassId) (N : Nat) (aM aM_s : Nat) (fs_M : List Value) (M_s : Nat → Int32) (x1 : Int32) (x2 : Int32) (hf_M_s : fs_M[0]? = some (.ref aM_s)) (res : Int32) (h : f_X8_jointOf N M_s x1 x2 = some res) : Met l yX8_jointOf wsX8_jointOf ({ frames := 1, cells := 0, slots := 0, locals := 22 }) (va_Pc [.ref aM, .int x1, .int x2] (wd (dC, dI) cI cZ cS [(aM, .inr (7, fs_M)), (aM_s, .inl (cI, 99, .inl M_s))])) (vp_Si (fun r => r = res)) 0 0 (fun _ => False) := by
  refine Met.ofW (cc := cX8_jointOf) (maxL := 5) (ret := (some .int)) (by decide) rfl ?_
  intro p e s m args below meth c s₁ B hml hv
  obtain ⟨rfl, hP, hK, hD⟩ := hv
  have hx := B.exec
  have hb := B.bytes
  have hr := B.returns
  have hts := atoms_spec (ws := wsX8_jointOf) B.pre
  have hown : s.vm.findClass RX8 = some m.cls := findClass_of_methodNamed B.named
  have hlocks := B.notSynchronized
  have hl := lv_entry ([.ref aM, .int x1, .int x2]) (n := 5) (Nat.le_of_ble_eq_true rfl)
  rw [lg_entry_eq]
  generalize (lg_sl ([.ref aM, .int x1, .int x2]) ++ List.replicate (5 - (lg_sl ([.ref aM, .int x1, .int x2])).length) Slot.unset).toArray = ls at hl ⊢
  have hl : lv_has ls 5 [(0, .ref aM), (1, .int x1), (2, .int x2)] := hl
  unfold f_X8_jointOf at h
  refine lv_iconst (v := 0) hx hb dX8_jointOf_0 (by decide) ?_
  refine lv_istore_n (lv' := [(3, .int 0), (0, .ref aM), (1, .int x1), (2, .int x2)]) hx hb dX8_jointOf_1 rfl hl (by decide) rfl (fun ls hl => ?_)
  refine lv_iconst (v := 0) hx hb dX8_jointOf_2 (by decide) ?_
  refine lv_istore (lv' := [(4, .int 0), (3, .int 0), (0, .ref aM), (1, .int x1), (2, .int x2)]) hx hb dX8_jointOf_3 hl (by decide) rfl (fun ls hl => ?_)
  have L5_3 : ∀ (n_4 : Nat) (v3_5 : Int32) (v4_6 : Int32)  (ls : Array Slot), f_X8_jointOf_L5 N M_s x1 x2 n_4 v3_5 v4_6 = some res → lv_has ls 5 [(0, .ref aM), (1, .int x1), (2, .int x2), (3, .int v3_5), (4, .int v4_6)] → W p l e (headSpec wsX8_jointOf ({ frames := 1, cells := 0, slots := 0, locals := 22 })).room s m ([.ref aM, .int x1, .int x2] : List Value).toArray below meth c s.heap [] 0 0 (MQ below (vp_Si (fun r => r = res)) ([.ref aM, .int x1, .int x2] : List Value).toArray s 0 0 (fun _ => False)) (F0 m 5 ls []) := by
    intro n_4
    induction n_4 with
    | zero =>
      intro v3_5 v4_6 ls h
      simp only [f_X8_jointOf_L5] at h
      try exact absurd h (by simp)
    | succ n_4 ihn_4 =>
      intro v3_5 v4_6 ls h hl
      rw [f_X8_jointOf_L5] at h
      refine lv_iload hx hb dX8_jointOf_5 (lv_at hl 4 rfl) ?_
      refine lv_iload_n hx hb dX8_jointOf_7 rfl (lv_at hl 2 rfl) ?_
      refine lv_icmp_gt (tgt := 31) hx hb dX8_jointOf_8 (by decide) (fun c_7 => ?_) (fun c_7 => ?_)
      · have h := it_p c_7 h
        refine lv_iload_n hx hb dX8_jointOf_31 rfl (lv_at hl 3 rfl) ?_
        exact W.iret hx hb hr (fun t ht hW => ⟨_, rfl, Option.some.inj h, ht⟩) (fun q hq => by cases hq) dX8_jointOf_32
      · have h := it_n c_7 h
        refine lv_iload_n hx hb dX8_jointOf_11 rfl (lv_at hl 3 rfl) ?_
        refine lv_aload_n hx hb dX8_jointOf_12 rfl (lv_at hl 0 rfl) ?_
        refine lv_aload_n hx hb dX8_jointOf_13 rfl (lv_at hl 0 rfl) ?_
        refine lv_iload_n hx hb dX8_jointOf_14 rfl (lv_at hl 1 rfl) ?_
        refine lv_iload hx hb dX8_jointOf_15 (lv_at hl 4 rfl) ?_
        obtain ⟨r_8, hg, h⟩ := bd_some h
        refine rdV (As := [.int x1, .int v4_6]) (rest := [.ref aM, .int v3_5]) (ci := 7) ⟨hx, hb, hml, hown, hts⟩ (k_X8_slateOf l dC dI cI cZ cS N aM aM_s fs_M M_s x1 v4_6 hf_M_s r_8 hg) (cwV 2 hts gX8_jointOf_X8_slateOf rfl rfl rfl cd_X8_slateOf ⟨Nat.le_of_ble_eq_true rfl, Nat.le_of_ble_eq_true rfl⟩) hP hD hK [0, 1] (by decide) rfl rfl rfl rfl hl.1 rfl (Nat.le_of_ble_eq_true rfl) dX8_jointOf_17 ⟨Nat.zero_le _, Nat.zero_le _⟩ ?_
        obtain ⟨r_9, hg, h⟩ := bd_some h
        refine rdV (As := [.int r_8]) (rest := [.int v3_5]) (ci := 7) ⟨hx, hb, hml, hown, hts⟩ (k_X8_inches l dC dI cI cZ cS N aM aM_s fs_M M_s r_8 hf_M_s r_9 hg) (cwV 1 hts gX8_jointOf_X8_inches rfl rfl rfl cd_X8_inches ⟨Nat.le_of_ble_eq_true rfl, Nat.le_of_ble_eq_true rfl⟩) hP hD hK [0, 1] (by decide) rfl rfl rfl rfl hl.1 rfl (Nat.le_of_ble_eq_true rfl) dX8_jointOf_20 ⟨Nat.zero_le _, Nat.zero_le _⟩ ?_
        refine lv_iadd hx hb dX8_jointOf_23 ?_
        refine lv_istore_n (lv' := [(3, .int (v3_5 + r_9)), (0, .ref aM), (1, .int x1), (2, .int x2), (4, .int v4_6)]) hx hb dX8_jointOf_24 rfl hl (by decide) rfl (fun ls hl => ?_)
        refine lv_iinc (v := (v4_6 + 1)) (lv' := [(4, .int (v4_6 + 1)), (3, .int (v3_5 + r_9)), (0, .ref aM), (1, .int x1), (2, .int x2)]) hx hb dX8_jointOf_25 hl (k := 4) rfl rfl (by decide) rfl (fun ls hl => ?_)
        refine lv_goto (tgt := 5) hx hb dX8_jointOf_28 (by decide) ?_
        exact ihn_4 (v3_5 + r_9) (v4_6 + 1) ls h (lv_sub hl [2, 3, 4, 1, 0] rfl)
  exact L5_3 N 0 0 ls h (lv_sub hl [2, 3, 4, 1, 0] rfl)
def f_X8_joint (N : Nat) (M_s : Nat → Int32) (x1 : Int32) (x2 : Int32) : Option (Int32) :=
  (f_X8_isRow N M_s x1).bind fun r_1 => if (b2i r_1) = 0 then (some ((-1))) else (if 0 ≤ x2 then ((f_X8_slates N M_s x1).bind fun r_4 => if (r_4 - 1) ≤ x2 then (some ((-4))) else ((f_X8_jointOf N M_s x1 x2).bind fun r_6 => some (r_6))) else (some ((-1))))
set_option maxHeartbeats 4000000 in
set_option maxRecDepth 100000 in
theorem k_X8_joint (l : Launch) (dC : Nat → ClassId) (dI : Nat → Nat → Nat) (cI cZ cS : ClassId) (N : Nat) (aM aM_s : Nat) (fs_M : List Value) (M_s : Nat → Int32) (x1 : Int32) (x2 : Int32) (hf_M_s : fs_M[0]? = some (.ref aM_s)) (res : Int32) (h : f_X8_joint N M_s x1 x2 = some res) : Met l yX8_joint wsX8_joint ({ frames := 2, cells := 0, slots := 0, locals := 46 }) (va_Pc [.ref aM, .int x1, .int x2] (wd (dC, dI) cI cZ cS [(aM, .inr (7, fs_M)), (aM_s, .inl (cI, 99, .inl M_s))])) (vp_Si (fun r => r = res)) 0 0 (fun _ => False) := by
  refine Met.ofW (cc := cX8_joint) (maxL := 3) (ret := (some .int)) (by decide) rfl ?_
  intro p e s m args below meth c s₁ B hml hv
  obtain ⟨rfl, hP, hK, hD⟩ := hv
  have hx := B.exec
  have hb := B.bytes
  have hr := B.returns
  have hts := atoms_spec (ws := wsX8_joint) B.pre
  have hown : s.vm.findClass RX8 = some m.cls := findClass_of_methodNamed B.named
  have hlocks := B.notSynchronized
  have hl := lv_entry ([.ref aM, .int x1, .int x2]) (n := 3) (Nat.le_of_ble_eq_true rfl)
  rw [lg_entry_eq]
  generalize (lg_sl ([.ref aM, .int x1, .int x2]) ++ List.replicate (3 - (lg_sl ([.ref aM, .int x1, .int x2])).length) Slot.unset).toArray = ls at hl ⊢
  have hl : lv_has ls 3 [(0, .ref aM), (1, .int x1), (2, .int x2)] := hl
  unfold f_X8_joint at h
  refine lv_aload_n hx hb dX8_joint_0 rfl (lv_at hl 0 rfl) ?_
  refine lv_iload_n hx hb dX8_joint_1 rfl (lv_at hl 1 rfl) ?_
  obtain ⟨r_1, hg, h⟩ := bd_some h
  refine rdV (As := [.int x1]) (rest := []) (ci := 7) ⟨hx, hb, hml, hown, hts⟩ (k_X8_isRow l dC dI cI cZ cS N aM aM_s fs_M M_s x1 hf_M_s r_1 hg) (cwV 1 hts gX8_joint_X8_isRow rfl rfl rfl cd_X8_isRow ⟨Nat.le_of_ble_eq_true rfl, Nat.le_of_ble_eq_true rfl⟩) hP hD hK [0, 1] (by decide) rfl rfl rfl rfl hl.1 rfl (Nat.le_of_ble_eq_true rfl) dX8_joint_2 ⟨Nat.zero_le _, Nat.zero_le _⟩ ?_
  refine lv_if_eq (tgt := 12) hx hb dX8_joint_5 (by decide) (fun c_2 => ?_) (fun c_2 => ?_)
  · have h := it_p c_2 h
    refine lv_iconst (v := (-1)) hx hb dX8_joint_12 (by decide) ?_
    refine lv_goto (tgt := 38) hx hb dX8_joint_13 (by decide) ?_
    exact W.iret hx hb hr (fun t ht hW => ⟨_, rfl, Option.some.inj h, ht⟩) (fun q hq => by cases hq) dX8_joint_38
  · have h := it_n c_2 h
    refine lv_iload_n hx hb dX8_joint_8 rfl (lv_at hl 2 rfl) ?_
    refine lv_if_ge (tgt := 16) hx hb dX8_joint_9 (by decide) (fun c_3 => ?_) (fun c_3 => ?_)
    · have h := it_p c_3 h
      refine lv_iload_n hx hb dX8_joint_16 rfl (lv_at hl 2 rfl) ?_
      refine lv_aload_n hx hb dX8_joint_17 rfl (lv_at hl 0 rfl) ?_
      refine lv_iload_n hx hb dX8_joint_18 rfl (lv_at hl 1 rfl) ?_
      obtain ⟨r_4, hg, h⟩ := bd_some h
      refine rdV (As := [.int x1]) (rest := [.int x2]) (ci := 7) ⟨hx, hb, hml, hown, hts⟩ (k_X8_slates l dC dI cI cZ cS N aM aM_s fs_M M_s x1 hf_M_s r_4 hg) (cwV 1 hts gX8_joint_X8_slates rfl rfl rfl cd_X8_slates ⟨Nat.le_of_ble_eq_true rfl, Nat.le_of_ble_eq_true rfl⟩) hP hD hK [0, 1] (by decide) rfl rfl rfl rfl hl.1 rfl (Nat.le_of_ble_eq_true rfl) dX8_joint_19 ⟨Nat.zero_le _, Nat.zero_le _⟩ ?_
      refine lv_iconst (v := 1) hx hb dX8_joint_22 (by decide) ?_
      refine lv_isub hx hb dX8_joint_23 ?_
      refine lv_icmp_ge (tgt := 36) hx hb dX8_joint_24 (by decide) (fun c_5 => ?_) (fun c_5 => ?_)
      · have h := it_p c_5 h
        refine lv_bipush (v := (-4)) hx hb dX8_joint_36 (by decide) ?_
        exact W.iret hx hb hr (fun t ht hW => ⟨_, rfl, Option.some.inj h, ht⟩) (fun q hq => by cases hq) dX8_joint_38
      · have h := it_n c_5 h
        refine lv_aload_n hx hb dX8_joint_27 rfl (lv_at hl 0 rfl) ?_
        refine lv_iload_n hx hb dX8_joint_28 rfl (lv_at hl 1 rfl) ?_
        refine lv_iload_n hx hb dX8_joint_29 rfl (lv_at hl 2 rfl) ?_
        obtain ⟨r_6, hg, h⟩ := bd_some h
        refine rdV (As := [.int x1, .int x2]) (rest := []) (ci := 7) ⟨hx, hb, hml, hown, hts⟩ (k_X8_jointOf l dC dI cI cZ cS N aM aM_s fs_M M_s x1 x2 hf_M_s r_6 hg) (cwV 2 hts gX8_joint_X8_jointOf rfl rfl rfl cd_X8_jointOf ⟨Nat.le_of_ble_eq_true rfl, Nat.le_of_ble_eq_true rfl⟩) hP hD hK [0, 1] (by decide) rfl rfl rfl rfl hl.1 rfl (Nat.le_of_ble_eq_true rfl) dX8_joint_30 ⟨Nat.zero_le _, Nat.zero_le _⟩ ?_
        refine lv_goto (tgt := 38) hx hb dX8_joint_33 (by decide) ?_
        exact W.iret hx hb hr (fun t ht hW => ⟨_, rfl, Option.some.inj h, ht⟩) (fun q hq => by cases hq) dX8_joint_38
    · have h := it_n c_3 h
      refine lv_iconst (v := (-1)) hx hb dX8_joint_12 (by decide) ?_
      refine lv_goto (tgt := 38) hx hb dX8_joint_13 (by decide) ?_
      exact W.iret hx hb hr (fun t ht hW => ⟨_, rfl, Option.some.inj h, ht⟩) (fun q hq => by cases hq) dX8_joint_38
def f_X8_mayBe_L8 (N : Nat) (M_s : Nat → Int32) (x1 : Int32) (x2 : Int32) : Nat → Int32 → Option (Bool)
  | 0, _ => none
  | n + 1, v3 =>
    (f_X8_slates N M_s (x1 - 1)).bind fun r_2 => if (r_2 - 1) ≤ v3 then (some (true)) else ((f_X8_jointOf N M_s (x1 - 1) v3).bind fun r_4 => if 0 ≤ (x2 - r_4) then (ck (gi 0 99) (if (M_s (0 : Int32).toNatClampNeg) ≤ (x2 - r_4) then (f_X8_mayBe_L8 N M_s x1 x2 n (v3 + 1)) else (some (false)))) else (ck (gi 0 99) (if (M_s (0 : Int32).toNatClampNeg) ≤ (-(x2 - r_4)) then (f_X8_mayBe_L8 N M_s x1 x2 n (v3 + 1)) else (some (false)))))
def f_X8_mayBe (N : Nat) (M_s : Nat → Int32) (x1 : Int32) (x2 : Int32) : Option (Bool) :=
  if x1 = 0 then (some (true)) else (f_X8_mayBe_L8 N M_s x1 x2 N 0)
set_option maxHeartbeats 4000000 in
set_option maxRecDepth 100000 in
theorem k_X8_mayBe (l : Launch) (dC : Nat → ClassId) (dI : Nat → Nat → Nat) (cI cZ cS : ClassId) (N : Nat) (aM aM_s : Nat) (fs_M : List Value) (M_s : Nat → Int32) (x1 : Int32) (x2 : Int32) (hf_M_s : fs_M[0]? = some (.ref aM_s)) (res : Bool) (h : f_X8_mayBe N M_s x1 x2 = some res) : Met l yX8_mayBe wsX8_mayBe ({ frames := 2, cells := 0, slots := 0, locals := 46 }) (va_Pc [.ref aM, .int x1, .int x2] (wd (dC, dI) cI cZ cS [(aM, .inr (7, fs_M)), (aM_s, .inl (cI, 99, .inl M_s))])) (vp_Si (fun r => r = b2i res)) 0 0 (fun _ => False) := by
  refine Met.ofW (cc := cX8_mayBe) (maxL := 5) (ret := (some .boolean)) (by decide) rfl ?_
  intro p e s m args below meth c s₁ B hml hv
  obtain ⟨rfl, hP, hK, hD⟩ := hv
  have hx := B.exec
  have hb := B.bytes
  have hr := B.returns
  have hts := atoms_spec (ws := wsX8_mayBe) B.pre
  have hown : s.vm.findClass RX8 = some m.cls := findClass_of_methodNamed B.named
  have hlocks := B.notSynchronized
  have hl := lv_entry ([.ref aM, .int x1, .int x2]) (n := 5) (Nat.le_of_ble_eq_true rfl)
  rw [lg_entry_eq]
  generalize (lg_sl ([.ref aM, .int x1, .int x2]) ++ List.replicate (5 - (lg_sl ([.ref aM, .int x1, .int x2])).length) Slot.unset).toArray = ls at hl ⊢
  have hl : lv_has ls 5 [(0, .ref aM), (1, .int x1), (2, .int x2)] := hl
  unfold f_X8_mayBe at h
  refine lv_iload_n hx hb dX8_mayBe_0 rfl (lv_at hl 1 rfl) ?_
  refine lv_if_ne (tgt := 6) hx hb dX8_mayBe_1 (by decide) (fun c_1 => ?_) (fun c_1 => ?_)
  · have h := it_n c_1 h
    refine lv_iconst (v := 0) hx hb dX8_mayBe_6 (by decide) ?_
    refine lv_istore_n (lv' := [(3, .int 0), (0, .ref aM), (1, .int x1), (2, .int x2)]) hx hb dX8_mayBe_7 rfl hl (by decide) rfl (fun ls hl => ?_)
    have L8_7 : ∀ (n_8 : Nat) (v3_9 : Int32)  (ls : Array Slot), f_X8_mayBe_L8 N M_s x1 x2 n_8 v3_9 = some res → lv_has ls 5 [(0, .ref aM), (1, .int x1), (2, .int x2), (3, .int v3_9)] → W p l e (headSpec wsX8_mayBe ({ frames := 2, cells := 0, slots := 0, locals := 46 })).room s m ([.ref aM, .int x1, .int x2] : List Value).toArray below meth c s.heap [] 0 0 (MQ below (vp_Si (fun r => r = b2i res)) ([.ref aM, .int x1, .int x2] : List Value).toArray s 0 0 (fun _ => False)) (F0 m 8 ls []) := by
      intro n_8
      induction n_8 with
      | zero =>
        intro v3_9 ls h
        simp only [f_X8_mayBe_L8] at h
        try exact absurd h (by simp)
      | succ n_8 ihn_8 =>
        intro v3_9 ls h hl
        rw [f_X8_mayBe_L8] at h
        refine lv_iload_n hx hb dX8_mayBe_8 rfl (lv_at hl 3 rfl) ?_
        refine lv_aload_n hx hb dX8_mayBe_9 rfl (lv_at hl 0 rfl) ?_
        refine lv_iload_n hx hb dX8_mayBe_10 rfl (lv_at hl 1 rfl) ?_
        refine lv_iconst (v := 1) hx hb dX8_mayBe_11 (by decide) ?_
        refine lv_isub hx hb dX8_mayBe_12 ?_
        obtain ⟨r_10, hg, h⟩ := bd_some h
        refine rdV (As := [.int (x1 - 1)]) (rest := [.int v3_9]) (ci := 7) ⟨hx, hb, hml, hown, hts⟩ (k_X8_slates l dC dI cI cZ cS N aM aM_s fs_M M_s (x1 - 1) hf_M_s r_10 hg) (cwV 1 hts gX8_mayBe_X8_slates rfl rfl rfl cd_X8_slates ⟨Nat.le_of_ble_eq_true rfl, Nat.le_of_ble_eq_true rfl⟩) hP hD hK [0, 1] (by decide) rfl rfl rfl rfl hl.1 rfl (Nat.le_of_ble_eq_true rfl) dX8_mayBe_13 ⟨Nat.zero_le _, Nat.zero_le _⟩ ?_
        refine lv_iconst (v := 1) hx hb dX8_mayBe_16 (by decide) ?_
        refine lv_isub hx hb dX8_mayBe_17 ?_
        refine lv_icmp_ge (tgt := 63) hx hb dX8_mayBe_18 (by decide) (fun c_11 => ?_) (fun c_11 => ?_)
        · have h := it_p c_11 h
          refine lv_iconst (v := 1) hx hb dX8_mayBe_63 (by decide) ?_
          exact W.zret (v := b2i true) hx hb hr (b2i_nar _) (fun t ht hW => ⟨b2i true, rfl, congrArg b2i (Option.some.inj h), ht⟩) (fun q hq => by cases hq) dX8_mayBe_64
        · have h := it_n c_11 h
          refine lv_iload_n hx hb dX8_mayBe_21 rfl (lv_at hl 2 rfl) ?_
          refine lv_aload_n hx hb dX8_mayBe_22 rfl (lv_at hl 0 rfl) ?_
          refine lv_iload_n hx hb dX8_mayBe_23 rfl (lv_at hl 1 rfl) ?_
          refine lv_iconst (v := 1) hx hb dX8_mayBe_24 (by decide) ?_
          refine lv_isub hx hb dX8_mayBe_25 ?_
          refine lv_iload_n hx hb dX8_mayBe_26 rfl (lv_at hl 3 rfl) ?_
          obtain ⟨r_12, hg, h⟩ := bd_some h
          refine rdV (As := [.int (x1 - 1), .int v3_9]) (rest := [.int x2]) (ci := 7) ⟨hx, hb, hml, hown, hts⟩ (k_X8_jointOf l dC dI cI cZ cS N aM aM_s fs_M M_s (x1 - 1) v3_9 hf_M_s r_12 hg) (cwV 2 hts gX8_mayBe_X8_jointOf rfl rfl rfl cd_X8_jointOf ⟨Nat.le_of_ble_eq_true rfl, Nat.le_of_ble_eq_true rfl⟩) hP hD hK [0, 1] (by decide) rfl rfl rfl rfl hl.1 rfl (Nat.le_of_ble_eq_true rfl) dX8_mayBe_27 ⟨Nat.zero_le _, Nat.zero_le _⟩ ?_
          refine lv_isub hx hb dX8_mayBe_30 ?_
          refine lv_istore (lv' := [(4, .int (x2 - r_12)), (0, .ref aM), (1, .int x1), (2, .int x2), (3, .int v3_9)]) hx hb dX8_mayBe_31 hl (by decide) rfl (fun ls hl => ?_)
          refine lv_iload hx hb dX8_mayBe_33 (lv_at hl 0 rfl) ?_
          refine lv_if_ge (tgt := 44) hx hb dX8_mayBe_35 (by decide) (fun c_13 => ?_) (fun c_13 => ?_)
          · have h := it_p c_13 h
            refine lv_iload hx hb dX8_mayBe_44 (lv_at hl 0 rfl) ?_
            refine lv_aload_n hx hb dX8_mayBe_46 rfl (lv_at hl 1 rfl) ?_
            refine va_get (D := (dC, dI)) (ci := 7) (v := .ref aM_s) (C := RX8) (T := TX8) (N := 37) hx hb hts (fun _ h => List.mem_cons_of_mem _ (List.mem_append_right _ h)) hown hK hP 0 rfl rfl 0 (by decide) (hts (.fieldLink RX8 9 "SlateRowsModel" "s" "[I") (by decide +kernel)) (fun _ h9 => h9) hf_M_s dX8_mayBe_47 ?_
            refine lv_iconst (v := 0) hx hb dX8_mayBe_50 (by decide) ?_
            obtain ⟨hi, h⟩ := ck_some h
            refine va_iald hx hb hK hP 1 0 rfl rfl (gi_in hi) dX8_mayBe_51 ?_
            refine lv_icmp_ge (tgt := 57) hx hb dX8_mayBe_52 (by decide) (fun c_14 => ?_) (fun c_14 => ?_)
            · have h := it_p c_14 h
              refine lv_iinc (v := (v3_9 + 1)) (lv' := [(3, .int (v3_9 + 1)), (4, .int (x2 - r_12)), (0, .ref aM), (1, .int x1), (2, .int x2)]) hx hb dX8_mayBe_57 hl (k := 4) rfl rfl (by decide) rfl (fun ls hl => ?_)
              refine lv_goto (tgt := 8) hx hb dX8_mayBe_60 (by decide) ?_
              exact ihn_8 (v3_9 + 1) ls h (lv_sub hl [2, 3, 4, 0] rfl)
            · have h := it_n c_14 h
              refine lv_iconst (v := 0) hx hb dX8_mayBe_55 (by decide) ?_
              exact W.zret (v := b2i false) hx hb hr (b2i_nar _) (fun t ht hW => ⟨b2i false, rfl, congrArg b2i (Option.some.inj h), ht⟩) (fun q hq => by cases hq) dX8_mayBe_56
          · have h := it_n c_13 h
            refine lv_iload hx hb dX8_mayBe_38 (lv_at hl 0 rfl) ?_
            refine lv_ineg hx hb dX8_mayBe_40 ?_
            refine lv_goto (tgt := 46) hx hb dX8_mayBe_41 (by decide) ?_
            refine lv_aload_n hx hb dX8_mayBe_46 rfl (lv_at hl 1 rfl) ?_
            refine va_get (D := (dC, dI)) (ci := 7) (v := .ref aM_s) (C := RX8) (T := TX8) (N := 37) hx hb hts (fun _ h => List.mem_cons_of_mem _ (List.mem_append_right _ h)) hown hK hP 0 rfl rfl 0 (by decide) (hts (.fieldLink RX8 9 "SlateRowsModel" "s" "[I") (by decide +kernel)) (fun _ h9 => h9) hf_M_s dX8_mayBe_47 ?_
            refine lv_iconst (v := 0) hx hb dX8_mayBe_50 (by decide) ?_
            obtain ⟨hi, h⟩ := ck_some h
            refine va_iald hx hb hK hP 1 0 rfl rfl (gi_in hi) dX8_mayBe_51 ?_
            refine lv_icmp_ge (tgt := 57) hx hb dX8_mayBe_52 (by decide) (fun c_15 => ?_) (fun c_15 => ?_)
            · have h := it_p c_15 h
              refine lv_iinc (v := (v3_9 + 1)) (lv' := [(3, .int (v3_9 + 1)), (4, .int (x2 - r_12)), (0, .ref aM), (1, .int x1), (2, .int x2)]) hx hb dX8_mayBe_57 hl (k := 4) rfl rfl (by decide) rfl (fun ls hl => ?_)
              refine lv_goto (tgt := 8) hx hb dX8_mayBe_60 (by decide) ?_
              exact ihn_8 (v3_9 + 1) ls h (lv_sub hl [2, 3, 4, 0] rfl)
            · have h := it_n c_15 h
              refine lv_iconst (v := 0) hx hb dX8_mayBe_55 (by decide) ?_
              exact W.zret (v := b2i false) hx hb hr (b2i_nar _) (fun t ht hW => ⟨b2i false, rfl, congrArg b2i (Option.some.inj h), ht⟩) (fun q hq => by cases hq) dX8_mayBe_56
    exact L8_7 N 0 ls h (lv_sub hl [1, 2, 3, 0] rfl)
  · have h := it_p c_1 h
    refine lv_iconst (v := 1) hx hb dX8_mayBe_4 (by decide) ?_
    exact W.zret (v := b2i true) hx hb hr (b2i_nar _) (fun t ht hW => ⟨b2i true, rfl, congrArg b2i (Option.some.inj h), ht⟩) (fun q hq => by cases hq) dX8_mayBe_5
def f_X8_may (N : Nat) (M_s : Nat → Int32) (x1 : Int32) (x2 : Int32) : Option (Int32) :=
  (f_X8_isRow N M_s x1).bind fun r_1 => if (b2i r_1) = 0 then (some ((-1))) else ((f_X8_lengthOf N M_s x1).bind fun r_3 => (f_X8_isIn N x2.toInt64 1 ((r_3 - 1).toInt64)).bind fun r_4 => if (b2i r_4) = 0 then (some ((-1))) else ((f_X8_mayBe N M_s x1 x2).bind fun r_6 => if (b2i r_6) = 0 then (some (0)) else (some (1))))
set_option maxHeartbeats 4000000 in
set_option maxRecDepth 100000 in
theorem k_X8_may (l : Launch) (dC : Nat → ClassId) (dI : Nat → Nat → Nat) (cI cZ cS : ClassId) (N : Nat) (aM aM_s : Nat) (fs_M : List Value) (M_s : Nat → Int32) (x1 : Int32) (x2 : Int32) (hf_M_s : fs_M[0]? = some (.ref aM_s)) (res : Int32) (h : f_X8_may N M_s x1 x2 = some res) : Met l yX8_may wsX8_may ({ frames := 3, cells := 0, slots := 0, locals := 70 }) (va_Pc [.ref aM, .int x1, .int x2] (wd (dC, dI) cI cZ cS [(aM, .inr (7, fs_M)), (aM_s, .inl (cI, 99, .inl M_s))])) (vp_Si (fun r => r = res)) 0 0 (fun _ => False) := by
  refine Met.ofW (cc := cX8_may) (maxL := 3) (ret := (some .int)) (by decide) rfl ?_
  intro p e s m args below meth c s₁ B hml hv
  obtain ⟨rfl, hP, hK, hD⟩ := hv
  have hx := B.exec
  have hb := B.bytes
  have hr := B.returns
  have hts := atoms_spec (ws := wsX8_may) B.pre
  have hown : s.vm.findClass RX8 = some m.cls := findClass_of_methodNamed B.named
  have hlocks := B.notSynchronized
  have hl := lv_entry ([.ref aM, .int x1, .int x2]) (n := 3) (Nat.le_of_ble_eq_true rfl)
  rw [lg_entry_eq]
  generalize (lg_sl ([.ref aM, .int x1, .int x2]) ++ List.replicate (3 - (lg_sl ([.ref aM, .int x1, .int x2])).length) Slot.unset).toArray = ls at hl ⊢
  have hl : lv_has ls 3 [(0, .ref aM), (1, .int x1), (2, .int x2)] := hl
  unfold f_X8_may at h
  refine lv_aload_n hx hb dX8_may_0 rfl (lv_at hl 0 rfl) ?_
  refine lv_iload_n hx hb dX8_may_1 rfl (lv_at hl 1 rfl) ?_
  obtain ⟨r_1, hg, h⟩ := bd_some h
  refine rdV (As := [.int x1]) (rest := []) (ci := 7) ⟨hx, hb, hml, hown, hts⟩ (k_X8_isRow l dC dI cI cZ cS N aM aM_s fs_M M_s x1 hf_M_s r_1 hg) (cwV 1 hts gX8_may_X8_isRow rfl rfl rfl cd_X8_isRow ⟨Nat.le_of_ble_eq_true rfl, Nat.le_of_ble_eq_true rfl⟩) hP hD hK [0, 1] (by decide) rfl rfl rfl rfl hl.1 rfl (Nat.le_of_ble_eq_true rfl) dX8_may_2 ⟨Nat.zero_le _, Nat.zero_le _⟩ ?_
  refine lv_if_eq (tgt := 25) hx hb dX8_may_5 (by decide) (fun c_2 => ?_) (fun c_2 => ?_)
  · have h := it_p c_2 h
    refine lv_iconst (v := (-1)) hx hb dX8_may_25 (by decide) ?_
    refine lv_goto (tgt := 43) hx hb dX8_may_26 (by decide) ?_
    exact W.iret hx hb hr (fun t ht hW => ⟨_, rfl, Option.some.inj h, ht⟩) (fun q hq => by cases hq) dX8_may_43
  · have h := it_n c_2 h
    refine lv_iload_n hx hb dX8_may_8 rfl (lv_at hl 2 rfl) ?_
    refine lv_i2l hx hb dX8_may_9 rfl ?_
    refine lv_lconst (v := 1) hx hb dX8_may_10 (by decide) ?_
    refine lv_aload_n hx hb dX8_may_11 rfl (lv_at hl 0 rfl) ?_
    refine lv_iload_n hx hb dX8_may_12 rfl (lv_at hl 1 rfl) ?_
    obtain ⟨r_3, hg, h⟩ := bd_some h
    refine rdV (As := [.int x1]) (rest := [.long 1, .long x2.toInt64]) (ci := 7) ⟨hx, hb, hml, hown, hts⟩ (k_X8_lengthOf l dC dI cI cZ cS N aM aM_s fs_M M_s x1 hf_M_s r_3 hg) (cwV 1 hts gX8_may_X8_lengthOf rfl rfl rfl cd_X8_lengthOf ⟨Nat.le_of_ble_eq_true rfl, Nat.le_of_ble_eq_true rfl⟩) hP hD hK [0, 1] (by decide) rfl rfl rfl rfl hl.1 rfl (Nat.le_of_ble_eq_true rfl) dX8_may_13 ⟨Nat.zero_le _, Nat.zero_le _⟩ ?_
    refine lv_iconst (v := 1) hx hb dX8_may_16 (by decide) ?_
    refine lv_isub hx hb dX8_may_17 ?_
    refine lv_i2l hx hb dX8_may_18 rfl ?_
    obtain ⟨r_4, hg, h⟩ := bd_some h
    refine rdS (As := [.long x2.toInt64, .long 1, .long ((r_3 - 1).toInt64)]) (rest := []) ⟨hx, hb, hml, hown, hts⟩ (k_X8_isIn l dC dI cI cZ cS N x2.toInt64 1 ((r_3 - 1).toInt64) r_4 hg) (va_cwS 3 hts gX8_may_X8_isIn rfl rfl rfl cd_X8_isIn ⟨Nat.le_of_ble_eq_true rfl, Nat.le_of_ble_eq_true rfl⟩) hP hD hK [] (by decide) rfl rfl hl.1 rfl (Nat.le_of_ble_eq_true rfl) dX8_may_19 ⟨Nat.zero_le _, Nat.zero_le _⟩ ?_
    refine lv_if_ne (tgt := 29) hx hb dX8_may_22 (by decide) (fun c_5 => ?_) (fun c_5 => ?_)
    · have h := it_n c_5 h
      refine lv_aload_n hx hb dX8_may_29 rfl (lv_at hl 0 rfl) ?_
      refine lv_iload_n hx hb dX8_may_30 rfl (lv_at hl 1 rfl) ?_
      refine lv_iload_n hx hb dX8_may_31 rfl (lv_at hl 2 rfl) ?_
      obtain ⟨r_6, hg, h⟩ := bd_some h
      refine rdV (As := [.int x1, .int x2]) (rest := []) (ci := 7) ⟨hx, hb, hml, hown, hts⟩ (k_X8_mayBe l dC dI cI cZ cS N aM aM_s fs_M M_s x1 x2 hf_M_s r_6 hg) (cwV 2 hts gX8_may_X8_mayBe rfl rfl rfl cd_X8_mayBe ⟨Nat.le_of_ble_eq_true rfl, Nat.le_of_ble_eq_true rfl⟩) hP hD hK [0, 1] (by decide) rfl rfl rfl rfl hl.1 rfl (Nat.le_of_ble_eq_true rfl) dX8_may_32 ⟨Nat.zero_le _, Nat.zero_le _⟩ ?_
      refine lv_if_eq (tgt := 42) hx hb dX8_may_35 (by decide) (fun c_7 => ?_) (fun c_7 => ?_)
      · have h := it_p c_7 h
        refine lv_iconst (v := 0) hx hb dX8_may_42 (by decide) ?_
        exact W.iret hx hb hr (fun t ht hW => ⟨_, rfl, Option.some.inj h, ht⟩) (fun q hq => by cases hq) dX8_may_43
      · have h := it_n c_7 h
        refine lv_iconst (v := 1) hx hb dX8_may_38 (by decide) ?_
        refine lv_goto (tgt := 43) hx hb dX8_may_39 (by decide) ?_
        exact W.iret hx hb hr (fun t ht hW => ⟨_, rfl, Option.some.inj h, ht⟩) (fun q hq => by cases hq) dX8_may_43
    · have h := it_p c_5 h
      refine lv_iconst (v := (-1)) hx hb dX8_may_25 (by decide) ?_
      refine lv_goto (tgt := 43) hx hb dX8_may_26 (by decide) ?_
      exact W.iret hx hb hr (fun t ht hW => ⟨_, rfl, Option.some.inj h, ht⟩) (fun q hq => by cases hq) dX8_may_43
