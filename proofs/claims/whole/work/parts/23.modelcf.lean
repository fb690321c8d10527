theorem cd_X8_element : yX8_element.cls = RX8 ∧ yX8_element.cls ≠ "java/lang/invoke/MethodHandle" ∧ yX8_element.cls ≠ "java/lang/invoke/VarHandle" ∧ (parseMethodDescriptor yX8_element.desc).map (fun d => d.parameters.length) = some 2 := by decide +kernel
theorem cd_X8_copy : yX8_copy.cls = RX8 ∧ yX8_copy.cls ≠ "java/lang/invoke/MethodHandle" ∧ yX8_copy.cls ≠ "java/lang/invoke/VarHandle" ∧ (parseMethodDescriptor yX8_copy.desc).map (fun d => d.parameters.length) = some 5 := by decide +kernel
theorem cd_X8_toilOf : yX8_toilOf.cls = RX8 ∧ yX8_toilOf.cls ≠ "java/lang/invoke/MethodHandle" ∧ yX8_toilOf.cls ≠ "java/lang/invoke/VarHandle" ∧ (parseMethodDescriptor yX8_toilOf.desc).map (fun d => d.parameters.length) = some 1 := by decide +kernel
theorem cd_X8_toil : yX8_toil.cls = RX8 ∧ yX8_toil.cls ≠ "java/lang/invoke/MethodHandle" ∧ yX8_toil.cls ≠ "java/lang/invoke/VarHandle" ∧ (parseMethodDescriptor yX8_toil.desc).map (fun d => d.parameters.length) = some 1 := by decide +kernel
def f_X8_element (N : Nat) (M_kept : Nat → Int32) (M_size : Nat → Int32) (M_element : Nat → Int32) (M_thrown : Int32) (x1 : Int32) (x2 : Int32) : Option (Int64 × Int32) :=
  (f_X8_isShelf N x1).bind fun r_1 => if (b2i r_1) = 0 then (some (0, 1)) else (ck (gi x1 8) (if (M_kept x1.toNatClampNeg) = 2 then (ck (gi x1 8) ((f_X8_isIn N x2.toInt64 0 (((M_size x1.toNatClampNeg) - 1).toInt64)).bind fun r_5 => if (b2i r_5) = 0 then (some (0, 2)) else (ck (gi ((100 * x1) + x2) 800) (some ((M_element ((100 * x1) + x2).toNatClampNeg).toInt64, 0))))) else (some (0, 2))))
set_option maxHeartbeats 4000000 in
set_option maxRecDepth 100000 in
theorem k_X8_element (l : Launch) (dC : Nat → ClassId) (dI : Nat → Nat → Nat) (cI cZ cS : ClassId) (N : Nat) (aM aM_kept aM_size aM_element aM_s aM_image aM_read aM_saved aM_sort aM_keptKind aM_keptFigure aM_numbers aM_used aM_way aM_found aM_isOne aM_isTwo : Nat) (sz : Nat) (M_kept : Nat → Int32) (M_size : Nat → Int32) (M_element : Nat → Int32) (M_hasImage : Int32) (M_thrown : Int32) (M_pos : Int32) (M_base : Int32) (M_end : Int32) (M_number : Int32) (M_told : Int32) (M_wayRow : Int32) (M_wayTo : Int32) (M_ways : Int32) (M_endsBy : Int32) (M_foundSize : Int32) (M_foundWorth : Int32) (M_foundCut : Int32) (M_z : Int32) (M_aside : Int32) (M_byRow : Int32) (M_byAt : Int32) (M_one : Int32) (M_two : Int32) (M_slatesBy : Int32) (x1 : Int32) (x2 : Int32) (res : Int64 × Int32) (h : f_X8_element N M_kept M_size M_element M_thrown x1 x2 = some res) : Met l yX8_element wsX8_element ({ frames := 2, cells := 0, slots := 0, locals := 45 }) (va_Pc [.ref aM, .int x1, .int x2] (preW (dC, dI) cI cZ cS [(aM, .inr (7, [.ref aM_s, .ref aM_image, .ref aM_read, .ref aM_saved, .ref aM_kept, .ref aM_sort, .ref aM_size, .ref aM_element, .ref aM_keptKind, .ref aM_keptFigure, .int M_hasImage, .int M_thrown, .int M_pos, .int M_base, .int M_end, .int M_number, .int M_told, .ref aM_numbers, .ref aM_used, .ref aM_way, .ref aM_found, .int M_wayRow, .int M_wayTo, .int M_ways, .int M_endsBy, .int M_foundSize, .int M_foundWorth, .int M_foundCut, .ref aM_isOne, .ref aM_isTwo, .int M_z, .int M_aside, .int M_byRow, .int M_byAt, .int M_one, .int M_two, .int M_slatesBy])), (aM_kept, .inl (cI, 8, .inl M_kept)), (aM_size, .inl (cI, 8, .inl M_size)), (aM_element, .inl (cI, 800, .inl M_element))] sz)) (va_Ql (fun (r : Int64) (_ : Unit) => r = res.1) (fun _ => qW (dC, dI) cI cZ cS (va_A [(aM, .inr (7, [.ref aM_s, .ref aM_image, .ref aM_read, .ref aM_saved, .ref aM_kept, .ref aM_sort, .ref aM_size, .ref aM_element, .ref aM_keptKind, .ref aM_keptFigure, .int M_hasImage, .int M_thrown, .int M_pos, .int M_base, .int M_end, .int M_number, .int M_told, .ref aM_numbers, .ref aM_used, .ref aM_way, .ref aM_found, .int M_wayRow, .int M_wayTo, .int M_ways, .int M_endsBy, .int M_foundSize, .int M_foundWorth, .int M_foundCut, .ref aM_isOne, .ref aM_isTwo, .int M_z, .int M_aside, .int M_byRow, .int M_byAt, .int M_one, .int M_two, .int M_slatesBy])), (aM_kept, .inl (cI, 8, .inl M_kept)), (aM_size, .inl (cI, 8, .inl M_size)), (aM_element, .inl (cI, 800, .inl M_element))] sz) [(aM, .inr (7, [.ref aM_s, .ref aM_image, .ref aM_read, .ref aM_saved, .ref aM_kept, .ref aM_sort, .ref aM_size, .ref aM_element, .ref aM_keptKind, .ref aM_keptFigure, .int M_hasImage, .int res.2, .int M_pos, .int M_base, .int M_end, .int M_number, .int M_told, .ref aM_numbers, .ref aM_used, .ref aM_way, .ref aM_found, .int M_wayRow, .int M_wayTo, .int M_ways, .int M_endsBy, .int M_foundSize, .int M_foundWorth, .int M_foundCut, .ref aM_isOne, .ref aM_isTwo, .int M_z, .int M_aside, .int M_byRow, .int M_byAt, .int M_one, .int M_two, .int M_slatesBy])), (aM_kept, .inl (cI, 8, .inl M_kept)), (aM_size, .inl (cI, 8, .inl M_size)), (aM_element, .inl (cI, 800, .inl M_element))]) (va_A [(aM, .inr (7, [.ref aM_s, .ref aM_image, .ref aM_read, .ref aM_saved, .ref aM_kept, .ref aM_sort, .ref aM_size, .ref aM_element, .ref aM_keptKind, .ref aM_keptFigure, .int M_hasImage, .int M_thrown, .int M_pos, .int M_base, .int M_end, .int M_number, .int M_told, .ref aM_numbers, .ref aM_used, .ref aM_way, .ref aM_found, .int M_wayRow, .int M_wayTo, .int M_ways, .int M_endsBy, .int M_foundSize, .int M_foundWorth, .int M_foundCut, .ref aM_isOne, .ref aM_isTwo, .int M_z, .int M_aside, .int M_byRow, .int M_byAt, .int M_one, .int M_two, .int M_slatesBy])), (aM_kept, .inl (cI, 8, .inl M_kept)), (aM_size, .inl (cI, 8, .inl M_size)), (aM_element, .inl (cI, 800, .inl M_element))] sz)) 0 0 (va_A [(aM, .inr (7, [.ref aM_s, .ref aM_image, .ref aM_read, .ref aM_saved, .ref aM_kept, .ref aM_sort, .ref aM_size, .ref aM_element, .ref aM_keptKind, .ref aM_keptFigure, .int M_hasImage, .int M_thrown, .int M_pos, .int M_base, .int M_end, .int M_number, .int M_told, .ref aM_numbers, .ref aM_used, .ref aM_way, .ref aM_found, .int M_wayRow, .int M_wayTo, .int M_ways, .int M_endsBy, .int M_foundSize, .int M_foundWorth, .int M_foundCut, .ref aM_isOne, .ref aM_isTwo, .int M_z, .int M_aside, .int M_byRow, .int M_byAt, .int M_one, .int M_two, .int M_slatesBy])), (aM_kept, .inl (cI, 8, .inl M_kept)), (aM_size, .inl (cI, 8, .inl M_size)), (aM_element, .inl (cI, 800, .inl M_element))] sz) := by
  refine Met.ofW (cc := cX8_element) (maxL := 3) (ret := (some .long)) (by decide) rfl ?_
  intro p e s m args below meth c s₁ B hml hv
  obtain ⟨rfl, hsz, hP, hK, hD0⟩ := hv
  have hx := B.exec
  have hb := B.bytes
  have hr := B.returns
  have hts := atoms_spec (ws := wsX8_element) B.pre
  have hown : s.vm.findClass RX8 = some m.cls := findClass_of_methodNamed B.named
  have hlocks := B.notSynchronized
  subst hsz
  have hD := hD0.self (sz := s.heap.size)
  generalize hAe : va_A [(aM, .inr (7, [.ref aM_s, .ref aM_image, .ref aM_read, .ref aM_saved, .ref aM_kept, .ref aM_sort, .ref aM_size, .ref aM_element, .ref aM_keptKind, .ref aM_keptFigure, .int M_hasImage, .int M_thrown, .int M_pos, .int M_base, .int M_end, .int M_number, .int M_told, .ref aM_numbers, .ref aM_used, .ref aM_way, .ref aM_found, .int M_wayRow, .int M_wayTo, .int M_ways, .int M_endsBy, .int M_foundSize, .int M_foundWorth, .int M_foundCut, .ref aM_isOne, .ref aM_isTwo, .int M_z, .int M_aside, .int M_byRow, .int M_byAt, .int M_one, .int M_two, .int M_slatesBy])), (aM_kept, .inl (cI, 8, .inl M_kept)), (aM_size, .inl (cI, 8, .inl M_size)), (aM_element, .inl (cI, 800, .inl M_element))] s.heap.size = A at hD ⊢
  have hA : ∀ q : Nat, s.heap.size ≤ q → A q := fun q h => by rw [← hAe]; exact Or.inr h
  have hS : va_S A s.heap s.heap [] := va_S.rf
  have hl := lv_entry ([.ref aM, .int x1, .int x2]) (n := 3) (Nat.le_of_ble_eq_true rfl)
  rw [lg_entry_eq]
  generalize (lg_sl ([.ref aM, .int x1, .int x2]) ++ List.replicate (3 - (lg_sl ([.ref aM, .int x1, .int x2])).length) Slot.unset).toArray = ls at hl ⊢
  have hl : lv_has ls 3 [(0, .ref aM), (1, .int x1), (2, .int x2)] := hl
  unfold f_X8_element at h
  refine lv_aload_n hx hb dX8_element_0 rfl (lv_at hl 0 rfl) ?_
  refine lv_iload_n hx hb dX8_element_1 rfl (lv_at hl 1 rfl) ?_
  obtain ⟨r_1, hg, h⟩ := bd_some h
  refine rdS (As := [.int x1]) (rest := [.ref aM]) ⟨hx, hb, hml, hown, hts⟩ (k_X8_isShelf l dC dI cI cZ cS N x1 r_1 hg) (va_cwS 1 hts gX8_element_X8_isShelf rfl rfl rfl cd_X8_isShelf ⟨Nat.le_of_ble_eq_true rfl, Nat.le_of_ble_eq_true rfl⟩) hP hD hK [] (by decide) rfl rfl hl.1 rfl (Nat.le_of_ble_eq_true rfl) dX8_element_2 ⟨Nat.zero_le _, Nat.zero_le _⟩ ?_
  refine lv_if_ne (tgt := 12) hx hb dX8_element_5 (by decide) (fun c_2 => ?_) (fun c_2 => ?_)
  · have h := it_n c_2 h
    refine lv_aload_n hx hb dX8_element_12 rfl (lv_at hl 0 rfl) ?_
    refine va_get (D := (dC, dI)) (ci := 7) (v := .ref aM_kept) (C := RX8) (T := TX8) (N := 37) hx hb hts (fun _ h => List.mem_cons_of_mem _ (List.mem_append_right _ h)) hown hK hP 0 rfl rfl 4 (by decide) (hts (.fieldLink RX8 22 "SlateRowsModel" "kept" "[I") (by decide +kernel)) (fun _ h9 => h9) rfl dX8_element_13 ?_
    refine lv_iload_n hx hb dX8_element_16 rfl (lv_at hl 1 rfl) ?_
    obtain ⟨hi, h⟩ := ck_some h
    refine va_iald hx hb hK hP 1 0 rfl rfl (gi_in hi) dX8_element_17 ?_
    refine lv_iconst (v := 2) hx hb dX8_element_18 (by decide) ?_
    refine lv_icmp_ne (tgt := 40) hx hb dX8_element_19 (by decide) (fun c_3 => ?_) (fun c_3 => ?_)
    · have h := it_n c_3 h
      refine lv_iconst (v := 2) hx hb dX8_element_40 (by decide) ?_
      refine lv_goto (tgt := 45) hx hb dX8_element_41 (by decide) ?_
      refine va_put (D := (dC, dI)) (ci := 7) (v := .int 2) (ty := .int) (C := RX8) (T := TX8) (N := 37) hx hb hts (fun _ h => List.mem_cons_of_mem _ (List.mem_append_right _ h)) tyX8 tyX8_ok nmX8 hown hK hP hD hS 0 rfl rfl 11 (by decide) (hts (.fieldLink RX8 59 "SlateRowsModel" "thrown" "I") (by decide +kernel)) (fun _ h9 => h9) rfl (by decide +kernel) rfl rfl (Nat.le_of_ble_eq_true rfl) dX8_element_45 (fun H locs hP hD hS => ?_)
      have hP : va_P (dC, dI) vwCl [(aM, .inr (7, [.ref aM_s, .ref aM_image, .ref aM_read, .ref aM_saved, .ref aM_kept, .ref aM_sort, .ref aM_size, .ref aM_element, .ref aM_keptKind, .ref aM_keptFigure, .int M_hasImage, .int 2, .int M_pos, .int M_base, .int M_end, .int M_number, .int M_told, .ref aM_numbers, .ref aM_used, .ref aM_way, .ref aM_found, .int M_wayRow, .int M_wayTo, .int M_ways, .int M_endsBy, .int M_foundSize, .int M_foundWorth, .int M_foundCut, .ref aM_isOne, .ref aM_isTwo, .int M_z, .int M_aside, .int M_byRow, .int M_byAt, .int M_one, .int M_two, .int M_slatesBy])), (aM_kept, .inl (cI, 8, .inl M_kept)), (aM_size, .inl (cI, 8, .inl M_size)), (aM_element, .inl (cI, 800, .inl M_element))] H := hP
      have hD : va_D A [(aM, .inr (7, [.ref aM_s, .ref aM_image, .ref aM_read, .ref aM_saved, .ref aM_kept, .ref aM_sort, .ref aM_size, .ref aM_element, .ref aM_keptKind, .ref aM_keptFigure, .int M_hasImage, .int 2, .int M_pos, .int M_base, .int M_end, .int M_number, .int M_told, .ref aM_numbers, .ref aM_used, .ref aM_way, .ref aM_found, .int M_wayRow, .int M_wayTo, .int M_ways, .int M_endsBy, .int M_foundSize, .int M_foundWorth, .int M_foundCut, .ref aM_isOne, .ref aM_isTwo, .int M_z, .int M_aside, .int M_byRow, .int M_byAt, .int M_one, .int M_two, .int M_slatesBy])), (aM_kept, .inl (cI, 8, .inl M_kept)), (aM_size, .inl (cI, 8, .inl M_size)), (aM_element, .inl (cI, 800, .inl M_element))] := hD
      refine lv_aload_n hx hb dX8_element_48 rfl (lv_at hl 0 rfl) ?_
      refine va_get (D := (dC, dI)) (ci := 7) (v := .int 2) (C := RX8) (T := TX8) (N := 37) hx hb hts (fun _ h => List.mem_cons_of_mem _ (List.mem_append_right _ h)) hown hK hP 0 rfl rfl 11 (by decide) (hts (.fieldLink RX8 59 "SlateRowsModel" "thrown" "I") (by decide +kernel)) (fun _ h9 => h9) rfl dX8_element_49 ?_
      refine lv_if_ne (tgt := 70) hx hb dX8_element_52 (by decide) (fun c_4 => ?_) (fun c_4 => ?_)
      · skip
        refine lv_lconst (v := 0) hx hb dX8_element_70 (by decide) ?_
        have h := Option.some.inj h
        exact W.lret hx hb hr (fun t ht hW => ⟨⟨_, (), rfl, by rw [← h], by (try rw [← h]); rw [ht]; exact hP, va_K.moved hW.alike hK, by (try rw [← h]); exact hD⟩, hS.F ht⟩) hS.2.2 dX8_element_71
      · exact absurd c_4 (by decide)
    · have h := it_p c_3 h
      refine lv_iload_n hx hb dX8_element_22 rfl (lv_at hl 2 rfl) ?_
      refine lv_i2l hx hb dX8_element_23 rfl ?_
      refine lv_lconst (v := 0) hx hb dX8_element_24 (by decide) ?_
      refine lv_aload_n hx hb dX8_element_25 rfl (lv_at hl 0 rfl) ?_
      refine va_get (D := (dC, dI)) (ci := 7) (v := .ref aM_size) (C := RX8) (T := TX8) (N := 37) hx hb hts (fun _ h => List.mem_cons_of_mem _ (List.mem_append_right _ h)) hown hK hP 0 rfl rfl 6 (by decide) (hts (.fieldLink RX8 28 "SlateRowsModel" "size" "[I") (by decide +kernel)) (fun _ h9 => h9) rfl dX8_element_26 ?_
      refine lv_iload_n hx hb dX8_element_29 rfl (lv_at hl 1 rfl) ?_
      obtain ⟨hi, h⟩ := ck_some h
      refine va_iald hx hb hK hP 2 0 rfl rfl (gi_in hi) dX8_element_30 ?_
      refine lv_iconst (v := 1) hx hb dX8_element_31 (by decide) ?_
      refine lv_isub hx hb dX8_element_32 ?_
      refine lv_i2l hx hb dX8_element_33 rfl ?_
      obtain ⟨r_5, hg, h⟩ := bd_some h
      refine rdS (As := [.long x2.toInt64, .long 0, .long (((M_size x1.toNatClampNeg) - 1).toInt64)]) (rest := [.ref aM]) ⟨hx, hb, hml, hown, hts⟩ (k_X8_isIn l dC dI cI cZ cS N x2.toInt64 0 (((M_size x1.toNatClampNeg) - 1).toInt64) r_5 hg) (va_cwS 3 hts gX8_element_X8_isIn rfl rfl rfl cd_X8_isIn ⟨Nat.le_of_ble_eq_true rfl, Nat.le_of_ble_eq_true rfl⟩) hP hD hK [] (by decide) rfl rfl hl.1 rfl (Nat.le_of_ble_eq_true rfl) dX8_element_34 ⟨Nat.zero_le _, Nat.zero_le _⟩ ?_
      refine lv_if_ne (tgt := 44) hx hb dX8_element_37 (by decide) (fun c_6 => ?_) (fun c_6 => ?_)
      · have h := it_n c_6 h
        refine lv_iconst (v := 0) hx hb dX8_element_44 (by decide) ?_
        refine va_put (D := (dC, dI)) (ci := 7) (v := .int 0) (ty := .int) (C := RX8) (T := TX8) (N := 37) hx hb hts (fun _ h => List.mem_cons_of_mem _ (List.mem_append_right _ h)) tyX8 tyX8_ok nmX8 hown hK hP hD hS 0 rfl rfl 11 (by decide) (hts (.fieldLink RX8 59 "SlateRowsModel" "thrown" "I") (by decide +kernel)) (fun _ h9 => h9) rfl (by decide +kernel) rfl rfl (Nat.le_of_ble_eq_true rfl) dX8_element_45 (fun H locs hP hD hS => ?_)
        have hP : va_P (dC, dI) vwCl [(aM, .inr (7, [.ref aM_s, .ref aM_image, .ref aM_read, .ref aM_saved, .ref aM_kept, .ref aM_sort, .ref aM_size, .ref aM_element, .ref aM_keptKind, .ref aM_keptFigure, .int M_hasImage, .int 0, .int M_pos, .int M_base, .int M_end, .int M_number, .int M_told, .ref aM_numbers, .ref aM_used, .ref aM_way, .ref aM_found, .int M_wayRow, .int M_wayTo, .int M_ways, .int M_endsBy, .int M_foundSize, .int M_foundWorth, .int M_foundCut, .ref aM_isOne, .ref aM_isTwo, .int M_z, .int M_aside, .int M_byRow, .int M_byAt, .int M_one, .int M_two, .int M_slatesBy])), (aM_kept, .inl (cI, 8, .inl M_kept)), (aM_size, .inl (cI, 8, .inl M_size)), (aM_element, .inl (cI, 800, .inl M_element))] H := hP
        have hD : va_D A [(aM, .inr (7, [.ref aM_s, .ref aM_image, .ref aM_read, .ref aM_saved, .ref aM_kept, .ref aM_sort, .ref aM_size, .ref aM_element, .ref aM_keptKind, .ref aM_keptFigure, .int M_hasImage, .int 0, .int M_pos, .int M_base, .int M_end, .int M_number, .int M_told, .ref aM_numbers, .ref aM_used, .ref aM_way, .ref aM_found, .int M_wayRow, .int M_wayTo, .int M_ways, .int M_endsBy, .int M_foundSize, .int M_foundWorth, .int M_foundCut, .ref aM_isOne, .ref aM_isTwo, .int M_z, .int M_aside, .int M_byRow, .int M_byAt, .int M_one, .int M_two, .int M_slatesBy])), (aM_kept, .inl (cI, 8, .inl M_kept)), (aM_size, .inl (cI, 8, .inl M_size)), (aM_element, .inl (cI, 800, .inl M_element))] := hD
        refine lv_aload_n hx hb dX8_element_48 rfl (lv_at hl 0 rfl) ?_
        refine va_get (D := (dC, dI)) (ci := 7) (v := .int 0) (C := RX8) (T := TX8) (N := 37) hx hb hts (fun _ h => List.mem_cons_of_mem _ (List.mem_append_right _ h)) hown hK hP 0 rfl rfl 11 (by decide) (hts (.fieldLink RX8 59 "SlateRowsModel" "thrown" "I") (by decide +kernel)) (fun _ h9 => h9) rfl dX8_element_49 ?_
        refine lv_if_ne (tgt := 70) hx hb dX8_element_52 (by decide) (fun c_7 => ?_) (fun c_7 => ?_)
        · exact absurd (by decide) c_7
        · skip
          refine lv_aload_n hx hb dX8_element_55 rfl (lv_at hl 0 rfl) ?_
          refine va_get (D := (dC, dI)) (ci := 7) (v := .ref aM_element) (C := RX8) (T := TX8) (N := 37) hx hb hts (fun _ h => List.mem_cons_of_mem _ (List.mem_append_right _ h)) hown hK hP 0 rfl rfl 7 (by decide) (hts (.fieldLink RX8 31 "SlateRowsModel" "element" "[I") (by decide +kernel)) (fun _ h9 => h9) rfl dX8_element_56 ?_
          refine lv_bipush (v := 100) hx hb dX8_element_59 (by decide) ?_
          refine lv_iload_n hx hb dX8_element_61 rfl (lv_at hl 1 rfl) ?_
          refine lv_imul hx hb dX8_element_62 ?_
          refine lv_iload_n hx hb dX8_element_63 rfl (lv_at hl 2 rfl) ?_
          refine lv_iadd hx hb dX8_element_64 ?_
          obtain ⟨hi, h⟩ := ck_some h
          refine va_iald hx hb hK hP 3 0 rfl rfl (gi_in hi) dX8_element_65 ?_
          refine lv_i2l hx hb dX8_element_66 rfl ?_
          refine lv_goto (tgt := 71) hx hb dX8_element_67 (by decide) ?_
          have h := Option.some.inj h
          exact W.lret hx hb hr (fun t ht hW => ⟨⟨_, (), rfl, by rw [← h], by (try rw [← h]); rw [ht]; exact hP, va_K.moved hW.alike hK, by (try rw [← h]); exact hD⟩, hS.F ht⟩) hS.2.2 dX8_element_71
      · have h := it_p c_6 h
        refine lv_iconst (v := 2) hx hb dX8_element_40 (by decide) ?_
        refine lv_goto (tgt := 45) hx hb dX8_element_41 (by decide) ?_
        refine va_put (D := (dC, dI)) (ci := 7) (v := .int 2) (ty := .int) (C := RX8) (T := TX8) (N := 37) hx hb hts (fun _ h => List.mem_cons_of_mem _ (List.mem_append_right _ h)) tyX8 tyX8_ok nmX8 hown hK hP hD hS 0 rfl rfl 11 (by decide) (hts (.fieldLink RX8 59 "SlateRowsModel" "thrown" "I") (by decide +kernel)) (fun _ h9 => h9) rfl (by decide +kernel) rfl rfl (Nat.le_of_ble_eq_true rfl) dX8_element_45 (fun H locs hP hD hS => ?_)
        have hP : va_P (dC, dI) vwCl [(aM, .inr (7, [.ref aM_s, .ref aM_image, .ref aM_read, .ref aM_saved, .ref aM_kept, .ref aM_sort, .ref aM_size, .ref aM_element, .ref aM_keptKind, .ref aM_keptFigure, .int M_hasImage, .int 2, .int M_pos, .int M_base, .int M_end, .int M_number, .int M_told, .ref aM_numbers, .ref aM_used, .ref aM_way, .ref aM_found, .int M_wayRow, .int M_wayTo, .int M_ways, .int M_endsBy, .int M_foundSize, .int M_foundWorth, .int M_foundCut, .ref aM_isOne, .ref aM_isTwo, .int M_z, .int M_aside, .int M_byRow, .int M_byAt, .int M_one, .int M_two, .int M_slatesBy])), (aM_kept, .inl (cI, 8, .inl M_kept)), (aM_size, .inl (cI, 8, .inl M_size)), (aM_element, .inl (cI, 800, .inl M_element))] H := hP
        have hD : va_D A [(aM, .inr (7, [.ref aM_s, .ref aM_image, .ref aM_read, .ref aM_saved, .ref aM_kept, .ref aM_sort, .ref aM_size, .ref aM_element, .ref aM_keptKind, .ref aM_keptFigure, .int M_hasImage, .int 2, .int M_pos, .int M_base, .int M_end, .int M_number, .int M_told, .ref aM_numbers, .ref aM_used, .ref aM_way, .ref aM_found, .int M_wayRow, .int M_wayTo, .int M_ways, .int M_endsBy, .int M_foundSize, .int M_foundWorth, .int M_foundCut, .ref aM_isOne, .ref aM_isTwo, .int M_z, .int M_aside, .int M_byRow, .int M_byAt, .int M_one, .int M_two, .int M_slatesBy])), (aM_kept, .inl (cI, 8, .inl M_kept)), (aM_size, .inl (cI, 8, .inl M_size)), (aM_element, .inl (cI, 800, .inl M_element))] := hD
        refine lv_aload_n hx hb dX8_element_48 rfl (lv_at hl 0 rfl) ?_
        refine va_get (D := (dC, dI)) (ci := 7) (v := .int 2) (C := RX8) (T := TX8) (N := 37) hx hb hts (fun _ h => List.mem_cons_of_mem _ (List.mem_append_right _ h)) hown hK hP 0 rfl rfl 11 (by decide) (hts (.fieldLink RX8 59 "SlateRowsModel" "thrown" "I") (by decide +kernel)) (fun _ h9 => h9) rfl dX8_element_49 ?_
        refine lv_if_ne (tgt := 70) hx hb dX8_element_52 (by decide) (fun c_8 => ?_) (fun c_8 => ?_)
        · skip
          refine lv_lconst (v := 0) hx hb dX8_element_70 (by decide) ?_
          have h := Option.some.inj h
          exact W.lret hx hb hr (fun t ht hW => ⟨⟨_, (), rfl, by rw [← h], by (try rw [← h]); rw [ht]; exact hP, va_K.moved hW.alike hK, by (try rw [← h]); exact hD⟩, hS.F ht⟩) hS.2.2 dX8_element_71
        · exact absurd c_8 (by decide)
  · have h := it_p c_2 h
    refine lv_iconst (v := 1) hx hb dX8_element_8 (by decide) ?_
    refine lv_goto (tgt := 45) hx hb dX8_element_9 (by decide) ?_
    refine va_put (D := (dC, dI)) (ci := 7) (v := .int 1) (ty := .int) (C := RX8) (T := TX8) (N := 37) hx hb hts (fun _ h => List.mem_cons_of_mem _ (List.mem_append_right _ h)) tyX8 tyX8_ok nmX8 hown hK hP hD hS 0 rfl rfl 11 (by decide) (hts (.fieldLink RX8 59 "SlateRowsModel" "thrown" "I") (by decide +kernel)) (fun _ h9 => h9) rfl (by decide +kernel) rfl rfl (Nat.le_of_ble_eq_true rfl) dX8_element_45 (fun H locs hP hD hS => ?_)
    have hP : va_P (dC, dI) vwCl [(aM, .inr (7, [.ref aM_s, .ref aM_image, .ref aM_read, .ref aM_saved, .ref aM_kept, .ref aM_sort, .ref aM_size, .ref aM_element, .ref aM_keptKind, .ref aM_keptFigure, .int M_hasImage, .int 1, .int M_pos, .int M_base, .int M_end, .int M_number, .int M_told, .ref aM_numbers, .ref aM_used, .ref aM_way, .ref aM_found, .int M_wayRow, .int M_wayTo, .int M_ways, .int M_endsBy, .int M_foundSize, .int M_foundWorth, .int M_foundCut, .ref aM_isOne, .ref aM_isTwo, .int M_z, .int M_aside, .int M_byRow, .int M_byAt, .int M_one, .int M_two, .int M_slatesBy])), (aM_kept, .inl (cI, 8, .inl M_kept)), (aM_size, .inl (cI, 8, .inl M_size)), (aM_element, .inl (cI, 800, .inl M_element))] H := hP
    have hD : va_D A [(aM, .inr (7, [.ref aM_s, .ref aM_image, .ref aM_read, .ref aM_saved, .ref aM_kept, .ref aM_sort, .ref aM_size, .ref aM_element, .ref aM_keptKind, .ref aM_keptFigure, .int M_hasImage, .int 1, .int M_pos, .int M_base, .int M_end, .int M_number, .int M_told, .ref aM_numbers, .ref aM_used, .ref aM_way, .ref aM_found, .int M_wayRow, .int M_wayTo, .int M_ways, .int M_endsBy, .int M_foundSize, .int M_foundWorth, .int M_foundCut, .ref aM_isOne, .ref aM_isTwo, .int M_z, .int M_aside, .int M_byRow, .int M_byAt, .int M_one, .int M_two, .int M_slatesBy])), (aM_kept, .inl (cI, 8, .inl M_kept)), (aM_size, .inl (cI, 8, .inl M_size)), (aM_element, .inl (cI, 800, .inl M_element))] := hD
    refine lv_aload_n hx hb dX8_element_48 rfl (lv_at hl 0 rfl) ?_
    refine va_get (D := (dC, dI)) (ci := 7) (v := .int 1) (C := RX8) (T := TX8) (N := 37) hx hb hts (fun _ h => List.mem_cons_of_mem _ (List.mem_append_right _ h)) hown hK hP 0 rfl rfl 11 (by decide) (hts (.fieldLink RX8 59 "SlateRowsModel" "thrown" "I") (by decide +kernel)) (fun _ h9 => h9) rfl dX8_element_49 ?_
    refine lv_if_ne (tgt := 70) hx hb dX8_element_52 (by decide) (fun c_9 => ?_) (fun c_9 => ?_)
    · skip
      refine lv_lconst (v := 0) hx hb dX8_element_70 (by decide) ?_
      have h := Option.some.inj h
      exact W.lret hx hb hr (fun t ht hW => ⟨⟨_, (), rfl, by rw [← h], by (try rw [← h]); rw [ht]; exact hP, va_K.moved hW.alike hK, by (try rw [← h]); exact hD⟩, hS.F ht⟩) hS.2.2 dX8_element_71
    · exact absurd c_9 (by decide)
def f_X8_copy_L122 (N : Nat) (M_kept : Nat → Int32) (M_sort : Nat → Int32) (M_size : Nat → Int32) (x1 : Int32) (x2 : Int32) (x3 : Int32) (x4 : Int32) (x5 : Int32) : Nat → Int32 → (Nat → Int32) → Option (Int32 × (Nat → Int32))
  | 0, _, _ => none
  | n + 1, v6, M_element =>
    if x5 ≤ v6 then (some (x5, M_element)) else (if x2 ≤ x4 then (ck (gi (((100 * x1) + x2) + ((x5 - 1) - v6)) 800) (ck (gi (((100 * x3) + x4) + ((x5 - 1) - v6)) 800) (f_X8_copy_L122 N M_kept M_sort M_size x1 x2 x3 x4 x5 n (v6 + 1) (upd M_element (((100 * x3) + x4) + ((x5 - 1) - v6)).toNatClampNeg (M_element (((100 * x1) + x2) + ((x5 - 1) - v6)).toNatClampNeg))))) else (ck (gi (((100 * x1) + x2) + v6) 800) (ck (gi (((100 * x3) + x4) + v6) 800) (f_X8_copy_L122 N M_kept M_sort M_size x1 x2 x3 x4 x5 n (v6 + 1) (upd M_element (((100 * x3) + x4) + v6).toNatClampNeg (M_element (((100 * x1) + x2) + v6).toNatClampNeg))))))
def f_X8_copy (N : Nat) (M_kept : Nat → Int32) (M_sort : Nat → Int32) (M_size : Nat → Int32) (M_element : Nat → Int32) (x1 : Int32) (x2 : Int32) (x3 : Int32) (x4 : Int32) (x5 : Int32) : Option (Int32 × (Nat → Int32)) :=
  (f_X8_isShelf N x1).bind fun r_1 => if (b2i r_1) = 0 then (some ((-1), M_element)) else ((f_X8_isShelf N x3).bind fun r_3 => if (b2i r_3) = 0 then (some ((-1), M_element)) else (ck (gi x1 8) (if (M_kept x1.toNatClampNeg) = 0 then (some ((-11), M_element)) else (ck (gi x3 8) (if (M_kept x3.toNatClampNeg) = 0 then (some ((-11), M_element)) else (ck (gi x1 8) (if (M_kept x1.toNatClampNeg) = 2 then (ck (gi x3 8) (if (M_kept x3.toNatClampNeg) = 2 then (ck (gi x1 8) (ck (gi x3 8) (if (M_sort x1.toNatClampNeg) = (M_sort x3.toNatClampNeg) then (if x5 < 0 then (some ((-13), M_element)) else (if x2 < 0 then (some ((-13), M_element)) else (if x4 < 0 then (some ((-13), M_element)) else (ck (gi x1 8) (if ((M_size x1.toNatClampNeg) - x2) < x5 then (some ((-13), M_element)) else (ck (gi x3 8) (if x5 ≤ ((M_size x3.toNatClampNeg) - x4) then (f_X8_copy_L122 N M_kept M_sort M_size x1 x2 x3 x4 x5 N 0 M_element) else (some ((-13), M_element))))))))) else (some ((-12), M_element))))) else (some ((-12), M_element)))) else (some ((-12), M_element)))))))))
set_option maxHeartbeats 4000000 in
set_option maxRecDepth 100000 in
theorem k_X8_copy (l : Launch) (dC : Nat → ClassId) (dI : Nat → Nat → Nat) (cI cZ cS : ClassId) (N : Nat) (aM aM_kept aM_sort aM_size aM_element : Nat) (fs_M : List Value) (sz : Nat) (M_kept : Nat → Int32) (M_sort : Nat → Int32) (M_size : Nat → Int32) (M_element : Nat → Int32) (x1 : Int32) (x2 : Int32) (x3 : Int32) (x4 : Int32) (x5 : Int32) (hf_M_kept : fs_M[4]? = some (.ref aM_kept)) (hf_M_sort : fs_M[5]? = some (.ref aM_sort)) (hf_M_size : fs_M[6]? = some (.ref aM_size)) (hf_M_element : fs_M[7]? = some (.ref aM_element)) (res : Int32 × (Nat → Int32)) (h : f_X8_copy N M_kept M_sort M_size M_element x1 x2 x3 x4 x5 = some res) : Met l yX8_copy wsX8_copy ({ frames := 2, cells := 0, slots := 0, locals := 45 }) (va_Pc [.ref aM, .int x1, .int x2, .int x3, .int x4, .int x5] (preW (dC, dI) cI cZ cS [(aM, .inr (7, fs_M)), (aM_kept, .inl (cI, 8, .inl M_kept)), (aM_sort, .inl (cI, 8, .inl M_sort)), (aM_size, .inl (cI, 8, .inl M_size)), (aM_element, .inl (cI, 800, .inl M_element))] sz)) (va_Qi (fun (r : Int32) (_ : Unit) => r = res.1) (fun _ => qW (dC, dI) cI cZ cS (va_A [(aM, .inr (7, fs_M)), (aM_kept, .inl (cI, 8, .inl M_kept)), (aM_sort, .inl (cI, 8, .inl M_sort)), (aM_size, .inl (cI, 8, .inl M_size)), (aM_element, .inl (cI, 800, .inl M_element))] sz) [(aM, .inr (7, fs_M)), (aM_kept, .inl (cI, 8, .inl M_kept)), (aM_sort, .inl (cI, 8, .inl M_sort)), (aM_size, .inl (cI, 8, .inl M_size)), (aM_element, .inl (cI, 800, .inl res.2))]) (va_A [(aM, .inr (7, fs_M)), (aM_kept, .inl (cI, 8, .inl M_kept)), (aM_sort, .inl (cI, 8, .inl M_sort)), (aM_size, .inl (cI, 8, .inl M_size)), (aM_element, .inl (cI, 800, .inl M_element))] sz)) 0 0 (va_A [(aM, .inr (7, fs_M)), (aM_kept, .inl (cI, 8, .inl M_kept)), (aM_sort, .inl (cI, 8, .inl M_sort)), (aM_size, .inl (cI, 8, .inl M_size)), (aM_element, .inl (cI, 800, .inl M_element))] sz) := by
  refine Met.ofW (cc := cX8_copy) (maxL := 8) (ret := (some .int)) (by decide) rfl ?_
  intro p e s m args below meth c s₁ B hml hv
  obtain ⟨rfl, hsz, hP, hK, hD0⟩ := hv
  have hx := B.exec
  have hb := B.bytes
  have hr := B.returns
  have hts := atoms_spec (ws := wsX8_copy) B.pre
  have hown : s.vm.findClass RX8 = some m.cls := findClass_of_methodNamed B.named
  have hlocks := B.notSynchronized
  subst hsz
  have hD := hD0.self (sz := s.heap.size)
  generalize hAe : va_A [(aM, .inr (7, fs_M)), (aM_kept, .inl (cI, 8, .inl M_kept)), (aM_sort, .inl (cI, 8, .inl M_sort)), (aM_size, .inl (cI, 8, .inl M_size)), (aM_element, .inl (cI, 800, .inl M_element))] s.heap.size = A at hD ⊢
  have hA : ∀ q : Nat, s.heap.size ≤ q → A q := fun q h => by rw [← hAe]; exact Or.inr h
  have hS : va_S A s.heap s.heap [] := va_S.rf
  have hl := lv_entry ([.ref aM, .int x1, .int x2, .int x3, .int x4, .int x5]) (n := 8) (Nat.le_of_ble_eq_true rfl)
  rw [lg_entry_eq]
  generalize (lg_sl ([.ref aM, .int x1, .int x2, .int x3, .int x4, .int x5]) ++ List.replicate (8 - (lg_sl ([.ref aM, .int x1, .int x2, .int x3, .int x4, .int x5])).length) Slot.unset).toArray = ls at hl ⊢
  have hl : lv_has ls 8 [(0, .ref aM), (1, .int x1), (2, .int x2), (3, .int x3), (4, .int x4), (5, .int x5)] := hl
  unfold f_X8_copy at h
  refine lv_iload_n hx hb dX8_copy_0 rfl (lv_at hl 1 rfl) ?_
  obtain ⟨r_1, hg, h⟩ := bd_some h
  refine rdS (As := [.int x1]) (rest := []) ⟨hx, hb, hml, hown, hts⟩ (k_X8_isShelf l dC dI cI cZ cS N x1 r_1 hg) (va_cwS 1 hts gX8_copy_X8_isShelf rfl rfl rfl cd_X8_isShelf ⟨Nat.le_of_ble_eq_true rfl, Nat.le_of_ble_eq_true rfl⟩) hP hD hK [] (by decide) rfl rfl hl.1 rfl (Nat.le_of_ble_eq_true rfl) dX8_copy_1 ⟨Nat.zero_le _, Nat.zero_le _⟩ ?_
  refine lv_if_eq (tgt := 14) hx hb dX8_copy_4 (by decide) (fun c_2 => ?_) (fun c_2 => ?_)
  · have h := it_p c_2 h
    refine lv_iconst (v := (-1)) hx hb dX8_copy_14 (by decide) ?_
    have h := Option.some.inj h
    exact W.iret hx hb hr (fun t ht hW => ⟨⟨_, (), rfl, by rw [← h], by (try rw [← h]); rw [ht]; exact hP, va_K.moved hW.alike hK, by (try rw [← h]); exact hD⟩, hS.F ht⟩) hS.2.2 dX8_copy_15
  · have h := it_n c_2 h
    refine lv_iload_n hx hb dX8_copy_7 rfl (lv_at hl 3 rfl) ?_
    obtain ⟨r_3, hg, h⟩ := bd_some h
    refine rdS (As := [.int x3]) (rest := []) ⟨hx, hb, hml, hown, hts⟩ (k_X8_isShelf l dC dI cI cZ cS N x3 r_3 hg) (va_cwS 1 hts gX8_copy_X8_isShelf rfl rfl rfl cd_X8_isShelf ⟨Nat.le_of_ble_eq_true rfl, Nat.le_of_ble_eq_true rfl⟩) hP hD hK [] (by decide) rfl rfl hl.1 rfl (Nat.le_of_ble_eq_true rfl) dX8_copy_8 ⟨Nat.zero_le _, Nat.zero_le _⟩ ?_
    refine lv_if_ne (tgt := 16) hx hb dX8_copy_11 (by decide) (fun c_4 => ?_) (fun c_4 => ?_)
    · have h := it_n c_4 h
      refine lv_aload_n hx hb dX8_copy_16 rfl (lv_at hl 0 rfl) ?_
      refine va_get (D := (dC, dI)) (ci := 7) (v := .ref aM_kept) (C := RX8) (T := TX8) (N := 37) hx hb hts (fun _ h => List.mem_cons_of_mem _ (List.mem_append_right _ h)) hown hK hP 0 rfl rfl 4 (by decide) (hts (.fieldLink RX8 22 "SlateRowsModel" "kept" "[I") (by decide +kernel)) (fun _ h9 => h9) hf_M_kept dX8_copy_17 ?_
      refine lv_iload_n hx hb dX8_copy_20 rfl (lv_at hl 1 rfl) ?_
      obtain ⟨hi, h⟩ := ck_some h
      refine va_iald hx hb hK hP 1 0 rfl rfl (gi_in hi) dX8_copy_21 ?_
      refine lv_if_eq (tgt := 34) hx hb dX8_copy_22 (by decide) (fun c_5 => ?_) (fun c_5 => ?_)
      · have h := it_p c_5 h
        refine lv_bipush (v := (-11)) hx hb dX8_copy_34 (by decide) ?_
        have h := Option.some.inj h
        exact W.iret hx hb hr (fun t ht hW => ⟨⟨_, (), rfl, by rw [← h], by (try rw [← h]); rw [ht]; exact hP, va_K.moved hW.alike hK, by (try rw [← h]); exact hD⟩, hS.F ht⟩) hS.2.2 dX8_copy_36
      · have h := it_n c_5 h
        refine lv_aload_n hx hb dX8_copy_25 rfl (lv_at hl 0 rfl) ?_
        refine va_get (D := (dC, dI)) (ci := 7) (v := .ref aM_kept) (C := RX8) (T := TX8) (N := 37) hx hb hts (fun _ h => List.mem_cons_of_mem _ (List.mem_append_right _ h)) hown hK hP 0 rfl rfl 4 (by decide) (hts (.fieldLink RX8 22 "SlateRowsModel" "kept" "[I") (by decide +kernel)) (fun _ h9 => h9) hf_M_kept dX8_copy_26 ?_
        refine lv_iload_n hx hb dX8_copy_29 rfl (lv_at hl 3 rfl) ?_
        obtain ⟨hi, h⟩ := ck_some h
        refine va_iald hx hb hK hP 1 0 rfl rfl (gi_in hi) dX8_copy_30 ?_
        refine lv_if_ne (tgt := 37) hx hb dX8_copy_31 (by decide) (fun c_6 => ?_) (fun c_6 => ?_)
        · have h := it_n c_6 h
          refine lv_aload_n hx hb dX8_copy_37 rfl (lv_at hl 0 rfl) ?_
          refine va_get (D := (dC, dI)) (ci := 7) (v := .ref aM_kept) (C := RX8) (T := TX8) (N := 37) hx hb hts (fun _ h => List.mem_cons_of_mem _ (List.mem_append_right _ h)) hown hK hP 0 rfl rfl 4 (by decide) (hts (.fieldLink RX8 22 "SlateRowsModel" "kept" "[I") (by decide +kernel)) (fun _ h9 => h9) hf_M_kept dX8_copy_38 ?_
          refine lv_iload_n hx hb dX8_copy_41 rfl (lv_at hl 1 rfl) ?_
          obtain ⟨hi, h⟩ := ck_some h
          refine va_iald hx hb hK hP 1 0 rfl rfl (gi_in hi) dX8_copy_42 ?_
          refine lv_iconst (v := 2) hx hb dX8_copy_43 (by decide) ?_
          refine lv_icmp_ne (tgt := 72) hx hb dX8_copy_44 (by decide) (fun c_7 => ?_) (fun c_7 => ?_)
          · have h := it_n c_7 h
            refine lv_bipush (v := (-12)) hx hb dX8_copy_72 (by decide) ?_
            have h := Option.some.inj h
            exact W.iret hx hb hr (fun t ht hW => ⟨⟨_, (), rfl, by rw [← h], by (try rw [← h]); rw [ht]; exact hP, va_K.moved hW.alike hK, by (try rw [← h]); exact hD⟩, hS.F ht⟩) hS.2.2 dX8_copy_74
          · have h := it_p c_7 h
            refine lv_aload_n hx hb dX8_copy_47 rfl (lv_at hl 0 rfl) ?_
            refine va_get (D := (dC, dI)) (ci := 7) (v := .ref aM_kept) (C := RX8) (T := TX8) (N := 37) hx hb hts (fun _ h => List.mem_cons_of_mem _ (List.mem_append_right _ h)) hown hK hP 0 rfl rfl 4 (by decide) (hts (.fieldLink RX8 22 "SlateRowsModel" "kept" "[I") (by decide +kernel)) (fun _ h9 => h9) hf_M_kept dX8_copy_48 ?_
            refine lv_iload_n hx hb dX8_copy_51 rfl (lv_at hl 3 rfl) ?_
            obtain ⟨hi, h⟩ := ck_some h
            refine va_iald hx hb hK hP 1 0 rfl rfl (gi_in hi) dX8_copy_52 ?_
            refine lv_iconst (v := 2) hx hb dX8_copy_53 (by decide) ?_
            refine lv_icmp_ne (tgt := 72) hx hb dX8_copy_54 (by decide) (fun c_8 => ?_) (fun c_8 => ?_)
            · have h := it_n c_8 h
              refine lv_bipush (v := (-12)) hx hb dX8_copy_72 (by decide) ?_
              have h := Option.some.inj h
              exact W.iret hx hb hr (fun t ht hW => ⟨⟨_, (), rfl, by rw [← h], by (try rw [← h]); rw [ht]; exact hP, va_K.moved hW.alike hK, by (try rw [← h]); exact hD⟩, hS.F ht⟩) hS.2.2 dX8_copy_74
            · have h := it_p c_8 h
              refine lv_aload_n hx hb dX8_copy_57 rfl (lv_at hl 0 rfl) ?_
              refine va_get (D := (dC, dI)) (ci := 7) (v := .ref aM_sort) (C := RX8) (T := TX8) (N := 37) hx hb hts (fun _ h => List.mem_cons_of_mem _ (List.mem_append_right _ h)) hown hK hP 0 rfl rfl 5 (by decide) (hts (.fieldLink RX8 25 "SlateRowsModel" "sort" "[I") (by decide +kernel)) (fun _ h9 => h9) hf_M_sort dX8_copy_58 ?_
              refine lv_iload_n hx hb dX8_copy_61 rfl (lv_at hl 1 rfl) ?_
              obtain ⟨hi, h⟩ := ck_some h
              refine va_iald hx hb hK hP 2 0 rfl rfl (gi_in hi) dX8_copy_62 ?_
              refine lv_aload_n hx hb dX8_copy_63 rfl (lv_at hl 0 rfl) ?_
              refine va_get (D := (dC, dI)) (ci := 7) (v := .ref aM_sort) (C := RX8) (T := TX8) (N := 37) hx hb hts (fun _ h => List.mem_cons_of_mem _ (List.mem_append_right _ h)) hown hK hP 0 rfl rfl 5 (by decide) (hts (.fieldLink RX8 25 "SlateRowsModel" "sort" "[I") (by decide +kernel)) (fun _ h9 => h9) hf_M_sort dX8_copy_64 ?_
              refine lv_iload_n hx hb dX8_copy_67 rfl (lv_at hl 3 rfl) ?_
              obtain ⟨hi, h⟩ := ck_some h
              refine va_iald hx hb hK hP 2 0 rfl rfl (gi_in hi) dX8_copy_68 ?_
              refine lv_icmp_eq (tgt := 75) hx hb dX8_copy_69 (by decide) (fun c_9 => ?_) (fun c_9 => ?_)
              · have h := it_p c_9 h
                refine lv_iload hx hb dX8_copy_75 (lv_at hl 5 rfl) ?_
                refine lv_if_lt (tgt := 116) hx hb dX8_copy_77 (by decide) (fun c_10 => ?_) (fun c_10 => ?_)
                · have h := it_p c_10 h
                  refine lv_bipush (v := (-13)) hx hb dX8_copy_116 (by decide) ?_
                  have h := Option.some.inj h
                  exact W.iret hx hb hr (fun t ht hW => ⟨⟨_, (), rfl, by rw [← h], by (try rw [← h]); rw [ht]; exact hP, va_K.moved hW.alike hK, by (try rw [← h]); exact hD⟩, hS.F ht⟩) hS.2.2 dX8_copy_118
                · have h := it_n c_10 h
                  refine lv_iload_n hx hb dX8_copy_80 rfl (lv_at hl 2 rfl) ?_
                  refine lv_if_lt (tgt := 116) hx hb dX8_copy_81 (by decide) (fun c_11 => ?_) (fun c_11 => ?_)
                  · have h := it_p c_11 h
                    refine lv_bipush (v := (-13)) hx hb dX8_copy_116 (by decide) ?_
                    have h := Option.some.inj h
                    exact W.iret hx hb hr (fun t ht hW => ⟨⟨_, (), rfl, by rw [← h], by (try rw [← h]); rw [ht]; exact hP, va_K.moved hW.alike hK, by (try rw [← h]); exact hD⟩, hS.F ht⟩) hS.2.2 dX8_copy_118
                  · have h := it_n c_11 h
                    refine lv_iload hx hb dX8_copy_84 (lv_at hl 4 rfl) ?_
                    refine lv_if_lt (tgt := 116) hx hb dX8_copy_86 (by decide) (fun c_12 => ?_) (fun c_12 => ?_)
                    · have h := it_p c_12 h
                      refine lv_bipush (v := (-13)) hx hb dX8_copy_116 (by decide) ?_
                      have h := Option.some.inj h
                      exact W.iret hx hb hr (fun t ht hW => ⟨⟨_, (), rfl, by rw [← h], by (try rw [← h]); rw [ht]; exact hP, va_K.moved hW.alike hK, by (try rw [← h]); exact hD⟩, hS.F ht⟩) hS.2.2 dX8_copy_118
                    · have h := it_n c_12 h
                      refine lv_iload hx hb dX8_copy_89 (lv_at hl 5 rfl) ?_
                      refine lv_aload_n hx hb dX8_copy_91 rfl (lv_at hl 0 rfl) ?_
                      refine va_get (D := (dC, dI)) (ci := 7) (v := .ref aM_size) (C := RX8) (T := TX8) (N := 37) hx hb hts (fun _ h => List.mem_cons_of_mem _ (List.mem_append_right _ h)) hown hK hP 0 rfl rfl 6 (by decide) (hts (.fieldLink RX8 28 "SlateRowsModel" "size" "[I") (by decide +kernel)) (fun _ h9 => h9) hf_M_size dX8_copy_92 ?_
                      refine lv_iload_n hx hb dX8_copy_95 rfl (lv_at hl 1 rfl) ?_
                      obtain ⟨hi, h⟩ := ck_some h
                      refine va_iald hx hb hK hP 3 0 rfl rfl (gi_in hi) dX8_copy_96 ?_
                      refine lv_iload_n hx hb dX8_copy_97 rfl (lv_at hl 2 rfl) ?_
                      refine lv_isub hx hb dX8_copy_98 ?_
                      refine lv_icmp_gt (tgt := 116) hx hb dX8_copy_99 (by decide) (fun c_13 => ?_) (fun c_13 => ?_)
                      · have h := it_p c_13 h
                        refine lv_bipush (v := (-13)) hx hb dX8_copy_116 (by decide) ?_
                        have h := Option.some.inj h
                        exact W.iret hx hb hr (fun t ht hW => ⟨⟨_, (), rfl, by rw [← h], by (try rw [← h]); rw [ht]; exact hP, va_K.moved hW.alike hK, by (try rw [← h]); exact hD⟩, hS.F ht⟩) hS.2.2 dX8_copy_118
                      · have h := it_n c_13 h
                        refine lv_iload hx hb dX8_copy_102 (lv_at hl 5 rfl) ?_
                        refine lv_aload_n hx hb dX8_copy_104 rfl (lv_at hl 0 rfl) ?_
                        refine va_get (D := (dC, dI)) (ci := 7) (v := .ref aM_size) (C := RX8) (T := TX8) (N := 37) hx hb hts (fun _ h => List.mem_cons_of_mem _ (List.mem_append_right _ h)) hown hK hP 0 rfl rfl 6 (by decide) (hts (.fieldLink RX8 28 "SlateRowsModel" "size" "[I") (by decide +kernel)) (fun _ h9 => h9) hf_M_size dX8_copy_105 ?_
                        refine lv_iload_n hx hb dX8_copy_108 rfl (lv_at hl 3 rfl) ?_
                        obtain ⟨hi, h⟩ := ck_some h
                        refine va_iald hx hb hK hP 3 0 rfl rfl (gi_in hi) dX8_copy_109 ?_
                        refine lv_iload hx hb dX8_copy_110 (lv_at hl 4 rfl) ?_
                        refine lv_isub hx hb dX8_copy_112 ?_
                        refine lv_icmp_le (tgt := 119) hx hb dX8_copy_113 (by decide) (fun c_14 => ?_) (fun c_14 => ?_)
                        · have h := it_p c_14 h
                          refine lv_iconst (v := 0) hx hb dX8_copy_119 (by decide) ?_
                          refine lv_istore (lv' := [(6, .int 0), (0, .ref aM), (1, .int x1), (2, .int x2), (3, .int x3), (4, .int x4), (5, .int x5)]) hx hb dX8_copy_120 hl (by decide) rfl (fun ls hl => ?_)
                          have L122_16 : ∀ (n_17 : Nat) (v6_18 : Int32) (M_element_19 : Nat → Int32) (ls : Array Slot) (H : Heap) (locs : List Loc), f_X8_copy_L122 N M_kept M_sort M_size x1 x2 x3 x4 x5 n_17 v6_18 M_element_19 = some res → lv_has ls 8 [(0, .ref aM), (1, .int x1), (2, .int x2), (3, .int x3), (4, .int x4), (5, .int x5), (6, .int v6_18)] → va_P (dC, dI) vwCl [(aM, .inr (7, fs_M)), (aM_kept, .inl (cI, 8, .inl M_kept)), (aM_sort, .inl (cI, 8, .inl M_sort)), (aM_size, .inl (cI, 8, .inl M_size)), (aM_element, .inl (cI, 800, .inl M_element_19))] H → va_D A [(aM, .inr (7, fs_M)), (aM_kept, .inl (cI, 8, .inl M_kept)), (aM_sort, .inl (cI, 8, .inl M_sort)), (aM_size, .inl (cI, 8, .inl M_size)), (aM_element, .inl (cI, 800, .inl M_element_19))] → va_S A s.heap H locs → W p l e (headSpec wsX8_copy ({ frames := 2, cells := 0, slots := 0, locals := 45 })).room s m ([.ref aM, .int x1, .int x2, .int x3, .int x4, .int x5] : List Value).toArray below meth c H locs 0 0 (MQ below (va_Qi (fun (r : Int32) (_ : Unit) => r = res.1) (fun _ => qW (dC, dI) cI cZ cS A [(aM, .inr (7, fs_M)), (aM_kept, .inl (cI, 8, .inl M_kept)), (aM_sort, .inl (cI, 8, .inl M_sort)), (aM_size, .inl (cI, 8, .inl M_size)), (aM_element, .inl (cI, 800, .inl res.2))]) A) ([.ref aM, .int x1, .int x2, .int x3, .int x4, .int x5] : List Value).toArray s 0 0 A) (F0 m 122 ls []) := by
                            intro n_17
                            induction n_17 with
                            | zero =>
                              intro v6_18 M_element_19 ls H locs h
                              simp only [f_X8_copy_L122] at h
                              try exact absurd h (by simp)
                            | succ n_17 ihn_17 =>
                              intro v6_18 M_element_19 ls H locs h hl hP hD hS
                              rw [f_X8_copy_L122] at h
                              refine lv_iload hx hb dX8_copy_122 (lv_at hl 6 rfl) ?_
                              refine lv_iload hx hb dX8_copy_124 (lv_at hl 5 rfl) ?_
                              refine lv_icmp_ge (tgt := 184) hx hb dX8_copy_126 (by decide) (fun c_20 => ?_) (fun c_20 => ?_)
                              · have h := it_p c_20 h
                                refine lv_iload hx hb dX8_copy_184 (lv_at hl 5 rfl) ?_
                                have h := Option.some.inj h
                                exact W.iret hx hb hr (fun t ht hW => ⟨⟨_, (), rfl, by rw [← h], by (try rw [← h]); rw [ht]; exact hP, va_K.moved hW.alike hK, by (try rw [← h]); exact hD⟩, hS.F ht⟩) hS.2.2 dX8_copy_186
                              · have h := it_n c_20 h
                                refine lv_iload_n hx hb dX8_copy_129 rfl (lv_at hl 2 rfl) ?_
                                refine lv_iload hx hb dX8_copy_130 (lv_at hl 4 rfl) ?_
                                refine lv_icmp_le (tgt := 140) hx hb dX8_copy_132 (by decide) (fun c_21 => ?_) (fun c_21 => ?_)
                                · have h := it_p c_21 h
                                  refine lv_iload hx hb dX8_copy_140 (lv_at hl 5 rfl) ?_
                                  refine lv_iconst (v := 1) hx hb dX8_copy_142 (by decide) ?_
                                  refine lv_isub hx hb dX8_copy_143 ?_
                                  refine lv_iload hx hb dX8_copy_144 (lv_at hl 6 rfl) ?_
                                  refine lv_isub hx hb dX8_copy_146 ?_
                                  refine lv_istore (lv' := [(7, .int ((x5 - 1) - v6_18)), (0, .ref aM), (1, .int x1), (2, .int x2), (3, .int x3), (4, .int x4), (5, .int x5), (6, .int v6_18)]) hx hb dX8_copy_147 hl (by decide) rfl (fun ls hl => ?_)
                                  refine lv_aload_n hx hb dX8_copy_149 rfl (lv_at hl 1 rfl) ?_
                                  refine va_get (D := (dC, dI)) (ci := 7) (v := .ref aM_element) (C := RX8) (T := TX8) (N := 37) hx hb hts (fun _ h => List.mem_cons_of_mem _ (List.mem_append_right _ h)) hown hK hP 0 rfl rfl 7 (by decide) (hts (.fieldLink RX8 31 "SlateRowsModel" "element" "[I") (by decide +kernel)) (fun _ h9 => h9) hf_M_element dX8_copy_150 ?_
                                  refine lv_bipush (v := 100) hx hb dX8_copy_153 (by decide) ?_
                                  refine lv_iload_n hx hb dX8_copy_155 rfl (lv_at hl 4 rfl) ?_
                                  refine lv_imul hx hb dX8_copy_156 ?_
                                  refine lv_iload hx hb dX8_copy_157 (lv_at hl 5 rfl) ?_
                                  refine lv_iadd hx hb dX8_copy_159 ?_
                                  refine lv_iload hx hb dX8_copy_160 (lv_at hl 0 rfl) ?_
                                  refine lv_iadd hx hb dX8_copy_162 ?_
                                  refine lv_aload_n hx hb dX8_copy_163 rfl (lv_at hl 1 rfl) ?_
                                  refine va_get (D := (dC, dI)) (ci := 7) (v := .ref aM_element) (C := RX8) (T := TX8) (N := 37) hx hb hts (fun _ h => List.mem_cons_of_mem _ (List.mem_append_right _ h)) hown hK hP 0 rfl rfl 7 (by decide) (hts (.fieldLink RX8 31 "SlateRowsModel" "element" "[I") (by decide +kernel)) (fun _ h9 => h9) hf_M_element dX8_copy_164 ?_
                                  refine lv_bipush (v := 100) hx hb dX8_copy_167 (by decide) ?_
                                  refine lv_iload_n hx hb dX8_copy_169 rfl (lv_at hl 2 rfl) ?_
                                  refine lv_imul hx hb dX8_copy_170 ?_
                                  refine lv_iload_n hx hb dX8_copy_171 rfl (lv_at hl 3 rfl) ?_
                                  refine lv_iadd hx hb dX8_copy_172 ?_
                                  refine lv_iload hx hb dX8_copy_173 (lv_at hl 0 rfl) ?_
                                  refine lv_iadd hx hb dX8_copy_175 ?_
                                  obtain ⟨hi, h⟩ := ck_some h
                                  refine va_iald hx hb hK hP 4 0 rfl rfl (gi_in hi) dX8_copy_176 ?_
                                  obtain ⟨hi, h⟩ := ck_some h
                                  refine va_iast hx hb hK hP hD hS 4 0 rfl rfl (gi_in hi) dX8_copy_177 (fun H locs hP hD hS => ?_)
                                  have hP : va_P (dC, dI) vwCl [(aM, .inr (7, fs_M)), (aM_kept, .inl (cI, 8, .inl M_kept)), (aM_sort, .inl (cI, 8, .inl M_sort)), (aM_size, .inl (cI, 8, .inl M_size)), (aM_element, .inl (cI, 800, .inl (upd M_element_19 (((100 * x3) + x4) + ((x5 - 1) - v6_18)).toNatClampNeg (M_element_19 (((100 * x1) + x2) + ((x5 - 1) - v6_18)).toNatClampNeg))))] H := hP
                                  have hD : va_D A [(aM, .inr (7, fs_M)), (aM_kept, .inl (cI, 8, .inl M_kept)), (aM_sort, .inl (cI, 8, .inl M_sort)), (aM_size, .inl (cI, 8, .inl M_size)), (aM_element, .inl (cI, 800, .inl (upd M_element_19 (((100 * x3) + x4) + ((x5 - 1) - v6_18)).toNatClampNeg (M_element_19 (((100 * x1) + x2) + ((x5 - 1) - v6_18)).toNatClampNeg))))] := hD
                                  refine lv_iinc (v := (v6_18 + 1)) (lv' := [(6, .int (v6_18 + 1)), (7, .int ((x5 - 1) - v6_18)), (0, .ref aM), (1, .int x1), (2, .int x2), (3, .int x3), (4, .int x4), (5, .int x5)]) hx hb dX8_copy_178 hl (k := 7) rfl rfl (by decide) rfl (fun ls hl => ?_)
                                  refine lv_goto (tgt := 122) hx hb dX8_copy_181 (by decide) ?_
                                  exact ihn_17 (v6_18 + 1) (upd M_element_19 (((100 * x3) + x4) + ((x5 - 1) - v6_18)).toNatClampNeg (M_element_19 (((100 * x1) + x2) + ((x5 - 1) - v6_18)).toNatClampNeg)) ls _ _ h (lv_sub hl [2, 3, 4, 5, 6, 7, 0] rfl) hP hD hS
                                · have h := it_n c_21 h
                                  refine lv_iload hx hb dX8_copy_135 (lv_at hl 6 rfl) ?_
                                  refine lv_goto (tgt := 147) hx hb dX8_copy_137 (by decide) ?_
                                  refine lv_istore (lv' := [(7, .int v6_18), (0, .ref aM), (1, .int x1), (2, .int x2), (3, .int x3), (4, .int x4), (5, .int x5), (6, .int v6_18)]) hx hb dX8_copy_147 hl (by decide) rfl (fun ls hl => ?_)
                                  refine lv_aload_n hx hb dX8_copy_149 rfl (lv_at hl 1 rfl) ?_
                                  refine va_get (D := (dC, dI)) (ci := 7) (v := .ref aM_element) (C := RX8) (T := TX8) (N := 37) hx hb hts (fun _ h => List.mem_cons_of_mem _ (List.mem_append_right _ h)) hown hK hP 0 rfl rfl 7 (by decide) (hts (.fieldLink RX8 31 "SlateRowsModel" "element" "[I") (by decide +kernel)) (fun _ h9 => h9) hf_M_element dX8_copy_150 ?_
                                  refine lv_bipush (v := 100) hx hb dX8_copy_153 (by decide) ?_
                                  refine lv_iload_n hx hb dX8_copy_155 rfl (lv_at hl 4 rfl) ?_
                                  refine lv_imul hx hb dX8_copy_156 ?_
                                  refine lv_iload hx hb dX8_copy_157 (lv_at hl 5 rfl) ?_
                                  refine lv_iadd hx hb dX8_copy_159 ?_
                                  refine lv_iload hx hb dX8_copy_160 (lv_at hl 0 rfl) ?_
                                  refine lv_iadd hx hb dX8_copy_162 ?_
                                  refine lv_aload_n hx hb dX8_copy_163 rfl (lv_at hl 1 rfl) ?_
                                  refine va_get (D := (dC, dI)) (ci := 7) (v := .ref aM_element) (C := RX8) (T := TX8) (N := 37) hx hb hts (fun _ h => List.mem_cons_of_mem _ (List.mem_append_right _ h)) hown hK hP 0 rfl rfl 7 (by decide) (hts (.fieldLink RX8 31 "SlateRowsModel" "element" "[I") (by decide +kernel)) (fun _ h9 => h9) hf_M_element dX8_copy_164 ?_
                                  refine lv_bipush (v := 100) hx hb dX8_copy_167 (by decide) ?_
                                  refine lv_iload_n hx hb dX8_copy_169 rfl (lv_at hl 2 rfl) ?_
                                  refine lv_imul hx hb dX8_copy_170 ?_
                                  refine lv_iload_n hx hb dX8_copy_171 rfl (lv_at hl 3 rfl) ?_
                                  refine lv_iadd hx hb dX8_copy_172 ?_
                                  refine lv_iload hx hb dX8_copy_173 (lv_at hl 0 rfl) ?_
                                  refine lv_iadd hx hb dX8_copy_175 ?_
                                  obtain ⟨hi, h⟩ := ck_some h
                                  refine va_iald hx hb hK hP 4 0 rfl rfl (gi_in hi) dX8_copy_176 ?_
                                  obtain ⟨hi, h⟩ := ck_some h
                                  refine va_iast hx hb hK hP hD hS 4 0 rfl rfl (gi_in hi) dX8_copy_177 (fun H locs hP hD hS => ?_)
                                  have hP : va_P (dC, dI) vwCl [(aM, .inr (7, fs_M)), (aM_kept, .inl (cI, 8, .inl M_kept)), (aM_sort, .inl (cI, 8, .inl M_sort)), (aM_size, .inl (cI, 8, .inl M_size)), (aM_element, .inl (cI, 800, .inl (upd M_element_19 (((100 * x3) + x4) + v6_18).toNatClampNeg (M_element_19 (((100 * x1) + x2) + v6_18).toNatClampNeg))))] H := hP
                                  have hD : va_D A [(aM, .inr (7, fs_M)), (aM_kept, .inl (cI, 8, .inl M_kept)), (aM_sort, .inl (cI, 8, .inl M_sort)), (aM_size, .inl (cI, 8, .inl M_size)), (aM_element, .inl (cI, 800, .inl (upd M_element_19 (((100 * x3) + x4) + v6_18).toNatClampNeg (M_element_19 (((100 * x1) + x2) + v6_18).toNatClampNeg))))] := hD
                                  refine lv_iinc (v := (v6_18 + 1)) (lv' := [(6, .int (v6_18 + 1)), (7, .int v6_18), (0, .ref aM), (1, .int x1), (2, .int x2), (3, .int x3), (4, .int x4), (5, .int x5)]) hx hb dX8_copy_178 hl (k := 7) rfl rfl (by decide) rfl (fun ls hl => ?_)
                                  refine lv_goto (tgt := 122) hx hb dX8_copy_181 (by decide) ?_
                                  exact ihn_17 (v6_18 + 1) (upd M_element_19 (((100 * x3) + x4) + v6_18).toNatClampNeg (M_element_19 (((100 * x1) + x2) + v6_18).toNatClampNeg)) ls _ _ h (lv_sub hl [2, 3, 4, 5, 6, 7, 0] rfl) hP hD hS
                          exact L122_16 N 0 M_element ls _ _ h (lv_sub hl [1, 2, 3, 4, 5, 6, 0] rfl) hP hD hS
                        · have h := it_n c_14 h
                          refine lv_bipush (v := (-13)) hx hb dX8_copy_116 (by decide) ?_
                          have h := Option.some.inj h
                          exact W.iret hx hb hr (fun t ht hW => ⟨⟨_, (), rfl, by rw [← h], by (try rw [← h]); rw [ht]; exact hP, va_K.moved hW.alike hK, by (try rw [← h]); exact hD⟩, hS.F ht⟩) hS.2.2 dX8_copy_118
              · have h := it_n c_9 h
                refine lv_bipush (v := (-12)) hx hb dX8_copy_72 (by decide) ?_
                have h := Option.some.inj h
                exact W.iret hx hb hr (fun t ht hW => ⟨⟨_, (), rfl, by rw [← h], by (try rw [← h]); rw [ht]; exact hP, va_K.moved hW.alike hK, by (try rw [← h]); exact hD⟩, hS.F ht⟩) hS.2.2 dX8_copy_74
        · have h := it_p c_6 h
          refine lv_bipush (v := (-11)) hx hb dX8_copy_34 (by decide) ?_
          have h := Option.some.inj h
          exact W.iret hx hb hr (fun t ht hW => ⟨⟨_, (), rfl, by rw [← h], by (try rw [← h]); rw [ht]; exact hP, va_K.moved hW.alike hK, by (try rw [← h]); exact hD⟩, hS.F ht⟩) hS.2.2 dX8_copy_36
    · have h := it_p c_4 h
      refine lv_iconst (v := (-1)) hx hb dX8_copy_14 (by decide) ?_
      have h := Option.some.inj h
      exact W.iret hx hb hr (fun t ht hW => ⟨⟨_, (), rfl, by rw [← h], by (try rw [← h]); rw [ht]; exact hP, va_K.moved hW.alike hK, by (try rw [← h]); exact hD⟩, hS.F ht⟩) hS.2.2 dX8_copy_15
def f_X8_toilOf (N : Nat) (M_keptKind : Nat → Int32) (M_keptFigure : Nat → Int32) (x1 : Int32) : Option (Int32) :=
  ck (gi x1 8) (ck (gi x1 8) (if (M_keptKind x1.toNatClampNeg) = 1 then (some ((2 + (M_keptFigure x1.toNatClampNeg)))) else (if (M_keptKind x1.toNatClampNeg) = 2 then (some (6)) else (if (M_keptKind x1.toNatClampNeg) = 3 then (some ((6 + (M_keptFigure x1.toNatClampNeg)))) else (if (M_keptKind x1.toNatClampNeg) = 4 then (some ((2 - (M_keptFigure x1.toNatClampNeg)))) else (if (M_keptKind x1.toNatClampNeg) = 5 then (some ((6 + (M_keptFigure x1.toNatClampNeg)))) else (if (M_keptKind x1.toNatClampNeg) = 6 then (some (((6 + (M_keptFigure x1.toNatClampNeg)) / 2))) else (some (2)))))))))
set_option maxHeartbeats 4000000 in
set_option maxRecDepth 100000 in
theorem k_X8_toilOf (l : Launch) (dC : Nat → ClassId) (dI : Nat → Nat → Nat) (cI cZ cS : ClassId) (N : Nat) (aM aM_keptKind aM_keptFigure : Nat) (fs_M : List Value) (M_keptKind : Nat → Int32) (M_keptFigure : Nat → Int32) (x1 : Int32) (hf_M_keptKind : fs_M[8]? = some (.ref aM_keptKind)) (hf_M_keptFigure : fs_M[9]? = some (.ref aM_keptFigure)) (res : Int32) (h : f_X8_toilOf N M_keptKind M_keptFigure x1 = some res) : Met l yX8_toilOf wsX8_toilOf ({ frames := 0, cells := 0, slots := 0, locals := 0 }) (va_Pc [.ref aM, .int x1] (wd (dC, dI) cI cZ cS [(aM, .inr (7, fs_M)), (aM_keptKind, .inl (cI, 8, .inl M_keptKind)), (aM_keptFigure, .inl (cI, 8, .inl M_keptFigure))])) (vp_Si (fun r => r = res)) 0 0 (fun _ => False) := by
  refine Met.ofW (cc := cX8_toilOf) (maxL := 3) (ret := (some .int)) (by decide) rfl ?_
  intro p e s m args below meth c s₁ B hml hv
  obtain ⟨rfl, hP, hK, hD⟩ := hv
  have hx := B.exec
  have hb := B.bytes
  have hr := B.returns
  have hts := atoms_spec (ws := wsX8_toilOf) B.pre
  have hown : s.vm.findClass RX8 = some m.cls := findClass_of_methodNamed B.named
  have hlocks := B.notSynchronized
  have hl := lv_entry ([.ref aM, .int x1]) (n := 3) (Nat.le_of_ble_eq_true rfl)
  rw [lg_entry_eq]
  generalize (lg_sl ([.ref aM, .int x1]) ++ List.replicate (3 - (lg_sl ([.ref aM, .int x1])).length) Slot.unset).toArray = ls at hl ⊢
  have hl : lv_has ls 3 [(0, .ref aM), (1, .int x1)] := hl
  unfold f_X8_toilOf at h
  refine lv_aload_n hx hb dX8_toilOf_0 rfl (lv_at hl 0 rfl) ?_
  refine va_get (D := (dC, dI)) (ci := 7) (v := .ref aM_keptFigure) (C := RX8) (T := TX8) (N := 37) hx hb hts (fun _ h => List.mem_cons_of_mem _ (List.mem_append_right _ h)) hown hK hP 0 rfl rfl 9 (by decide) (hts (.fieldLink RX8 37 "SlateRowsModel" "keptFigure" "[I") (by decide +kernel)) (fun _ h9 => h9) hf_M_keptFigure dX8_toilOf_1 ?_
  refine lv_iload_n hx hb dX8_toilOf_4 rfl (lv_at hl 1 rfl) ?_
  obtain ⟨hi, h⟩ := ck_some h
  refine va_iald hx hb hK hP 2 0 rfl rfl (gi_in hi) dX8_toilOf_5 ?_
  refine lv_istore_n (lv' := [(2, .int (M_keptFigure x1.toNatClampNeg)), (0, .ref aM), (1, .int x1)]) hx hb dX8_toilOf_6 rfl hl (by decide) rfl (fun ls hl => ?_)
  refine lv_aload_n hx hb dX8_toilOf_7 rfl (lv_at hl 1 rfl) ?_
  refine va_get (D := (dC, dI)) (ci := 7) (v := .ref aM_keptKind) (C := RX8) (T := TX8) (N := 37) hx hb hts (fun _ h => List.mem_cons_of_mem _ (List.mem_append_right _ h)) hown hK hP 0 rfl rfl 8 (by decide) (hts (.fieldLink RX8 34 "SlateRowsModel" "keptKind" "[I") (by decide +kernel)) (fun _ h9 => h9) hf_M_keptKind dX8_toilOf_8 ?_
  refine lv_iload_n hx hb dX8_toilOf_11 rfl (lv_at hl 2 rfl) ?_
  obtain ⟨hi, h⟩ := ck_some h
  refine va_iald hx hb hK hP 1 0 rfl rfl (gi_in hi) dX8_toilOf_12 ?_
  by_cases c_1 : (M_keptKind x1.toNatClampNeg) = 1
  · have h := it_p c_1 h
    refine lv_tableIn (tgt := 52) hx hb dX8_toilOf_13 (by rw [c_1]; decide) (by rw [c_1]; decide) (by rw [c_1]; rfl) (by decide) ?_
    refine lv_iconst (v := 2) hx hb dX8_toilOf_52 (by decide) ?_
    refine lv_iload_n hx hb dX8_toilOf_53 rfl (lv_at hl 0 rfl) ?_
    refine lv_iadd hx hb dX8_toilOf_54 ?_
    exact W.iret hx hb hr (fun t ht hW => ⟨_, rfl, Option.some.inj h, ht⟩) (fun q hq => by cases hq) dX8_toilOf_55
  have h := it_n c_1 h
  by_cases c_2 : (M_keptKind x1.toNatClampNeg) = 2
  · have h := it_p c_2 h
    refine lv_tableIn (tgt := 56) hx hb dX8_toilOf_13 (by rw [c_2]; decide) (by rw [c_2]; decide) (by rw [c_2]; rfl) (by decide) ?_
    refine lv_bipush (v := 6) hx hb dX8_toilOf_56 (by decide) ?_
    exact W.iret hx hb hr (fun t ht hW => ⟨_, rfl, Option.some.inj h, ht⟩) (fun q hq => by cases hq) dX8_toilOf_58
  have h := it_n c_2 h
  by_cases c_3 : (M_keptKind x1.toNatClampNeg) = 3
  · have h := it_p c_3 h
    refine lv_tableIn (tgt := 59) hx hb dX8_toilOf_13 (by rw [c_3]; decide) (by rw [c_3]; decide) (by rw [c_3]; rfl) (by decide) ?_
    refine lv_bipush (v := 6) hx hb dX8_toilOf_59 (by decide) ?_
    refine lv_iload_n hx hb dX8_toilOf_61 rfl (lv_at hl 0 rfl) ?_
    refine lv_iadd hx hb dX8_toilOf_62 ?_
    exact W.iret hx hb hr (fun t ht hW => ⟨_, rfl, Option.some.inj h, ht⟩) (fun q hq => by cases hq) dX8_toilOf_63
  have h := it_n c_3 h
  by_cases c_4 : (M_keptKind x1.toNatClampNeg) = 4
  · have h := it_p c_4 h
    refine lv_tableIn (tgt := 64) hx hb dX8_toilOf_13 (by rw [c_4]; decide) (by rw [c_4]; decide) (by rw [c_4]; rfl) (by decide) ?_
    refine lv_iconst (v := 2) hx hb dX8_toilOf_64 (by decide) ?_
    refine lv_iload_n hx hb dX8_toilOf_65 rfl (lv_at hl 0 rfl) ?_
    refine lv_isub hx hb dX8_toilOf_66 ?_
    exact W.iret hx hb hr (fun t ht hW => ⟨_, rfl, Option.some.inj h, ht⟩) (fun q hq => by cases hq) dX8_toilOf_67
  have h := it_n c_4 h
  by_cases c_5 : (M_keptKind x1.toNatClampNeg) = 5
  · have h := it_p c_5 h
    refine lv_tableIn (tgt := 68) hx hb dX8_toilOf_13 (by rw [c_5]; decide) (by rw [c_5]; decide) (by rw [c_5]; rfl) (by decide) ?_
    refine lv_bipush (v := 6) hx hb dX8_toilOf_68 (by decide) ?_
    refine lv_iload_n hx hb dX8_toilOf_70 rfl (lv_at hl 0 rfl) ?_
    refine lv_iadd hx hb dX8_toilOf_71 ?_
    exact W.iret hx hb hr (fun t ht hW => ⟨_, rfl, Option.some.inj h, ht⟩) (fun q hq => by cases hq) dX8_toilOf_72
  have h := it_n c_5 h
  by_cases c_6 : (M_keptKind x1.toNatClampNeg) = 6
  · have h := it_p c_6 h
    refine lv_tableIn (tgt := 73) hx hb dX8_toilOf_13 (by rw [c_6]; decide) (by rw [c_6]; decide) (by rw [c_6]; rfl) (by decide) ?_
    refine lv_bipush (v := 6) hx hb dX8_toilOf_73 (by decide) ?_
    refine lv_iload_n hx hb dX8_toilOf_75 rfl (lv_at hl 0 rfl) ?_
    refine lv_iadd hx hb dX8_toilOf_76 ?_
    refine lv_iconst (v := 2) hx hb dX8_toilOf_77 (by decide) ?_
    refine lv_idiv hx hb dX8_toilOf_78 (by decide) ?_
    exact W.iret hx hb hr (fun t ht hW => ⟨_, rfl, Option.some.inj h, ht⟩) (fun q hq => by cases hq) dX8_toilOf_79
  have h := it_n c_6 h
  refine lv_tableOut (tgt := 80) hx hb dX8_toilOf_13 (by have qc_1 := lv_neT (a := 1) c_1 rfl; have qc_2 := lv_neT (a := 2) c_2 rfl; have qc_3 := lv_neT (a := 3) c_3 rfl; have qc_4 := lv_neT (a := 4) c_4 rfl; have qc_5 := lv_neT (a := 5) c_5 rfl; have qc_6 := lv_neT (a := 6) c_6 rfl; omega) (by decide) ?_
  refine lv_iconst (v := 2) hx hb dX8_toilOf_80 (by decide) ?_
  exact W.iret hx hb hr (fun t ht hW => ⟨_, rfl, Option.some.inj h, ht⟩) (fun q hq => by cases hq) dX8_toilOf_81
def f_X8_toil (N : Nat) (M_kept : Nat → Int32) (M_keptKind : Nat → Int32) (M_keptFigure : Nat → Int32) (x1 : Int32) : Option (Int32) :=
  (f_X8_wrongLaying N M_kept x1).bind fun r_1 => if r_1 = 0 then ((f_X8_toilOf N M_keptKind M_keptFigure x1).bind fun r_3 => some (r_3)) else (some (((-1000000000) + r_1)))
set_option maxHeartbeats 4000000 in
set_option maxRecDepth 100000 in
theorem k_X8_toil (l : Launch) (dC : Nat → ClassId) (dI : Nat → Nat → Nat) (cI cZ cS : ClassId) (N : Nat) (aM aM_kept aM_keptKind aM_keptFigure : Nat) (fs_M : List Value) (M_kept : Nat → Int32) (M_keptKind : Nat → Int32) (M_keptFigure : Nat → Int32) (x1 : Int32) (hf_M_kept : fs_M[4]? = some (.ref aM_kept)) (hf_M_keptKind : fs_M[8]? = some (.ref aM_keptKind)) (hf_M_keptFigure : fs_M[9]? = some (.ref aM_keptFigure)) (res : Int32) (h : f_X8_toil N M_kept M_keptKind M_keptFigure x1 = some res) : Met l yX8_toil wsX8_toil ({ frames := 3, cells := 0, slots := 0, locals := 66 }) (va_Pc [.ref aM, .int x1] (wd (dC, dI) cI cZ cS [(aM, .inr (7, fs_M)), (aM_kept, .inl (cI, 8, .inl M_kept)), (aM_keptKind, .inl (cI, 8, .inl M_keptKind)), (aM_keptFigure, .inl (cI, 8, .inl M_keptFigure))])) (vp_Si (fun r => r = res)) 0 0 (fun _ => False) := by
  refine Met.ofW (cc := cX8_toil) (maxL := 3) (ret := (some .int)) (by decide) rfl ?_
  intro p e s m args below meth c s₁ B hml hv
  obtain ⟨rfl, hP, hK, hD⟩ := hv
  have hx := B.exec
  have hb := B.bytes
  have hr := B.returns
  have hts := atoms_spec (ws := wsX8_toil) B.pre
  have hown : s.vm.findClass RX8 = some m.cls := findClass_of_methodNamed B.named
  have hlocks := B.notSynchronized
  have hl := lv_entry ([.ref aM, .int x1]) (n := 3) (Nat.le_of_ble_eq_true rfl)
  rw [lg_entry_eq]
  generalize (lg_sl ([.ref aM, .int x1]) ++ List.replicate (3 - (lg_sl ([.ref aM, .int x1])).length) Slot.unset).toArray = ls at hl ⊢
  have hl : lv_has ls 3 [(0, .ref aM), (1, .int x1)] := hl
  unfold f_X8_toil at h
  refine lv_aload_n hx hb dX8_toil_0 rfl (lv_at hl 0 rfl) ?_
  refine lv_iload_n hx hb dX8_toil_1 rfl (lv_at hl 1 rfl) ?_
  obtain ⟨r_1, hg, h⟩ := bd_some h
  refine rdV (As := [.int x1]) (rest := []) (ci := 7) ⟨hx, hb, hml, hown, hts⟩ (k_X8_wrongLaying l dC dI cI cZ cS N aM aM_kept fs_M M_kept x1 hf_M_kept r_1 hg) (cwV 1 hts gX8_toil_X8_wrongLaying rfl rfl rfl cd_X8_wrongLaying ⟨Nat.le_of_ble_eq_true rfl, Nat.le_of_ble_eq_true rfl⟩) hP hD hK [0, 1] (by decide) rfl rfl rfl rfl hl.1 rfl (Nat.le_of_ble_eq_true rfl) dX8_toil_2 ⟨Nat.zero_le _, Nat.zero_le _⟩ ?_
  refine lv_istore_n (lv' := [(2, .int r_1), (0, .ref aM), (1, .int x1)]) hx hb dX8_toil_5 rfl hl (by decide) rfl (fun ls hl => ?_)
  refine lv_iload_n hx hb dX8_toil_6 rfl (lv_at hl 0 rfl) ?_
  refine lv_if_eq (tgt := 18) hx hb dX8_toil_7 (by decide) (fun c_2 => ?_) (fun c_2 => ?_)
  · have h := it_p c_2 h
    refine lv_aload_n hx hb dX8_toil_18 rfl (lv_at hl 1 rfl) ?_
    refine lv_iload_n hx hb dX8_toil_19 rfl (lv_at hl 2 rfl) ?_
    obtain ⟨r_3, hg, h⟩ := bd_some h
    refine rdV (As := [.int x1]) (rest := []) (ci := 7) ⟨hx, hb, hml, hown, hts⟩ (k_X8_toilOf l dC dI cI cZ cS N aM aM_keptKind aM_keptFigure fs_M M_keptKind M_keptFigure x1 hf_M_keptKind hf_M_keptFigure r_3 hg) (cwV 1 hts gX8_toil_X8_toilOf rfl rfl rfl cd_X8_toilOf ⟨Nat.le_of_ble_eq_true rfl, Nat.le_of_ble_eq_true rfl⟩) hP hD hK [0, 2, 3] (by decide) rfl rfl rfl rfl hl.1 rfl (Nat.le_of_ble_eq_true rfl) dX8_toil_20 ⟨Nat.zero_le _, Nat.zero_le _⟩ ?_
    exact W.iret hx hb hr (fun t ht hW => ⟨_, rfl, Option.some.inj h, ht⟩) (fun q hq => by cases hq) dX8_toil_23
  · have h := it_n c_2 h
    refine lv_ldcw (v := (-1000000000)) hx hb hown (hts (.constant RX8 304 (-1000000000)) (by decide +kernel)) dX8_toil_10 ?_
    refine lv_iload_n hx hb dX8_toil_13 rfl (lv_at hl 0 rfl) ?_
    refine lv_iadd hx hb dX8_toil_14 ?_
    refine lv_goto (tgt := 23) hx hb dX8_toil_15 (by decide) ?_
    exact W.iret hx hb hr (fun t ht hW => ⟨_, rfl, Option.some.inj h, ht⟩) (fun q hq => by cases hq) dX8_toil_23
