theorem cd_X8_cuts : yX8_cuts.cls = RX8 ∧ yX8_cuts.cls ≠ "java/lang/invoke/MethodHandle" ∧ yX8_cuts.cls ≠ "java/lang/invoke/VarHandle" ∧ (parseMethodDescriptor yX8_cuts.desc).map (fun d => d.parameters.length) = some 2 := by decide +kernel
theorem cd_X8_wrongWidth : yX8_wrongWidth.cls = RX8 ∧ yX8_wrongWidth.cls ≠ "java/lang/invoke/MethodHandle" ∧ yX8_wrongWidth.cls ≠ "java/lang/invoke/VarHandle" ∧ (parseMethodDescriptor yX8_wrongWidth.desc).map (fun d => d.parameters.length) = some 2 := by decide +kernel
theorem cd_X8_uses : yX8_uses.cls = RX8 ∧ yX8_uses.cls ≠ "java/lang/invoke/MethodHandle" ∧ yX8_uses.cls ≠ "java/lang/invoke/VarHandle" ∧ (parseMethodDescriptor yX8_uses.desc).map (fun d => d.parameters.length) = some 2 := by decide +kernel
theorem cd_X8_needs : yX8_needs.cls = RX8 ∧ yX8_needs.cls ≠ "java/lang/invoke/MethodHandle" ∧ yX8_needs.cls ≠ "java/lang/invoke/VarHandle" ∧ (parseMethodDescriptor yX8_needs.desc).map (fun d => d.parameters.length) = some 2 := by decide +kernel
def f_X8_cuts (N : Nat) (M_s : Nat → Int32) (M_way : Nat → Int32) (M_found : Nat → Int32) (M_foundSize : Int32) (M_foundCut : Int32) (x1 : Int32) (x2 : Int32) : Option (Int32 × (Nat → Int32) × (Nat → Int32) × (Nat → Int32) × Int32 × Int32) :=
  if (-1) ≤ x2 then ((f_X8_wrong N M_s x1).bind fun r_2 => if r_2 = 0 then ((f_X8_cutsFrom N 16 M_s M_way M_found (-1) M_foundCut x1 0 0).bind fun r_4 => if 0 ≤ r_4.2.2.2.1 then (if 0 ≤ x2 then ((f_X8_foundAt N r_4.2.2.1 r_4.2.2.2.1 x2).bind fun r_7 => some (r_7, r_4.1, r_4.2.1, r_4.2.2.1, r_4.2.2.2.1, r_4.2.2.2.2)) else (some (r_4.2.2.2.2, r_4.1, r_4.2.1, r_4.2.2.1, r_4.2.2.2.1, r_4.2.2.2.2))) else (some ((-4), r_4.1, r_4.2.1, r_4.2.2.1, r_4.2.2.2.1, r_4.2.2.2.2))) else (some (r_2, M_s, M_way, M_found, M_foundSize, M_foundCut))) else (some ((-1), M_s, M_way, M_found, M_foundSize, M_foundCut))
set_option maxHeartbeats 4000000 in
set_option maxRecDepth 100000 in
theorem k_X8_cuts (l : Launch) (dC : Nat → ClassId) (dI : Nat → Nat → Nat) (cI cZ cS : ClassId) (N : Nat) (aM aM_s aM_way aM_found aM_image aM_read aM_saved aM_kept aM_sort aM_size aM_element aM_keptKind aM_keptFigure aM_numbers aM_used aM_isOne aM_isTwo : Nat) (sz : Nat) (M_s : Nat → Int32) (M_hasImage : Int32) (M_thrown : Int32) (M_pos : Int32) (M_base : Int32) (M_end : Int32) (M_number : Int32) (M_told : Int32) (M_way : Nat → Int32) (M_found : Nat → Int32) (M_wayRow : Int32) (M_wayTo : Int32) (M_ways : Int32) (M_endsBy : Int32) (M_foundSize : Int32) (M_foundWorth : Int32) (M_foundCut : Int32) (M_z : Int32) (M_aside : Int32) (M_byRow : Int32) (M_byAt : Int32) (M_one : Int32) (M_two : Int32) (M_slatesBy : Int32) (x1 : Int32) (x2 : Int32) (res : Int32 × (Nat → Int32) × (Nat → Int32) × (Nat → Int32) × Int32 × Int32) (h : f_X8_cuts N M_s M_way M_found M_foundSize M_foundCut x1 x2 = some res) : Met l yX8_cuts wsX8_cuts ({ frames := 20, cells := 0, slots := 0, locals := 512 }) (va_Pc [.ref aM, .int x1, .int x2] (preW (dC, dI) cI cZ cS [(aM, .inr (7, [.ref aM_s, .ref aM_image, .ref aM_read, .ref aM_saved, .ref aM_kept, .ref aM_sort, .ref aM_size, .ref aM_element, .ref aM_keptKind, .ref aM_keptFigure, .int M_hasImage, .int M_thrown, .int M_pos, .int M_base, .int M_end, .int M_number, .int M_told, .ref aM_numbers, .ref aM_used, .ref aM_way, .ref aM_found, .int M_wayRow, .int M_wayTo, .int M_ways, .int M_endsBy, .int M_foundSize, .int M_foundWorth, .int M_foundCut, .ref aM_isOne, .ref aM_isTwo, .int M_z, .int M_aside, .int M_byRow, .int M_byAt, .int M_one, .int M_two, .int M_slatesBy])), (aM_s, .inl (cI, 99, .inl M_s)), (aM_way, .inl (cI, 16, .inl M_way)), (aM_found, .inl (cI, 16, .inl M_found))] sz)) (va_Qi (fun (r : Int32) (_ : Unit) => r = res.1) (fun _ => qW (dC, dI) cI cZ cS (va_A [(aM, .inr (7, [.ref aM_s, .ref aM_image, .ref aM_read, .ref aM_saved, .ref aM_kept, .ref aM_sort, .ref aM_size, .ref aM_element, .ref aM_keptKind, .ref aM_keptFigure, .int M_hasImage, .int M_thrown, .int M_pos, .int M_base, .int M_end, .int M_number, .int M_told, .ref aM_numbers, .ref aM_used, .ref aM_way, .ref aM_found, .int M_wayRow, .int M_wayTo, .int M_ways, .int M_endsBy, .int M_foundSize, .int M_foundWorth, .int M_foundCut, .ref aM_isOne, .ref aM_isTwo, .int M_z, .int M_aside, .int M_byRow, .int M_byAt, .int M_one, .int M_two, .int M_slatesBy])), (aM_s, .inl (cI, 99, .inl M_s)), (aM_way, .inl (cI, 16, .inl M_way)), (aM_found, .inl (cI, 16, .inl M_found))] sz) [(aM, .inr (7, [.ref aM_s, .ref aM_image, .ref aM_read, .ref aM_saved, .ref aM_kept, .ref aM_sort, .ref aM_size, .ref aM_element, .ref aM_keptKind, .ref aM_keptFigure, .int M_hasImage, .int M_thrown, .int M_pos, .int M_base, .int M_end, .int M_number, .int M_told, .ref aM_numbers, .ref aM_used, .ref aM_way, .ref aM_found, .int M_wayRow, .int M_wayTo, .int M_ways, .int M_endsBy, .int res.2.2.2.2.1, .int M_foundWorth, .int res.2.2.2.2.2, .ref aM_isOne, .ref aM_isTwo, .int M_z, .int M_aside, .int M_byRow, .int M_byAt, .int M_one, .int M_two, .int M_slatesBy])), (aM_s, .inl (cI, 99, .inl res.2.1)), (aM_way, .inl (cI, 16, .inl res.2.2.1)), (aM_found, .inl (cI, 16, .inl res.2.2.2.1))]) (va_A [(aM, .inr (7, [.ref aM_s, .ref aM_image, .ref aM_read, .ref aM_saved, .ref aM_kept, .ref aM_sort, .ref aM_size, .ref aM_element, .ref aM_keptKind, .ref aM_keptFigure, .int M_hasImage, .int M_thrown, .int M_pos, .int M_base, .int M_end, .int M_number, .int M_told, .ref aM_numbers, .ref aM_used, .ref aM_way, .ref aM_found, .int M_wayRow, .int M_wayTo, .int M_ways, .int M_endsBy, .int M_foundSize, .int M_foundWorth, .int M_foundCut, .ref aM_isOne, .ref aM_isTwo, .int M_z, .int M_aside, .int M_byRow, .int M_byAt, .int M_one, .int M_two, .int M_slatesBy])), (aM_s, .inl (cI, 99, .inl M_s)), (aM_way, .inl (cI, 16, .inl M_way)), (aM_found, .inl (cI, 16, .inl M_found))] sz)) 0 0 (va_A [(aM, .inr (7, [.ref aM_s, .ref aM_image, .ref aM_read, .ref aM_saved, .ref aM_kept, .ref aM_sort, .ref aM_size, .ref aM_element, .ref aM_keptKind, .ref aM_keptFigure, .int M_hasImage, .int M_thrown, .int M_pos, .int M_base, .int M_end, .int M_number, .int M_told, .ref aM_numbers, .ref aM_used, .ref aM_way, .ref aM_found, .int M_wayRow, .int M_wayTo, .int M_ways, .int M_endsBy, .int M_foundSize, .int M_foundWorth, .int M_foundCut, .ref aM_isOne, .ref aM_isTwo, .int M_z, .int M_aside, .int M_byRow, .int M_byAt, .int M_one, .int M_two, .int M_slatesBy])), (aM_s, .inl (cI, 99, .inl M_s)), (aM_way, .inl (cI, 16, .inl M_way)), (aM_found, .inl (cI, 16, .inl M_found))] sz) := by
  refine Met.ofW (cc := cX8_cuts) (maxL := 4) (ret := (some .int)) (by decide) rfl ?_
  intro p e s m args below meth c s₁ B hml hv
  obtain ⟨rfl, hsz, hP, hK, hD0⟩ := hv
  have hx := B.exec
  have hb := B.bytes
  have hr := B.returns
  have hts := atoms_spec (ws := wsX8_cuts) B.pre
  have hown : s.vm.findClass RX8 = some m.cls := findClass_of_methodNamed B.named
  have hlocks := B.notSynchronized
  subst hsz
  have hD := hD0.self (sz := s.heap.size)
  generalize hAe : va_A [(aM, .inr (7, [.ref aM_s, .ref aM_image, .ref aM_read, .ref aM_saved, .ref aM_kept, .ref aM_sort, .ref aM_size, .ref aM_element, .ref aM_keptKind, .ref aM_keptFigure, .int M_hasImage, .int M_thrown, .int M_pos, .int M_base, .int M_end, .int M_number, .int M_told, .ref aM_numbers, .ref aM_used, .ref aM_way, .ref aM_found, .int M_wayRow, .int M_wayTo, .int M_ways, .int M_endsBy, .int M_foundSize, .int M_foundWorth, .int M_foundCut, .ref aM_isOne, .ref aM_isTwo, .int M_z, .int M_aside, .int M_byRow, .int M_byAt, .int M_one, .int M_two, .int M_slatesBy])), (aM_s, .inl (cI, 99, .inl M_s)), (aM_way, .inl (cI, 16, .inl M_way)), (aM_found, .inl (cI, 16, .inl M_found))] s.heap.size = A at hD ⊢
  have hA : ∀ q : Nat, s.heap.size ≤ q → A q := fun q h => by rw [← hAe]; exact Or.inr h
  have hS : va_S A s.heap s.heap [] := va_S.rf
  have hl := lv_entry ([.ref aM, .int x1, .int x2]) (n := 4) (Nat.le_of_ble_eq_true rfl)
  rw [lg_entry_eq]
  generalize (lg_sl ([.ref aM, .int x1, .int x2]) ++ List.replicate (4 - (lg_sl ([.ref aM, .int x1, .int x2])).length) Slot.unset).toArray = ls at hl ⊢
  have hl : lv_has ls 4 [(0, .ref aM), (1, .int x1), (2, .int x2)] := hl
  unfold f_X8_cuts at h
  refine lv_iload_n hx hb dX8_cuts_0 rfl (lv_at hl 2 rfl) ?_
  refine lv_iconst (v := (-1)) hx hb dX8_cuts_1 (by decide) ?_
  refine lv_icmp_ge (tgt := 7) hx hb dX8_cuts_2 (by decide) (fun c_1 => ?_) (fun c_1 => ?_)
  · have h := it_p c_1 h
    refine lv_aload_n hx hb dX8_cuts_7 rfl (lv_at hl 0 rfl) ?_
    refine lv_iload_n hx hb dX8_cuts_8 rfl (lv_at hl 1 rfl) ?_
    obtain ⟨r_2, hg, h⟩ := bd_some h
    refine rdV (As := [.int x1]) (rest := []) (ci := 7) ⟨hx, hb, hml, hown, hts⟩ (k_X8_wrong l dC dI cI cZ cS N aM aM_s [.ref aM_s, .ref aM_image, .ref aM_read, .ref aM_saved, .ref aM_kept, .ref aM_sort, .ref aM_size, .ref aM_element, .ref aM_keptKind, .ref aM_keptFigure, .int M_hasImage, .int M_thrown, .int M_pos, .int M_base, .int M_end, .int M_number, .int M_told, .ref aM_numbers, .ref aM_used, .ref aM_way, .ref aM_found, .int M_wayRow, .int M_wayTo, .int M_ways, .int M_endsBy, .int M_foundSize, .int M_foundWorth, .int M_foundCut, .ref aM_isOne, .ref aM_isTwo, .int M_z, .int M_aside, .int M_byRow, .int M_byAt, .int M_one, .int M_two, .int M_slatesBy] M_s x1 rfl r_2 hg) (cwV 1 hts gX8_cuts_X8_wrong rfl rfl rfl cd_X8_wrong ⟨Nat.le_of_ble_eq_true rfl, Nat.le_of_ble_eq_true rfl⟩) hP hD hK [0, 1] (by decide) rfl rfl rfl rfl hl.1 rfl (Nat.le_of_ble_eq_true rfl) dX8_cuts_9 ⟨Nat.zero_le _, Nat.zero_le _⟩ ?_
    refine lv_istore_n (lv' := [(3, .int r_2), (0, .ref aM), (1, .int x1), (2, .int x2)]) hx hb dX8_cuts_12 rfl hl (by decide) rfl (fun ls hl => ?_)
    refine lv_iload_n hx hb dX8_cuts_13 rfl (lv_at hl 0 rfl) ?_
    refine lv_if_eq (tgt := 19) hx hb dX8_cuts_14 (by decide) (fun c_3 => ?_) (fun c_3 => ?_)
    · have h := it_p c_3 h
      refine lv_aload_n hx hb dX8_cuts_19 rfl (lv_at hl 1 rfl) ?_
      refine lv_iconst (v := (-1)) hx hb dX8_cuts_20 (by decide) ?_
      refine va_put (D := (dC, dI)) (ci := 7) (v := .int (-1)) (ty := .int) (C := RX8) (T := TX8) (N := 37) hx hb hts (fun _ h => List.mem_cons_of_mem _ (List.mem_append_right _ h)) tyX8 tyX8_ok nmX8 hown hK hP hD hS 0 rfl rfl 25 (by decide) (hts (.fieldLink RX8 187 "SlateRowsModel" "foundSize" "I") (by decide +kernel)) (fun _ h9 => h9) rfl (by decide +kernel) rfl rfl (Nat.le_of_ble_eq_true rfl) dX8_cuts_21 (fun H locs hP hD hS => ?_)
      have hP : va_P (dC, dI) vwCl [(aM, .inr (7, [.ref aM_s, .ref aM_image, .ref aM_read, .ref aM_saved, .ref aM_kept, .ref aM_sort, .ref aM_size, .ref aM_element, .ref aM_keptKind, .ref aM_keptFigure, .int M_hasImage, .int M_thrown, .int M_pos, .int M_base, .int M_end, .int M_number, .int M_told, .ref aM_numbers, .ref aM_used, .ref aM_way, .ref aM_found, .int M_wayRow, .int M_wayTo, .int M_ways, .int M_endsBy, .int (-1), .int M_foundWorth, .int M_foundCut, .ref aM_isOne, .ref aM_isTwo, .int M_z, .int M_aside, .int M_byRow, .int M_byAt, .int M_one, .int M_two, .int M_slatesBy])), (aM_s, .inl (cI, 99, .inl M_s)), (aM_way, .inl (cI, 16, .inl M_way)), (aM_found, .inl (cI, 16, .inl M_found))] H := hP
      have hD : va_D A [(aM, .inr (7, [.ref aM_s, .ref aM_image, .ref aM_read, .ref aM_saved, .ref aM_kept, .ref aM_sort, .ref aM_size, .ref aM_element, .ref aM_keptKind, .ref aM_keptFigure, .int M_hasImage, .int M_thrown, .int M_pos, .int M_base, .int M_end, .int M_number, .int M_told, .ref aM_numbers, .ref aM_used, .ref aM_way, .ref aM_found, .int M_wayRow, .int M_wayTo, .int M_ways, .int M_endsBy, .int (-1), .int M_foundWorth, .int M_foundCut, .ref aM_isOne, .ref aM_isTwo, .int M_z, .int M_aside, .int M_byRow, .int M_byAt, .int M_one, .int M_two, .int M_slatesBy])), (aM_s, .inl (cI, 99, .inl M_s)), (aM_way, .inl (cI, 16, .inl M_way)), (aM_found, .inl (cI, 16, .inl M_found))] := hD
      refine lv_aload_n hx hb dX8_cuts_24 rfl (lv_at hl 1 rfl) ?_
      refine lv_iload_n hx hb dX8_cuts_25 rfl (lv_at hl 2 rfl) ?_
      refine lv_iconst (v := 0) hx hb dX8_cuts_26 (by decide) ?_
      refine lv_iconst (v := 0) hx hb dX8_cuts_27 (by decide) ?_
      obtain ⟨r_4, hg, h⟩ := bd_some h
      refine mtVv (As := [.int x1, .int 0, .int 0]) (rest := []) (ci := 7) (wr := []) (w2 := [(aM, .inr (7, [.ref aM_s, .ref aM_image, .ref aM_read, .ref aM_saved, .ref aM_kept, .ref aM_sort, .ref aM_size, .ref aM_element, .ref aM_keptKind, .ref aM_keptFigure, .int M_hasImage, .int M_thrown, .int M_pos, .int M_base, .int M_end, .int M_number, .int M_told, .ref aM_numbers, .ref aM_used, .ref aM_way, .ref aM_found, .int M_wayRow, .int M_wayTo, .int M_ways, .int M_endsBy, .int r_4.2.2.2.1, .int M_foundWorth, .int r_4.2.2.2.2, .ref aM_isOne, .ref aM_isTwo, .int M_z, .int M_aside, .int M_byRow, .int M_byAt, .int M_one, .int M_two, .int M_slatesBy])), (aM_s, .inl (cI, 99, .inl r_4.1)), (aM_way, .inl (cI, 16, .inl r_4.2.1)), (aM_found, .inl (cI, 16, .inl r_4.2.2.1))]) ⟨hx, hb, hml, hown, hts⟩ (k_X8_cutsFrom l dC dI cI cZ cS N aM aM_s aM_way aM_found aM_image aM_read aM_saved aM_kept aM_sort aM_size aM_element aM_keptKind aM_keptFigure aM_numbers aM_used aM_isOne aM_isTwo 16 _ M_s M_hasImage M_thrown M_pos M_base M_end M_number M_told M_way M_found M_wayRow M_wayTo M_ways M_endsBy (-1) M_foundWorth M_foundCut M_z M_aside M_byRow M_byAt M_one M_two M_slatesBy x1 0 0 r_4 hg) (cwV 3 hts gX8_cuts_X8_cutsFrom rfl rfl rfl cd_X8_cutsFrom ⟨Nat.le_of_ble_eq_true rfl, Nat.le_of_ble_eq_true rfl⟩) hP hD hK hS hA [0, 1, 2, 3] [] [0, 1, 2, 3] (by decide) (by decide) (by decide) (by decide) rfl rfl rfl rfl rfl rfl hl.1 rfl (Nat.le_of_ble_eq_true rfl) dX8_cuts_28 ⟨Nat.zero_le _, Nat.zero_le _⟩ (fun H locs hP hD hS => ?_)
      refine lv_aload_n hx hb dX8_cuts_31 rfl (lv_at hl 1 rfl) ?_
      refine va_get (D := (dC, dI)) (ci := 7) (v := .int r_4.2.2.2.1) (C := RX8) (T := TX8) (N := 37) hx hb hts (fun _ h => List.mem_cons_of_mem _ (List.mem_append_right _ h)) hown hK hP 0 rfl rfl 25 (by decide) (hts (.fieldLink RX8 187 "SlateRowsModel" "foundSize" "I") (by decide +kernel)) (fun _ h9 => h9) rfl dX8_cuts_32 ?_
      refine lv_if_ge (tgt := 43) hx hb dX8_cuts_35 (by decide) (fun c_5 => ?_) (fun c_5 => ?_)
      · have h := it_p c_5 h
        refine lv_iload_n hx hb dX8_cuts_43 rfl (lv_at hl 3 rfl) ?_
        refine lv_if_ge (tgt := 54) hx hb dX8_cuts_44 (by decide) (fun c_6 => ?_) (fun c_6 => ?_)
        · have h := it_p c_6 h
          refine lv_aload_n hx hb dX8_cuts_54 rfl (lv_at hl 1 rfl) ?_
          refine lv_iload_n hx hb dX8_cuts_55 rfl (lv_at hl 3 rfl) ?_
          obtain ⟨r_7, hg, h⟩ := bd_some h
          refine rdV (As := [.int x2]) (rest := []) (ci := 7) ⟨hx, hb, hml, hown, hts⟩ (k_X8_foundAt l dC dI cI cZ cS N aM aM_found [.ref aM_s, .ref aM_image, .ref aM_read, .ref aM_saved, .ref aM_kept, .ref aM_sort, .ref aM_size, .ref aM_element, .ref aM_keptKind, .ref aM_keptFigure, .int M_hasImage, .int M_thrown, .int M_pos, .int M_base, .int M_end, .int M_number, .int M_told, .ref aM_numbers, .ref aM_used, .ref aM_way, .ref aM_found, .int M_wayRow, .int M_wayTo, .int M_ways, .int M_endsBy, .int r_4.2.2.2.1, .int M_foundWorth, .int r_4.2.2.2.2, .ref aM_isOne, .ref aM_isTwo, .int M_z, .int M_aside, .int M_byRow, .int M_byAt, .int M_one, .int M_two, .int M_slatesBy] r_4.2.2.1 r_4.2.2.2.1 x2 rfl rfl r_7 hg) (cwV 1 hts gX8_cuts_X8_foundAt rfl rfl rfl cd_X8_foundAt ⟨Nat.le_of_ble_eq_true rfl, Nat.le_of_ble_eq_true rfl⟩) hP hD hK [0, 3] (by decide) rfl rfl rfl rfl hl.1 rfl (Nat.le_of_ble_eq_true rfl) dX8_cuts_56 ⟨Nat.zero_le _, Nat.zero_le _⟩ ?_
          have h := Option.some.inj h
          subst h
          exact W.iret hx hb hr (fun t ht hW => ⟨⟨_, (), rfl, rfl, by rw [ht]; exact hP, va_K.moved hW.alike hK, hD⟩, hS.F ht⟩) hS.2.2 dX8_cuts_59
        · have h := it_n c_6 h
          refine lv_aload_n hx hb dX8_cuts_47 rfl (lv_at hl 1 rfl) ?_
          refine va_get (D := (dC, dI)) (ci := 7) (v := .int r_4.2.2.2.2) (C := RX8) (T := TX8) (N := 37) hx hb hts (fun _ h => List.mem_cons_of_mem _ (List.mem_append_right _ h)) hown hK hP 0 rfl rfl 27 (by decide) (hts (.fieldLink RX8 219 "SlateRowsModel" "foundCut" "I") (by decide +kernel)) (fun _ h9 => h9) rfl dX8_cuts_48 ?_
          refine lv_goto (tgt := 59) hx hb dX8_cuts_51 (by decide) ?_
          have h := Option.some.inj h
          subst h
          exact W.iret hx hb hr (fun t ht hW => ⟨⟨_, (), rfl, rfl, by rw [ht]; exact hP, va_K.moved hW.alike hK, hD⟩, hS.F ht⟩) hS.2.2 dX8_cuts_59
      · have h := it_n c_5 h
        refine lv_bipush (v := (-4)) hx hb dX8_cuts_38 (by decide) ?_
        refine lv_goto (tgt := 59) hx hb dX8_cuts_40 (by decide) ?_
        have h := Option.some.inj h
        subst h
        exact W.iret hx hb hr (fun t ht hW => ⟨⟨_, (), rfl, rfl, by rw [ht]; exact hP, va_K.moved hW.alike hK, hD⟩, hS.F ht⟩) hS.2.2 dX8_cuts_59
    · have h := it_n c_3 h
      refine lv_iload_n hx hb dX8_cuts_17 rfl (lv_at hl 0 rfl) ?_
      have h := Option.some.inj h
      subst h
      exact W.iret hx hb hr (fun t ht hW => ⟨⟨_, (), rfl, rfl, by rw [ht]; exact hP, va_K.moved hW.alike hK, hD⟩, hS.F ht⟩) hS.2.2 dX8_cuts_18
  · have h := it_n c_1 h
    refine lv_iconst (v := (-1)) hx hb dX8_cuts_5 (by decide) ?_
    have h := Option.some.inj h
    subst h
    exact W.iret hx hb hr (fun t ht hW => ⟨⟨_, (), rfl, rfl, by rw [ht]; exact hP, va_K.moved hW.alike hK, hD⟩, hS.F ht⟩) hS.2.2 dX8_cuts_6
def f_X8_wrongWidth (N : Nat) (M_s : Nat → Int32) (x1 : Int32) (x2 : Int32) : Option (Int32) :=
  (f_X8_isRow N M_s x1).bind fun r_1 => if (b2i r_1) = 0 then (some ((-1))) else ((f_X8_isWidth N M_s x2).bind fun r_3 => if (b2i r_3) = 0 then (some ((-1))) else ((f_X8_isLaid N M_s x1).bind fun r_5 => if (b2i r_5) = 0 then (some (0)) else (some ((-3)))))
set_option maxHeartbeats 4000000 in
set_option maxRecDepth 100000 in
theorem k_X8_wrongWidth (l : Launch) (dC : Nat → ClassId) (dI : Nat → Nat → Nat) (cI cZ cS : ClassId) (N : Nat) (aM aM_s : Nat) (fs_M : List Value) (M_s : Nat → Int32) (x1 : Int32) (x2 : Int32) (hf_M_s : fs_M[0]? = some (.ref aM_s)) (res : Int32) (h : f_X8_wrongWidth N M_s x1 x2 = some res) : Met l yX8_wrongWidth wsX8_wrongWidth ({ frames := 2, cells := 0, slots := 0, locals := 46 }) (va_Pc [.ref aM, .int x1, .int x2] (wd (dC, dI) cI cZ cS [(aM, .inr (7, fs_M)), (aM_s, .inl (cI, 99, .inl M_s))])) (vp_Si (fun r => r = res)) 0 0 (fun _ => False) := by
  refine Met.ofW (cc := cX8_wrongWidth) (maxL := 3) (ret := (some .int)) (by decide) rfl ?_
  intro p e s m args below meth c s₁ B hml hv
  obtain ⟨rfl, hP, hK, hD⟩ := hv
  have hx := B.exec
  have hb := B.bytes
  have hr := B.returns
  have hts := atoms_spec (ws := wsX8_wrongWidth) B.pre
  have hown : s.vm.findClass RX8 = some m.cls := findClass_of_methodNamed B.named
  have hlocks := B.notSynchronized
  have hl := lv_entry ([.ref aM, .int x1, .int x2]) (n := 3) (Nat.le_of_ble_eq_true rfl)
  rw [lg_entry_eq]
  generalize (lg_sl ([.ref aM, .int x1, .int x2]) ++ List.replicate (3 - (lg_sl ([.ref aM, .int x1, .int x2])).length) Slot.unset).toArray = ls at hl ⊢
  have hl : lv_has ls 3 [(0, .ref aM), (1, .int x1), (2, .int x2)] := hl
  unfold f_X8_wrongWidth at h
  refine lv_aload_n hx hb dX8_wrongWidth_0 rfl (lv_at hl 0 rfl) ?_
  refine lv_iload_n hx hb dX8_wrongWidth_1 rfl (lv_at hl 1 rfl) ?_
  obtain ⟨r_1, hg, h⟩ := bd_some h
  refine rdV (As := [.int x1]) (rest := []) (ci := 7) ⟨hx, hb, hml, hown, hts⟩ (k_X8_isRow l dC dI cI cZ cS N aM aM_s fs_M M_s x1 hf_M_s r_1 hg) (cwV 1 hts gX8_wrongWidth_X8_isRow rfl rfl rfl cd_X8_isRow ⟨Nat.le_of_ble_eq_true rfl, Nat.le_of_ble_eq_true rfl⟩) hP hD hK [0, 1] (by decide) rfl rfl rfl rfl hl.1 rfl (Nat.le_of_ble_eq_true rfl) dX8_wrongWidth_2 ⟨Nat.zero_le _, Nat.zero_le _⟩ ?_
  refine lv_if_eq (tgt := 16) hx hb dX8_wrongWidth_5 (by decide) (fun c_2 => ?_) (fun c_2 => ?_)
  · have h := it_p c_2 h
    refine lv_iconst (v := (-1)) hx hb dX8_wrongWidth_16 (by decide) ?_
    refine lv_goto (tgt := 34) hx hb dX8_wrongWidth_17 (by decide) ?_
    exact W.iret hx hb hr (fun t ht hW => ⟨_, rfl, Option.some.inj h, ht⟩) (fun q hq => by cases hq) dX8_wrongWidth_34
  · have h := it_n c_2 h
    refine lv_aload_n hx hb dX8_wrongWidth_8 rfl (lv_at hl 0 rfl) ?_
    refine lv_iload_n hx hb dX8_wrongWidth_9 rfl (lv_at hl 2 rfl) ?_
    obtain ⟨r_3, hg, h⟩ := bd_some h
    refine rdV (As := [.int x2]) (rest := []) (ci := 7) ⟨hx, hb, hml, hown, hts⟩ (k_X8_isWidth l dC dI cI cZ cS N aM aM_s fs_M M_s x2 hf_M_s r_3 hg) (cwV 1 hts gX8_wrongWidth_X8_isWidth rfl rfl rfl cd_X8_isWidth ⟨Nat.le_of_ble_eq_true rfl, Nat.le_of_ble_eq_true rfl⟩) hP hD hK [0, 1] (by decide) rfl rfl rfl rfl hl.1 rfl (Nat.le_of_ble_eq_true rfl) dX8_wrongWidth_10 ⟨Nat.zero_le _, Nat.zero_le _⟩ ?_
    refine lv_if_ne (tgt := 20) hx hb dX8_wrongWidth_13 (by decide) (fun c_4 => ?_) (fun c_4 => ?_)
    · have h := it_n c_4 h
      refine lv_aload_n hx hb dX8_wrongWidth_20 rfl (lv_at hl 0 rfl) ?_
      refine lv_iload_n hx hb dX8_wrongWidth_21 rfl (lv_at hl 1 rfl) ?_
      obtain ⟨r_5, hg, h⟩ := bd_some h
      refine rdV (As := [.int x1]) (rest := []) (ci := 7) ⟨hx, hb, hml, hown, hts⟩ (k_X8_isLaid l dC dI cI cZ cS N aM aM_s fs_M M_s x1 hf_M_s r_5 hg) (cwV 1 hts gX8_wrongWidth_X8_isLaid rfl rfl rfl cd_X8_isLaid ⟨Nat.le_of_ble_eq_true rfl, Nat.le_of_ble_eq_true rfl⟩) hP hD hK [0, 1] (by decide) rfl rfl rfl rfl hl.1 rfl (Nat.le_of_ble_eq_true rfl) dX8_wrongWidth_22 ⟨Nat.zero_le _, Nat.zero_le _⟩ ?_
      refine lv_if_eq (tgt := 33) hx hb dX8_wrongWidth_25 (by decide) (fun c_6 => ?_) (fun c_6 => ?_)
      · have h := it_p c_6 h
        refine lv_iconst (v := 0) hx hb dX8_wrongWidth_33 (by decide) ?_
        exact W.iret hx hb hr (fun t ht hW => ⟨_, rfl, Option.some.inj h, ht⟩) (fun q hq => by cases hq) dX8_wrongWidth_34
      · have h := it_n c_6 h
        refine lv_bipush (v := (-3)) hx hb dX8_wrongWidth_28 (by decide) ?_
        refine lv_goto (tgt := 34) hx hb dX8_wrongWidth_30 (by decide) ?_
        exact W.iret hx hb hr (fun t ht hW => ⟨_, rfl, Option.some.inj h, ht⟩) (fun q hq => by cases hq) dX8_wrongWidth_34
    · have h := it_p c_4 h
      refine lv_iconst (v := (-1)) hx hb dX8_wrongWidth_16 (by decide) ?_
      refine lv_goto (tgt := 34) hx hb dX8_wrongWidth_17 (by decide) ?_
      exact W.iret hx hb hr (fun t ht hW => ⟨_, rfl, Option.some.inj h, ht⟩) (fun q hq => by cases hq) dX8_wrongWidth_34
def f_X8_uses (N : Nat) (M_s : Nat → Int32) (M_way : Nat → Int32) (M_found : Nat → Int32) (M_wayRow : Int32) (M_wayTo : Int32) (M_ways : Int32) (M_endsBy : Int32) (M_foundSize : Int32) (M_foundWorth : Int32) (x1 : Int32) (x2 : Int32) : Option (Int32 × (Nat → Int32) × (Nat → Int32) × (Nat → Int32) × Int32 × Int32 × Int32 × Int32 × Int32 × Int32) :=
  (f_X8_wrongWidth N M_s x1 x2).bind fun r_1 => if r_1 = 0 then ((f_X8_many N M_s x2).bind fun r_3 => if r_3 = 0 then (some (0, M_s, M_way, M_found, M_wayRow, M_wayTo, M_ways, M_endsBy, M_foundSize, M_foundWorth)) else ((f_X8_fillsOf N M_s M_way M_found M_wayRow M_wayTo M_ways M_endsBy M_foundSize M_foundWorth x1).bind fun r_5 => (f_X8_leaves N r_5.2.1 x2 1).bind fun r_6 => (f_X8_fillsOf N r_6 r_5.2.2.1 r_5.2.2.2.1 r_5.2.2.2.2.1 r_5.2.2.2.2.2.1 r_5.2.2.2.2.2.2.1 r_5.2.2.2.2.2.2.2.1 r_5.2.2.2.2.2.2.2.2.1 r_5.2.2.2.2.2.2.2.2.2 x1).bind fun r_7 => (f_X8_leaves N r_7.2.1 x2 (-1)).bind fun r_8 => some ((r_5.1 - r_7.1), r_8, r_7.2.2.1, r_7.2.2.2.1, r_7.2.2.2.2.1, r_7.2.2.2.2.2.1, r_7.2.2.2.2.2.2.1, r_7.2.2.2.2.2.2.2.1, r_7.2.2.2.2.2.2.2.2.1, r_7.2.2.2.2.2.2.2.2.2))) else (some (r_1, M_s, M_way, M_found, M_wayRow, M_wayTo, M_ways, M_endsBy, M_foundSize, M_foundWorth))
set_option maxHeartbeats 4000000 in
set_option maxRecDepth 100000 in
theorem k_X8_uses (l : Launch) (dC : Nat → ClassId) (dI : Nat → Nat → Nat) (cI cZ cS : ClassId) (N : Nat) (aM aM_s aM_way aM_found aM_image aM_read aM_saved aM_kept aM_sort aM_size aM_element aM_keptKind aM_keptFigure aM_numbers aM_used aM_isOne aM_isTwo : Nat) (sz : Nat) (M_s : Nat → Int32) (M_hasImage : Int32) (M_thrown : Int32) (M_pos : Int32) (M_base : Int32) (M_end : Int32) (M_number : Int32) (M_told : Int32) (M_way : Nat → Int32) (M_found : Nat → Int32) (M_wayRow : Int32) (M_wayTo : Int32) (M_ways : Int32) (M_endsBy : Int32) (M_foundSize : Int32) (M_foundWorth : Int32) (M_foundCut : Int32) (M_z : Int32) (M_aside : Int32) (M_byRow : Int32) (M_byAt : Int32) (M_one : Int32) (M_two : Int32) (M_slatesBy : Int32) (x1 : Int32) (x2 : Int32) (res : Int32 × (Nat → Int32) × (Nat → Int32) × (Nat → Int32) × Int32 × Int32 × Int32 × Int32 × Int32 × Int32) (h : f_X8_uses N M_s M_way M_found M_wayRow M_wayTo M_ways M_endsBy M_foundSize M_foundWorth x1 x2 = some res) : Met l yX8_uses wsX8_uses ({ frames := 22, cells := 0, slots := 0, locals := 557 }) (va_Pc [.ref aM, .int x1, .int x2] (preW (dC, dI) cI cZ cS [(aM, .inr (7, [.ref aM_s, .ref aM_image, .ref aM_read, .ref aM_saved, .ref aM_kept, .ref aM_sort, .ref aM_size, .ref aM_element, .ref aM_keptKind, .ref aM_keptFigure, .int M_hasImage, .int M_thrown, .int M_pos, .int M_base, .int M_end, .int M_number, .int M_told, .ref aM_numbers, .ref aM_used, .ref aM_way, .ref aM_found, .int M_wayRow, .int M_wayTo, .int M_ways, .int M_endsBy, .int M_foundSize, .int M_foundWorth, .int M_foundCut, .ref aM_isOne, .ref aM_isTwo, .int M_z, .int M_aside, .int M_byRow, .int M_byAt, .int M_one, .int M_two, .int M_slatesBy])), (aM_s, .inl (cI, 99, .inl M_s)), (aM_way, .inl (cI, 16, .inl M_way)), (aM_found, .inl (cI, 16, .inl M_found))] sz)) (va_Qi (fun (r : Int32) (_ : Unit) => r = res.1) (fun _ => qW (dC, dI) cI cZ cS (va_A [(aM, .inr (7, [.ref aM_s, .ref aM_image, .ref aM_read, .ref aM_saved, .ref aM_kept, .ref aM_sort, .ref aM_size, .ref aM_element, .ref aM_keptKind, .ref aM_keptFigure, .int M_hasImage, .int M_thrown, .int M_pos, .int M_base, .int M_end, .int M_number, .int M_told, .ref aM_numbers, .ref aM_used, .ref aM_way, .ref aM_found, .int M_wayRow, .int M_wayTo, .int M_ways, .int M_endsBy, .int M_foundSize, .int M_foundWorth, .int M_foundCut, .ref aM_isOne, .ref aM_isTwo, .int M_z, .int M_aside, .int M_byRow, .int M_byAt, .int M_one, .int M_two, .int M_slatesBy])), (aM_s, .inl (cI, 99, .inl M_s)), (aM_way, .inl (cI, 16, .inl M_way)), (aM_found, .inl (cI, 16, .inl M_found))] sz) [(aM, .inr (7, [.ref aM_s, .ref aM_image, .ref aM_read, .ref aM_saved, .ref aM_kept, .ref aM_sort, .ref aM_size, .ref aM_element, .ref aM_keptKind, .ref aM_keptFigure, .int M_hasImage, .int M_thrown, .int M_pos, .int M_base, .int M_end, .int M_number, .int M_told, .ref aM_numbers, .ref aM_used, .ref aM_way, .ref aM_found, .int res.2.2.2.2.1, .int res.2.2.2.2.2.1, .int res.2.2.2.2.2.2.1, .int res.2.2.2.2.2.2.2.1, .int res.2.2.2.2.2.2.2.2.1, .int res.2.2.2.2.2.2.2.2.2, .int M_foundCut, .ref aM_isOne, .ref aM_isTwo, .int M_z, .int M_aside, .int M_byRow, .int M_byAt, .int M_one, .int M_two, .int M_slatesBy])), (aM_s, .inl (cI, 99, .inl res.2.1)), (aM_way, .inl (cI, 16, .inl res.2.2.1)), (aM_found, .inl (cI, 16, .inl res.2.2.2.1))]) (va_A [(aM, .inr (7, [.ref aM_s, .ref aM_image, .ref aM_read, .ref aM_saved, .ref aM_kept, .ref aM_sort, .ref aM_size, .ref aM_element, .ref aM_keptKind, .ref aM_keptFigure, .int M_hasImage, .int M_thrown, .int M_pos, .int M_base, .int M_end, .int M_number, .int M_told, .ref aM_numbers, .ref aM_used, .ref aM_way, .ref aM_found, .int M_wayRow, .int M_wayTo, .int M_ways, .int M_endsBy, .int M_foundSize, .int M_foundWorth, .int M_foundCut, .ref aM_isOne, .ref aM_isTwo, .int M_z, .int M_aside, .int M_byRow, .int M_byAt, .int M_one, .int M_two, .int M_slatesBy])), (aM_s, .inl (cI, 99, .inl M_s)), (aM_way, .inl (cI, 16, .inl M_way)), (aM_found, .inl (cI, 16, .inl M_found))] sz)) 0 0 (va_A [(aM, .inr (7, [.ref aM_s, .ref aM_image, .ref aM_read, .ref aM_saved, .ref aM_kept, .ref aM_sort, .ref aM_size, .ref aM_element, .ref aM_keptKind, .ref aM_keptFigure, .int M_hasImage, .int M_thrown, .int M_pos, .int M_base, .int M_end, .int M_number, .int M_told, .ref aM_numbers, .ref aM_used, .ref aM_way, .ref aM_found, .int M_wayRow, .int M_wayTo, .int M_ways, .int M_endsBy, .int M_foundSize, .int M_foundWorth, .int M_foundCut, .ref aM_isOne, .ref aM_isTwo, .int M_z, .int M_aside, .int M_byRow, .int M_byAt, .int M_one, .int M_two, .int M_slatesBy])), (aM_s, .inl (cI, 99, .inl M_s)), (aM_way, .inl (cI, 16, .inl M_way)), (aM_found, .inl (cI, 16, .inl M_found))] sz) := by
  refine Met.ofW (cc := cX8_uses) (maxL := 6) (ret := (some .int)) (by decide) rfl ?_
  intro p e s m args below meth c s₁ B hml hv
  obtain ⟨rfl, hsz, hP, hK, hD0⟩ := hv
  have hx := B.exec
  have hb := B.bytes
  have hr := B.returns
  have hts := atoms_spec (ws := wsX8_uses) B.pre
  have hown : s.vm.findClass RX8 = some m.cls := findClass_of_methodNamed B.named
  have hlocks := B.notSynchronized
  subst hsz
  have hD := hD0.self (sz := s.heap.size)
  generalize hAe : va_A [(aM, .inr (7, [.ref aM_s, .ref aM_image, .ref aM_read, .ref aM_saved, .ref aM_kept, .ref aM_sort, .ref aM_size, .ref aM_element, .ref aM_keptKind, .ref aM_keptFigure, .int M_hasImage, .int M_thrown, .int M_pos, .int M_base, .int M_end, .int M_number, .int M_told, .ref aM_numbers, .ref aM_used, .ref aM_way, .ref aM_found, .int M_wayRow, .int M_wayTo, .int M_ways, .int M_endsBy, .int M_foundSize, .int M_foundWorth, .int M_foundCut, .ref aM_isOne, .ref aM_isTwo, .int M_z, .int M_aside, .int M_byRow, .int M_byAt, .int M_one, .int M_two, .int M_slatesBy])), (aM_s, .inl (cI, 99, .inl M_s)), (aM_way, .inl (cI, 16, .inl M_way)), (aM_found, .inl (cI, 16, .inl M_found))] s.heap.size = A at hD ⊢
  have hA : ∀ q : Nat, s.heap.size ≤ q → A q := fun q h => by rw [← hAe]; exact Or.inr h
  have hS : va_S A s.heap s.heap [] := va_S.rf
  have hl := lv_entry ([.ref aM, .int x1, .int x2]) (n := 6) (Nat.le_of_ble_eq_true rfl)
  rw [lg_entry_eq]
  generalize (lg_sl ([.ref aM, .int x1, .int x2]) ++ List.replicate (6 - (lg_sl ([.ref aM, .int x1, .int x2])).length) Slot.unset).toArray = ls at hl ⊢
  have hl : lv_has ls 6 [(0, .ref aM), (1, .int x1), (2, .int x2)] := hl
  unfold f_X8_uses at h
  refine lv_aload_n hx hb dX8_uses_0 rfl (lv_at hl 0 rfl) ?_
  refine lv_iload_n hx hb dX8_uses_1 rfl (lv_at hl 1 rfl) ?_
  refine lv_iload_n hx hb dX8_uses_2 rfl (lv_at hl 2 rfl) ?_
  obtain ⟨r_1, hg, h⟩ := bd_some h
  refine rdV (As := [.int x1, .int x2]) (rest := []) (ci := 7) ⟨hx, hb, hml, hown, hts⟩ (k_X8_wrongWidth l dC dI cI cZ cS N aM aM_s [.ref aM_s, .ref aM_image, .ref aM_read, .ref aM_saved, .ref aM_kept, .ref aM_sort, .ref aM_size, .ref aM_element, .ref aM_keptKind, .ref aM_keptFigure, .int M_hasImage, .int M_thrown, .int M_pos, .int M_base, .int M_end, .int M_number, .int M_told, .ref aM_numbers, .ref aM_used, .ref aM_way, .ref aM_found, .int M_wayRow, .int M_wayTo, .int M_ways, .int M_endsBy, .int M_foundSize, .int M_foundWorth, .int M_foundCut, .ref aM_isOne, .ref aM_isTwo, .int M_z, .int M_aside, .int M_byRow, .int M_byAt, .int M_one, .int M_two, .int M_slatesBy] M_s x1 x2 rfl r_1 hg) (cwV 2 hts gX8_uses_X8_wrongWidth rfl rfl rfl cd_X8_wrongWidth ⟨Nat.le_of_ble_eq_true rfl, Nat.le_of_ble_eq_true rfl⟩) hP hD hK [0, 1] (by decide) rfl rfl rfl rfl hl.1 rfl (Nat.le_of_ble_eq_true rfl) dX8_uses_3 ⟨Nat.zero_le _, Nat.zero_le _⟩ ?_
  refine lv_istore_n (lv' := [(3, .int r_1), (0, .ref aM), (1, .int x1), (2, .int x2)]) hx hb dX8_uses_6 rfl hl (by decide) rfl (fun ls hl => ?_)
  refine lv_iload_n hx hb dX8_uses_7 rfl (lv_at hl 0 rfl) ?_
  refine lv_if_eq (tgt := 13) hx hb dX8_uses_8 (by decide) (fun c_2 => ?_) (fun c_2 => ?_)
  · have h := it_p c_2 h
    refine lv_aload_n hx hb dX8_uses_13 rfl (lv_at hl 1 rfl) ?_
    refine lv_iload_n hx hb dX8_uses_14 rfl (lv_at hl 3 rfl) ?_
    obtain ⟨r_3, hg, h⟩ := bd_some h
    refine rdV (As := [.int x2]) (rest := []) (ci := 7) ⟨hx, hb, hml, hown, hts⟩ (k_X8_many l dC dI cI cZ cS N aM aM_s [.ref aM_s, .ref aM_image, .ref aM_read, .ref aM_saved, .ref aM_kept, .ref aM_sort, .ref aM_size, .ref aM_element, .ref aM_keptKind, .ref aM_keptFigure, .int M_hasImage, .int M_thrown, .int M_pos, .int M_base, .int M_end, .int M_number, .int M_told, .ref aM_numbers, .ref aM_used, .ref aM_way, .ref aM_found, .int M_wayRow, .int M_wayTo, .int M_ways, .int M_endsBy, .int M_foundSize, .int M_foundWorth, .int M_foundCut, .ref aM_isOne, .ref aM_isTwo, .int M_z, .int M_aside, .int M_byRow, .int M_byAt, .int M_one, .int M_two, .int M_slatesBy] M_s x2 rfl r_3 hg) (cwV 1 hts gX8_uses_X8_many rfl rfl rfl cd_X8_many ⟨Nat.le_of_ble_eq_true rfl, Nat.le_of_ble_eq_true rfl⟩) hP hD hK [0, 1] (by decide) rfl rfl rfl rfl hl.1 rfl (Nat.le_of_ble_eq_true rfl) dX8_uses_15 ⟨Nat.zero_le _, Nat.zero_le _⟩ ?_
    refine lv_if_ne (tgt := 23) hx hb dX8_uses_18 (by decide) (fun c_4 => ?_) (fun c_4 => ?_)
    · have h := it_n c_4 h
      refine lv_aload_n hx hb dX8_uses_23 rfl (lv_at hl 1 rfl) ?_
      refine lv_iload_n hx hb dX8_uses_24 rfl (lv_at hl 2 rfl) ?_
      obtain ⟨r_5, hg, h⟩ := bd_some h
      refine mtVi (As := [.int x1]) (rest := []) (ci := 7) (wr := []) (w2 := [(aM, .inr (7, [.ref aM_s, .ref aM_image, .ref aM_read, .ref aM_saved, .ref aM_kept, .ref aM_sort, .ref aM_size, .ref aM_element, .ref aM_keptKind, .ref aM_keptFigure, .int M_hasImage, .int M_thrown, .int M_pos, .int M_base, .int M_end, .int M_number, .int M_told, .ref aM_numbers, .ref aM_used, .ref aM_way, .ref aM_found, .int r_5.2.2.2.2.1, .int r_5.2.2.2.2.2.1, .int r_5.2.2.2.2.2.2.1, .int r_5.2.2.2.2.2.2.2.1, .int r_5.2.2.2.2.2.2.2.2.1, .int r_5.2.2.2.2.2.2.2.2.2, .int M_foundCut, .ref aM_isOne, .ref aM_isTwo, .int M_z, .int M_aside, .int M_byRow, .int M_byAt, .int M_one, .int M_two, .int M_slatesBy])), (aM_s, .inl (cI, 99, .inl r_5.2.1)), (aM_way, .inl (cI, 16, .inl r_5.2.2.1)), (aM_found, .inl (cI, 16, .inl r_5.2.2.2.1))]) ⟨hx, hb, hml, hown, hts⟩ (k_X8_fillsOf l dC dI cI cZ cS N aM aM_s aM_way aM_found aM_image aM_read aM_saved aM_kept aM_sort aM_size aM_element aM_keptKind aM_keptFigure aM_numbers aM_used aM_isOne aM_isTwo _ M_s M_hasImage M_thrown M_pos M_base M_end M_number M_told M_way M_found M_wayRow M_wayTo M_ways M_endsBy M_foundSize M_foundWorth M_foundCut M_z M_aside M_byRow M_byAt M_one M_two M_slatesBy x1 r_5 hg) (cwV 1 hts gX8_uses_X8_fillsOf rfl rfl rfl cd_X8_fillsOf ⟨Nat.le_of_ble_eq_true rfl, Nat.le_of_ble_eq_true rfl⟩) hP hD hK hS hA [0, 1, 2, 3] [] [0, 1, 2, 3] (by decide) (by decide) (by decide) (by decide) rfl rfl rfl rfl rfl rfl hl.1 rfl (Nat.le_of_ble_eq_true rfl) dX8_uses_25 ⟨Nat.zero_le _, Nat.zero_le _⟩ (fun H locs hP hD hS => ?_)
      refine lv_istore (lv' := [(4, .int r_5.1), (3, .int r_1), (0, .ref aM), (1, .int x1), (2, .int x2)]) hx hb dX8_uses_28 hl (by decide) rfl (fun ls hl => ?_)
      refine lv_aload_n hx hb dX8_uses_30 rfl (lv_at hl 2 rfl) ?_
      refine lv_iload_n hx hb dX8_uses_31 rfl (lv_at hl 4 rfl) ?_
      refine lv_iconst (v := 1) hx hb dX8_uses_32 (by decide) ?_
      obtain ⟨r_6, hg, h⟩ := bd_some h
      refine mtVv (As := [.int x2, .int 1]) (rest := []) (ci := 7) (wr := [(aM_way, .inl (cI, 16, .inl r_5.2.2.1)), (aM_found, .inl (cI, 16, .inl r_5.2.2.2.1))]) (w2 := [(aM, .inr (7, [.ref aM_s, .ref aM_image, .ref aM_read, .ref aM_saved, .ref aM_kept, .ref aM_sort, .ref aM_size, .ref aM_element, .ref aM_keptKind, .ref aM_keptFigure, .int M_hasImage, .int M_thrown, .int M_pos, .int M_base, .int M_end, .int M_number, .int M_told, .ref aM_numbers, .ref aM_used, .ref aM_way, .ref aM_found, .int r_5.2.2.2.2.1, .int r_5.2.2.2.2.2.1, .int r_5.2.2.2.2.2.2.1, .int r_5.2.2.2.2.2.2.2.1, .int r_5.2.2.2.2.2.2.2.2.1, .int r_5.2.2.2.2.2.2.2.2.2, .int M_foundCut, .ref aM_isOne, .ref aM_isTwo, .int M_z, .int M_aside, .int M_byRow, .int M_byAt, .int M_one, .int M_two, .int M_slatesBy])), (aM_s, .inl (cI, 99, .inl r_6)), (aM_way, .inl (cI, 16, .inl r_5.2.2.1)), (aM_found, .inl (cI, 16, .inl r_5.2.2.2.1))]) ⟨hx, hb, hml, hown, hts⟩ (k_X8_leaves l dC dI cI cZ cS N aM aM_s [.ref aM_s, .ref aM_image, .ref aM_read, .ref aM_saved, .ref aM_kept, .ref aM_sort, .ref aM_size, .ref aM_element, .ref aM_keptKind, .ref aM_keptFigure, .int M_hasImage, .int M_thrown, .int M_pos, .int M_base, .int M_end, .int M_number, .int M_told, .ref aM_numbers, .ref aM_used, .ref aM_way, .ref aM_found, .int r_5.2.2.2.2.1, .int r_5.2.2.2.2.2.1, .int r_5.2.2.2.2.2.2.1, .int r_5.2.2.2.2.2.2.2.1, .int r_5.2.2.2.2.2.2.2.2.1, .int r_5.2.2.2.2.2.2.2.2.2, .int M_foundCut, .ref aM_isOne, .ref aM_isTwo, .int M_z, .int M_aside, .int M_byRow, .int M_byAt, .int M_one, .int M_two, .int M_slatesBy] _ r_5.2.1 x2 1 rfl r_6 hg) (cwV 2 hts gX8_uses_X8_leaves rfl rfl rfl cd_X8_leaves ⟨Nat.le_of_ble_eq_true rfl, Nat.le_of_ble_eq_true rfl⟩) hP hD hK hS hA [0, 1] [2, 3] [2, 3, 0, 1] (by decide) (by decide) (by decide) (by decide) rfl rfl rfl rfl rfl rfl hl.1 rfl (Nat.le_of_ble_eq_true rfl) dX8_uses_33 ⟨Nat.zero_le _, Nat.zero_le _⟩ (fun H locs hP hD hS => ?_)
      refine lv_aload_n hx hb dX8_uses_36 rfl (lv_at hl 2 rfl) ?_
      refine lv_iload_n hx hb dX8_uses_37 rfl (lv_at hl 3 rfl) ?_
      obtain ⟨r_7, hg, h⟩ := bd_some h
      refine mtVi (As := [.int x1]) (rest := []) (ci := 7) (wr := []) (w2 := [(aM, .inr (7, [.ref aM_s, .ref aM_image, .ref aM_read, .ref aM_saved, .ref aM_kept, .ref aM_sort, .ref aM_size, .ref aM_element, .ref aM_keptKind, .ref aM_keptFigure, .int M_hasImage, .int M_thrown, .int M_pos, .int M_base, .int M_end, .int M_number, .int M_told, .ref aM_numbers, .ref aM_used, .ref aM_way, .ref aM_found, .int r_7.2.2.2.2.1, .int r_7.2.2.2.2.2.1, .int r_7.2.2.2.2.2.2.1, .int r_7.2.2.2.2.2.2.2.1, .int r_7.2.2.2.2.2.2.2.2.1, .int r_7.2.2.2.2.2.2.2.2.2, .int M_foundCut, .ref aM_isOne, .ref aM_isTwo, .int M_z, .int M_aside, .int M_byRow, .int M_byAt, .int M_one, .int M_two, .int M_slatesBy])), (aM_s, .inl (cI, 99, .inl r_7.2.1)), (aM_way, .inl (cI, 16, .inl r_7.2.2.1)), (aM_found, .inl (cI, 16, .inl r_7.2.2.2.1))]) ⟨hx, hb, hml, hown, hts⟩ (k_X8_fillsOf l dC dI cI cZ cS N aM aM_s aM_way aM_found aM_image aM_read aM_saved aM_kept aM_sort aM_size aM_element aM_keptKind aM_keptFigure aM_numbers aM_used aM_isOne aM_isTwo _ r_6 M_hasImage M_thrown M_pos M_base M_end M_number M_told r_5.2.2.1 r_5.2.2.2.1 r_5.2.2.2.2.1 r_5.2.2.2.2.2.1 r_5.2.2.2.2.2.2.1 r_5.2.2.2.2.2.2.2.1 r_5.2.2.2.2.2.2.2.2.1 r_5.2.2.2.2.2.2.2.2.2 M_foundCut M_z M_aside M_byRow M_byAt M_one M_two M_slatesBy x1 r_7 hg) (cwV 1 hts gX8_uses_X8_fillsOf rfl rfl rfl cd_X8_fillsOf ⟨Nat.le_of_ble_eq_true rfl, Nat.le_of_ble_eq_true rfl⟩) hP hD hK hS hA [0, 1, 2, 3] [] [0, 1, 2, 3] (by decide) (by decide) (by decide) (by decide) rfl rfl rfl rfl rfl rfl hl.1 rfl (Nat.le_of_ble_eq_true rfl) dX8_uses_38 ⟨Nat.zero_le _, Nat.zero_le _⟩ (fun H locs hP hD hS => ?_)
      refine lv_istore (lv' := [(5, .int r_7.1), (4, .int r_5.1), (3, .int r_1), (0, .ref aM), (1, .int x1), (2, .int x2)]) hx hb dX8_uses_41 hl (by decide) rfl (fun ls hl => ?_)
      refine lv_aload_n hx hb dX8_uses_43 rfl (lv_at hl 3 rfl) ?_
      refine lv_iload_n hx hb dX8_uses_44 rfl (lv_at hl 5 rfl) ?_
      refine lv_iconst (v := (-1)) hx hb dX8_uses_45 (by decide) ?_
      obtain ⟨r_8, hg, h⟩ := bd_some h
      refine mtVv (As := [.int x2, .int (-1)]) (rest := []) (ci := 7) (wr := [(aM_way, .inl (cI, 16, .inl r_7.2.2.1)), (aM_found, .inl (cI, 16, .inl r_7.2.2.2.1))]) (w2 := [(aM, .inr (7, [.ref aM_s, .ref aM_image, .ref aM_read, .ref aM_saved, .ref aM_kept, .ref aM_sort, .ref aM_size, .ref aM_element, .ref aM_keptKind, .ref aM_keptFigure, .int M_hasImage, .int M_thrown, .int M_pos, .int M_base, .int M_end, .int M_number, .int M_told, .ref aM_numbers, .ref aM_used, .ref aM_way, .ref aM_found, .int r_7.2.2.2.2.1, .int r_7.2.2.2.2.2.1, .int r_7.2.2.2.2.2.2.1, .int r_7.2.2.2.2.2.2.2.1, .int r_7.2.2.2.2.2.2.2.2.1, .int r_7.2.2.2.2.2.2.2.2.2, .int M_foundCut, .ref aM_isOne, .ref aM_isTwo, .int M_z, .int M_aside, .int M_byRow, .int M_byAt, .int M_one, .int M_two, .int M_slatesBy])), (aM_s, .inl (cI, 99, .inl r_8)), (aM_way, .inl (cI, 16, .inl r_7.2.2.1)), (aM_found, .inl (cI, 16, .inl r_7.2.2.2.1))]) ⟨hx, hb, hml, hown, hts⟩ (k_X8_leaves l dC dI cI cZ cS N aM aM_s [.ref aM_s, .ref aM_image, .ref aM_read, .ref aM_saved, .ref aM_kept, .ref aM_sort, .ref aM_size, .ref aM_element, .ref aM_keptKind, .ref aM_keptFigure, .int M_hasImage, .int M_thrown, .int M_pos, .int M_base, .int M_end, .int M_number, .int M_told, .ref aM_numbers, .ref aM_used, .ref aM_way, .ref aM_found, .int r_7.2.2.2.2.1, .int r_7.2.2.2.2.2.1, .int r_7.2.2.2.2.2.2.1, .int r_7.2.2.2.2.2.2.2.1, .int r_7.2.2.2.2.2.2.2.2.1, .int r_7.2.2.2.2.2.2.2.2.2, .int M_foundCut, .ref aM_isOne, .ref aM_isTwo, .int M_z, .int M_aside, .int M_byRow, .int M_byAt, .int M_one, .int M_two, .int M_slatesBy] _ r_7.2.1 x2 (-1) rfl r_8 hg) (cwV 2 hts gX8_uses_X8_leaves rfl rfl rfl cd_X8_leaves ⟨Nat.le_of_ble_eq_true rfl, Nat.le_of_ble_eq_true rfl⟩) hP hD hK hS hA [0, 1] [2, 3] [2, 3, 0, 1] (by decide) (by decide) (by decide) (by decide) rfl rfl rfl rfl rfl rfl hl.1 rfl (Nat.le_of_ble_eq_true rfl) dX8_uses_46 ⟨Nat.zero_le _, Nat.zero_le _⟩ (fun H locs hP hD hS => ?_)
      refine lv_iload hx hb dX8_uses_49 (lv_at hl 1 rfl) ?_
      refine lv_iload hx hb dX8_uses_51 (lv_at hl 0 rfl) ?_
      refine lv_isub hx hb dX8_uses_53 ?_
      have h := Option.some.inj h
      subst h
      exact W.iret hx hb hr (fun t ht hW => ⟨⟨_, (), rfl, rfl, by rw [ht]; exact hP, va_K.moved hW.alike hK, hD⟩, hS.F ht⟩) hS.2.2 dX8_uses_54
    · have h := it_p c_4 h
      refine lv_iconst (v := 0) hx hb dX8_uses_21 (by decide) ?_
      have h := Option.some.inj h
      subst h
      exact W.iret hx hb hr (fun t ht hW => ⟨⟨_, (), rfl, rfl, by rw [ht]; exact hP, va_K.moved hW.alike hK, hD⟩, hS.F ht⟩) hS.2.2 dX8_uses_22
  · have h := it_n c_2 h
    refine lv_iload_n hx hb dX8_uses_11 rfl (lv_at hl 0 rfl) ?_
    have h := Option.some.inj h
    subst h
    exact W.iret hx hb hr (fun t ht hW => ⟨⟨_, (), rfl, rfl, by rw [ht]; exact hP, va_K.moved hW.alike hK, hD⟩, hS.F ht⟩) hS.2.2 dX8_uses_12
def f_X8_needs_L27 (N : Nat) (x1 : Int32) (x2 : Int32) (x4 : Int32) : Nat → Int32 → Int32 → (Nat → Int32) → (Nat → Int32) → (Nat → Int32) → Int32 → Int32 → Int32 → Int32 → Int32 → Int32 → Option (Int32 × (Nat → Int32) × (Nat → Int32) × (Nat → Int32) × Int32 × Int32 × Int32 × Int32 × Int32 × Int32)
  | 0, _, _, _, _, _, _, _, _, _, _, _ => none
  | n + 1, v5, v6, M_s, M_way, M_found, M_wayRow, M_wayTo, M_ways, M_endsBy, M_foundSize, M_foundWorth =>
    if 12 < (x4 + v6) then (ck (gi ((3 + (3 * x2)) + 1) 99) (some (v5, (upd M_s ((3 + (3 * x2)) + 1).toNatClampNeg x4), M_way, M_found, M_wayRow, M_wayTo, M_ways, M_endsBy, M_foundSize, M_foundWorth))) else (if 0 ≤ v5 then (ck (gi ((3 + (3 * x2)) + 1) 99) (some (v5, (upd M_s ((3 + (3 * x2)) + 1).toNatClampNeg x4), M_way, M_found, M_wayRow, M_wayTo, M_ways, M_endsBy, M_foundSize, M_foundWorth))) else (ck (gi ((3 + (3 * x2)) + 1) 99) ((f_X8_fillsOf N (upd M_s ((3 + (3 * x2)) + 1).toNatClampNeg (x4 + v6)) M_way M_found M_wayRow M_wayTo M_ways M_endsBy M_foundSize M_foundWorth x1).bind fun r_6 => if r_6.1 ≤ 0 then (f_X8_needs_L27 N x1 x2 x4 n (-4) (v6 + 1) r_6.2.1 r_6.2.2.1 r_6.2.2.2.1 r_6.2.2.2.2.1 r_6.2.2.2.2.2.1 r_6.2.2.2.2.2.2.1 r_6.2.2.2.2.2.2.2.1 r_6.2.2.2.2.2.2.2.2.1 r_6.2.2.2.2.2.2.2.2.2) else (f_X8_needs_L27 N x1 x2 x4 n v6 (v6 + 1) r_6.2.1 r_6.2.2.1 r_6.2.2.2.1 r_6.2.2.2.2.1 r_6.2.2.2.2.2.1 r_6.2.2.2.2.2.2.1 r_6.2.2.2.2.2.2.2.1 r_6.2.2.2.2.2.2.2.2.1 r_6.2.2.2.2.2.2.2.2.2))))
def f_X8_needs (N : Nat) (M_s : Nat → Int32) (M_way : Nat → Int32) (M_found : Nat → Int32) (M_wayRow : Int32) (M_wayTo : Int32) (M_ways : Int32) (M_endsBy : Int32) (M_foundSize : Int32) (M_foundWorth : Int32) (x1 : Int32) (x2 : Int32) : Option (Int32 × (Nat → Int32) × (Nat → Int32) × (Nat → Int32) × Int32 × Int32 × Int32 × Int32 × Int32 × Int32) :=
  (f_X8_wrongWidth N M_s x1 x2).bind fun r_1 => if r_1 = 0 then ((f_X8_many N M_s x2).bind fun r_3 => f_X8_needs_L27 N x1 x2 r_3 N (-4) 0 M_s M_way M_found M_wayRow M_wayTo M_ways M_endsBy M_foundSize M_foundWorth) else (some (r_1, M_s, M_way, M_found, M_wayRow, M_wayTo, M_ways, M_endsBy, M_foundSize, M_foundWorth))
set_option maxHeartbeats 4000000 in
set_option maxRecDepth 100000 in
theorem k_X8_needs (l : Launch) (dC : Nat → ClassId) (dI : Nat → Nat → Nat) (cI cZ cS : ClassId) (N : Nat) (aM aM_s aM_way aM_found aM_image aM_read aM_saved aM_kept aM_sort aM_size aM_element aM_keptKind aM_keptFigure aM_numbers aM_used aM_isOne aM_isTwo : Nat) (sz : Nat) (M_s : Nat → Int32) (M_hasImage : Int32) (M_thrown : Int32) (M_pos : Int32) (M_base : Int32) (M_end : Int32) (M_number : Int32) (M_told : Int32) (M_way : Nat → Int32) (M_found : Nat → Int32) (M_wayRow : Int32) (M_wayTo : Int32) (M_ways : Int32) (M_endsBy : Int32) (M_foundSize : Int32) (M_foundWorth : Int32) (M_foundCut : Int32) (M_z : Int32) (M_aside : Int32) (M_byRow : Int32) (M_byAt : Int32) (M_one : Int32) (M_two : Int32) (M_slatesBy : Int32) (x1 : Int32) (x2 : Int32) (res : Int32 × (Nat → Int32) × (Nat → Int32) × (Nat → Int32) × Int32 × Int32 × Int32 × Int32 × Int32 × Int32) (h : f_X8_needs N M_s M_way M_found M_wayRow M_wayTo M_ways M_endsBy M_foundSize M_foundWorth x1 x2 = some res) : Met l yX8_needs wsX8_needs ({ frames := 22, cells := 0, slots := 0, locals := 557 }) (va_Pc [.ref aM, .int x1, .int x2] (preW (dC, dI) cI cZ cS [(aM, .inr (7, [.ref aM_s, .ref aM_image, .ref aM_read, .ref aM_saved, .ref aM_kept, .ref aM_sort, .ref aM_size, .ref aM_element, .ref aM_keptKind, .ref aM_keptFigure, .int M_hasImage, .int M_thrown, .int M_pos, .int M_base, .int M_end, .int M_number, .int M_told, .ref aM_numbers, .ref aM_used, .ref aM_way, .ref aM_found, .int M_wayRow, .int M_wayTo, .int M_ways, .int M_endsBy, .int M_foundSize, .int M_foundWorth, .int M_foundCut, .ref aM_isOne, .ref aM_isTwo, .int M_z, .int M_aside, .int M_byRow, .int M_byAt, .int M_one, .int M_two, .int M_slatesBy])), (aM_s, .inl (cI, 99, .inl M_s)), (aM_way, .inl (cI, 16, .inl M_way)), (aM_found, .inl (cI, 16, .inl M_found))] sz)) (va_Qi (fun (r : Int32) (_ : Unit) => r = res.1) (fun _ => qW (dC, dI) cI cZ cS (va_A [(aM, .inr (7, [.ref aM_s, .ref aM_image, .ref aM_read, .ref aM_saved, .ref aM_kept, .ref aM_sort, .ref aM_size, .ref aM_element, .ref aM_keptKind, .ref aM_keptFigure, .int M_hasImage, .int M_thrown, .int M_pos, .int M_base, .int M_end, .int M_number, .int M_told, .ref aM_numbers, .ref aM_used, .ref aM_way, .ref aM_found, .int M_wayRow, .int M_wayTo, .int M_ways, .int M_endsBy, .int M_foundSize, .int M_foundWorth, .int M_foundCut, .ref aM_isOne, .ref aM_isTwo, .int M_z, .int M_aside, .int M_byRow, .int M_byAt, .int M_one, .int M_two, .int M_slatesBy])), (aM_s, .inl (cI, 99, .inl M_s)), (aM_way, .inl (cI, 16, .inl M_way)), (aM_found, .inl (cI, 16, .inl M_found))] sz) [(aM, .inr (7, [.ref aM_s, .ref aM_image, .ref aM_read, .ref aM_saved, .ref aM_kept, .ref aM_sort, .ref aM_size, .ref aM_element, .ref aM_keptKind, .ref aM_keptFigure, .int M_hasImage, .int M_thrown, .int M_pos, .int M_base, .int M_end, .int M_number, .int M_told, .ref aM_numbers, .ref aM_used, .ref aM_way, .ref aM_found, .int res.2.2.2.2.1, .int res.2.2.2.2.2.1, .int res.2.2.2.2.2.2.1, .int res.2.2.2.2.2.2.2.1, .int res.2.2.2.2.2.2.2.2.1, .int res.2.2.2.2.2.2.2.2.2, .int M_foundCut, .ref aM_isOne, .ref aM_isTwo, .int M_z, .int M_aside, .int M_byRow, .int M_byAt, .int M_one, .int M_two, .int M_slatesBy])), (aM_s, .inl (cI, 99, .inl res.2.1)), (aM_way, .inl (cI, 16, .inl res.2.2.1)), (aM_found, .inl (cI, 16, .inl res.2.2.2.1))]) (va_A [(aM, .inr (7, [.ref aM_s, .ref aM_image, .ref aM_read, .ref aM_saved, .ref aM_kept, .ref aM_sort, .ref aM_size, .ref aM_element, .ref aM_keptKind, .ref aM_keptFigure, .int M_hasImage, .int M_thrown, .int M_pos, .int M_base, .int M_end, .int M_number, .int M_told, .ref aM_numbers, .ref aM_used, .ref aM_way, .ref aM_found, .int M_wayRow, .int M_wayTo, .int M_ways, .int M_endsBy, .int M_foundSize, .int M_foundWorth, .int M_foundCut, .ref aM_isOne, .ref aM_isTwo, .int M_z, .int M_aside, .int M_byRow, .int M_byAt, .int M_one, .int M_two, .int M_slatesBy])), (aM_s, .inl (cI, 99, .inl M_s)), (aM_way, .inl (cI, 16, .inl M_way)), (aM_found, .inl (cI, 16, .inl M_found))] sz)) 0 0 (va_A [(aM, .inr (7, [.ref aM_s, .ref aM_image, .ref aM_read, .ref aM_saved, .ref aM_kept, .ref aM_sort, .ref aM_size, .ref aM_element, .ref aM_keptKind, .ref aM_keptFigure, .int M_hasImage, .int M_thrown, .int M_pos, .int M_base, .int M_end, .int M_number, .int M_told, .ref aM_numbers, .ref aM_used, .ref aM_way, .ref aM_found, .int M_wayRow, .int M_wayTo, .int M_ways, .int M_endsBy, .int M_foundSize, .int M_foundWorth, .int M_foundCut, .ref aM_isOne, .ref aM_isTwo, .int M_z, .int M_aside, .int M_byRow, .int M_byAt, .int M_one, .int M_two, .int M_slatesBy])), (aM_s, .inl (cI, 99, .inl M_s)), (aM_way, .inl (cI, 16, .inl M_way)), (aM_found, .inl (cI, 16, .inl M_found))] sz) := by
  refine Met.ofW (cc := cX8_needs) (maxL := 7) (ret := (some .int)) (by decide) rfl ?_
  intro p e s m args below meth c s₁ B hml hv
  obtain ⟨rfl, hsz, hP, hK, hD0⟩ := hv
  have hx := B.exec
  have hb := B.bytes
  have hr := B.returns
  have hts := atoms_spec (ws := wsX8_needs) B.pre
  have hown : s.vm.findClass RX8 = some m.cls := findClass_of_methodNamed B.named
  have hlocks := B.notSynchronized
  subst hsz
  have hD := hD0.self (sz := s.heap.size)
  generalize hAe : va_A [(aM, .inr (7, [.ref aM_s, .ref aM_image, .ref aM_read, .ref aM_saved, .ref aM_kept, .ref aM_sort, .ref aM_size, .ref aM_element, .ref aM_keptKind, .ref aM_keptFigure, .int M_hasImage, .int M_thrown, .int M_pos, .int M_base, .int M_end, .int M_number, .int M_told, .ref aM_numbers, .ref aM_used, .ref aM_way, .ref aM_found, .int M_wayRow, .int M_wayTo, .int M_ways, .int M_endsBy, .int M_foundSize, .int M_foundWorth, .int M_foundCut, .ref aM_isOne, .ref aM_isTwo, .int M_z, .int M_aside, .int M_byRow, .int M_byAt, .int M_one, .int M_two, .int M_slatesBy])), (aM_s, .inl (cI, 99, .inl M_s)), (aM_way, .inl (cI, 16, .inl M_way)), (aM_found, .inl (cI, 16, .inl M_found))] s.heap.size = A at hD ⊢
  have hA : ∀ q : Nat, s.heap.size ≤ q → A q := fun q h => by rw [← hAe]; exact Or.inr h
  have hS : va_S A s.heap s.heap [] := va_S.rf
  have hl := lv_entry ([.ref aM, .int x1, .int x2]) (n := 7) (Nat.le_of_ble_eq_true rfl)
  rw [lg_entry_eq]
  generalize (lg_sl ([.ref aM, .int x1, .int x2]) ++ List.replicate (7 - (lg_sl ([.ref aM, .int x1, .int x2])).length) Slot.unset).toArray = ls at hl ⊢
  have hl : lv_has ls 7 [(0, .ref aM), (1, .int x1), (2, .int x2)] := hl
  unfold f_X8_needs at h
  refine lv_aload_n hx hb dX8_needs_0 rfl (lv_at hl 0 rfl) ?_
  refine lv_iload_n hx hb dX8_needs_1 rfl (lv_at hl 1 rfl) ?_
  refine lv_iload_n hx hb dX8_needs_2 rfl (lv_at hl 2 rfl) ?_
  obtain ⟨r_1, hg, h⟩ := bd_some h
  refine rdV (As := [.int x1, .int x2]) (rest := []) (ci := 7) ⟨hx, hb, hml, hown, hts⟩ (k_X8_wrongWidth l dC dI cI cZ cS N aM aM_s [.ref aM_s, .ref aM_image, .ref aM_read, .ref aM_saved, .ref aM_kept, .ref aM_sort, .ref aM_size, .ref aM_element, .ref aM_keptKind, .ref aM_keptFigure, .int M_hasImage, .int M_thrown, .int M_pos, .int M_base, .int M_end, .int M_number, .int M_told, .ref aM_numbers, .ref aM_used, .ref aM_way, .ref aM_found, .int M_wayRow, .int M_wayTo, .int M_ways, .int M_endsBy, .int M_foundSize, .int M_foundWorth, .int M_foundCut, .ref aM_isOne, .ref aM_isTwo, .int M_z, .int M_aside, .int M_byRow, .int M_byAt, .int M_one, .int M_two, .int M_slatesBy] M_s x1 x2 rfl r_1 hg) (cwV 2 hts gX8_needs_X8_wrongWidth rfl rfl rfl cd_X8_wrongWidth ⟨Nat.le_of_ble_eq_true rfl, Nat.le_of_ble_eq_true rfl⟩) hP hD hK [0, 1] (by decide) rfl rfl rfl rfl hl.1 rfl (Nat.le_of_ble_eq_true rfl) dX8_needs_3 ⟨Nat.zero_le _, Nat.zero_le _⟩ ?_
  refine lv_istore_n (lv' := [(3, .int r_1), (0, .ref aM), (1, .int x1), (2, .int x2)]) hx hb dX8_needs_6 rfl hl (by decide) rfl (fun ls hl => ?_)
  refine lv_iload_n hx hb dX8_needs_7 rfl (lv_at hl 0 rfl) ?_
  refine lv_if_eq (tgt := 13) hx hb dX8_needs_8 (by decide) (fun c_2 => ?_) (fun c_2 => ?_)
  · have h := it_p c_2 h
    refine lv_aload_n hx hb dX8_needs_13 rfl (lv_at hl 1 rfl) ?_
    refine lv_iload_n hx hb dX8_needs_14 rfl (lv_at hl 3 rfl) ?_
    obtain ⟨r_3, hg, h⟩ := bd_some h
    refine rdV (As := [.int x2]) (rest := []) (ci := 7) ⟨hx, hb, hml, hown, hts⟩ (k_X8_many l dC dI cI cZ cS N aM aM_s [.ref aM_s, .ref aM_image, .ref aM_read, .ref aM_saved, .ref aM_kept, .ref aM_sort, .ref aM_size, .ref aM_element, .ref aM_keptKind, .ref aM_keptFigure, .int M_hasImage, .int M_thrown, .int M_pos, .int M_base, .int M_end, .int M_number, .int M_told, .ref aM_numbers, .ref aM_used, .ref aM_way, .ref aM_found, .int M_wayRow, .int M_wayTo, .int M_ways, .int M_endsBy, .int M_foundSize, .int M_foundWorth, .int M_foundCut, .ref aM_isOne, .ref aM_isTwo, .int M_z, .int M_aside, .int M_byRow, .int M_byAt, .int M_one, .int M_two, .int M_slatesBy] M_s x2 rfl r_3 hg) (cwV 1 hts gX8_needs_X8_many rfl rfl rfl cd_X8_many ⟨Nat.le_of_ble_eq_true rfl, Nat.le_of_ble_eq_true rfl⟩) hP hD hK [0, 1] (by decide) rfl rfl rfl rfl hl.1 rfl (Nat.le_of_ble_eq_true rfl) dX8_needs_15 ⟨Nat.zero_le _, Nat.zero_le _⟩ ?_
    refine lv_istore (lv' := [(4, .int r_3), (3, .int r_1), (0, .ref aM), (1, .int x1), (2, .int x2)]) hx hb dX8_needs_18 hl (by decide) rfl (fun ls hl => ?_)
    refine lv_bipush (v := (-4)) hx hb dX8_needs_20 (by decide) ?_
    refine lv_istore (lv' := [(5, .int (-4)), (4, .int r_3), (3, .int r_1), (0, .ref aM), (1, .int x1), (2, .int x2)]) hx hb dX8_needs_22 hl (by decide) rfl (fun ls hl => ?_)
    refine lv_iconst (v := 0) hx hb dX8_needs_24 (by decide) ?_
    refine lv_istore (lv' := [(6, .int 0), (5, .int (-4)), (4, .int r_3), (3, .int r_1), (0, .ref aM), (1, .int x1), (2, .int x2)]) hx hb dX8_needs_25 hl (by decide) rfl (fun ls hl => ?_)
    have L27_0 : ∀ (n_8 : Nat) (v5_9 : Int32) (v6_10 : Int32) (M_s_11 : Nat → Int32) (M_way_12 : Nat → Int32) (M_found_13 : Nat → Int32) (M_wayRow_14 : Int32) (M_wayTo_15 : Int32) (M_ways_16 : Int32) (M_endsBy_17 : Int32) (M_foundSize_18 : Int32) (M_foundWorth_19 : Int32) (ls : Array Slot) (H : Heap) (locs : List Loc), f_X8_needs_L27 N x1 x2 r_3 n_8 v5_9 v6_10 M_s_11 M_way_12 M_found_13 M_wayRow_14 M_wayTo_15 M_ways_16 M_endsBy_17 M_foundSize_18 M_foundWorth_19 = some res → lv_has ls 7 [(0, .ref aM), (1, .int x1), (2, .int x2), (4, .int r_3), (5, .int v5_9), (6, .int v6_10)] → va_P (dC, dI) vwCl [(aM, .inr (7, [.ref aM_s, .ref aM_image, .ref aM_read, .ref aM_saved, .ref aM_kept, .ref aM_sort, .ref aM_size, .ref aM_element, .ref aM_keptKind, .ref aM_keptFigure, .int M_hasImage, .int M_thrown, .int M_pos, .int M_base, .int M_end, .int M_number, .int M_told, .ref aM_numbers, .ref aM_used, .ref aM_way, .ref aM_found, .int M_wayRow_14, .int M_wayTo_15, .int M_ways_16, .int M_endsBy_17, .int M_foundSize_18, .int M_foundWorth_19, .int M_foundCut, .ref aM_isOne, .ref aM_isTwo, .int M_z, .int M_aside, .int M_byRow, .int M_byAt, .int M_one, .int M_two, .int M_slatesBy])), (aM_s, .inl (cI, 99, .inl M_s_11)), (aM_way, .inl (cI, 16, .inl M_way_12)), (aM_found, .inl (cI, 16, .inl M_found_13))] H → va_D A [(aM, .inr (7, [.ref aM_s, .ref aM_image, .ref aM_read, .ref aM_saved, .ref aM_kept, .ref aM_sort, .ref aM_size, .ref aM_element, .ref aM_keptKind, .ref aM_keptFigure, .int M_hasImage, .int M_thrown, .int M_pos, .int M_base, .int M_end, .int M_number, .int M_told, .ref aM_numbers, .ref aM_used, .ref aM_way, .ref aM_found, .int M_wayRow_14, .int M_wayTo_15, .int M_ways_16, .int M_endsBy_17, .int M_foundSize_18, .int M_foundWorth_19, .int M_foundCut, .ref aM_isOne, .ref aM_isTwo, .int M_z, .int M_aside, .int M_byRow, .int M_byAt, .int M_one, .int M_two, .int M_slatesBy])), (aM_s, .inl (cI, 99, .inl M_s_11)), (aM_way, .inl (cI, 16, .inl M_way_12)), (aM_found, .inl (cI, 16, .inl M_found_13))] → va_S A s.heap H locs → W p l e (headSpec wsX8_needs ({ frames := 22, cells := 0, slots := 0, locals := 557 })).room s m ([.ref aM, .int x1, .int x2] : List Value).toArray below meth c H locs 0 0 (MQ below (va_Qi (fun (r : Int32) (_ : Unit) => r = res.1) (fun _ => qW (dC, dI) cI cZ cS A [(aM, .inr (7, [.ref aM_s, .ref aM_image, .ref aM_read, .ref aM_saved, .ref aM_kept, .ref aM_sort, .ref aM_size, .ref aM_element, .ref aM_keptKind, .ref aM_keptFigure, .int M_hasImage, .int M_thrown, .int M_pos, .int M_base, .int M_end, .int M_number, .int M_told, .ref aM_numbers, .ref aM_used, .ref aM_way, .ref aM_found, .int res.2.2.2.2.1, .int res.2.2.2.2.2.1, .int res.2.2.2.2.2.2.1, .int res.2.2.2.2.2.2.2.1, .int res.2.2.2.2.2.2.2.2.1, .int res.2.2.2.2.2.2.2.2.2, .int M_foundCut, .ref aM_isOne, .ref aM_isTwo, .int M_z, .int M_aside, .int M_byRow, .int M_byAt, .int M_one, .int M_two, .int M_slatesBy])), (aM_s, .inl (cI, 99, .inl res.2.1)), (aM_way, .inl (cI, 16, .inl res.2.2.1)), (aM_found, .inl (cI, 16, .inl res.2.2.2.1))]) A) ([.ref aM, .int x1, .int x2] : List Value).toArray s 0 0 A) (F0 m 27 ls []) := by
      intro n_8
      induction n_8 with
      | zero =>
        intro v5_9 v6_10 M_s_11 M_way_12 M_found_13 M_wayRow_14 M_wayTo_15 M_ways_16 M_endsBy_17 M_foundSize_18 M_foundWorth_19 ls H locs h
        simp only [f_X8_needs_L27] at h
        try exact absurd h (by simp)
      | succ n_8 ihn_8 =>
        intro v5_9 v6_10 M_s_11 M_way_12 M_found_13 M_wayRow_14 M_wayTo_15 M_ways_16 M_endsBy_17 M_foundSize_18 M_foundWorth_19 ls H locs h hl hP hD hS
        rw [f_X8_needs_L27] at h
        refine lv_iload hx hb dX8_needs_27 (lv_at hl 3 rfl) ?_
        refine lv_iload hx hb dX8_needs_29 (lv_at hl 5 rfl) ?_
        refine lv_iadd hx hb dX8_needs_31 ?_
        refine lv_bipush (v := 12) hx hb dX8_needs_32 (by decide) ?_
        refine lv_icmp_gt (tgt := 82) hx hb dX8_needs_34 (by decide) (fun c_20 => ?_) (fun c_20 => ?_)
        · have h := it_p c_20 h
          refine lv_aload_n hx hb dX8_needs_82 rfl (lv_at hl 0 rfl) ?_
          refine va_get (D := (dC, dI)) (ci := 7) (v := .ref aM_s) (C := RX8) (T := TX8) (N := 37) hx hb hts (fun _ h => List.mem_cons_of_mem _ (List.mem_append_right _ h)) hown hK hP 0 rfl rfl 0 (by decide) (hts (.fieldLink RX8 9 "SlateRowsModel" "s" "[I") (by decide +kernel)) (fun _ h9 => h9) rfl dX8_needs_83 ?_
          refine lv_iconst (v := 3) hx hb dX8_needs_86 (by decide) ?_
          refine lv_iconst (v := 3) hx hb dX8_needs_87 (by decide) ?_
          refine lv_iload_n hx hb dX8_needs_88 rfl (lv_at hl 2 rfl) ?_
          refine lv_imul hx hb dX8_needs_89 ?_
          refine lv_iadd hx hb dX8_needs_90 ?_
          refine lv_iconst (v := 1) hx hb dX8_needs_91 (by decide) ?_
          refine lv_iadd hx hb dX8_needs_92 ?_
          refine lv_iload hx hb dX8_needs_93 (lv_at hl 3 rfl) ?_
          obtain ⟨hi, h⟩ := ck_some h
          refine va_iast hx hb hK hP hD hS 1 0 rfl rfl (gi_in hi) dX8_needs_95 (fun H locs hP hD hS => ?_)
          have hP : va_P (dC, dI) vwCl [(aM, .inr (7, [.ref aM_s, .ref aM_image, .ref aM_read, .ref aM_saved, .ref aM_kept, .ref aM_sort, .ref aM_size, .ref aM_element, .ref aM_keptKind, .ref aM_keptFigure, .int M_hasImage, .int M_thrown, .int M_pos, .int M_base, .int M_end, .int M_number, .int M_told, .ref aM_numbers, .ref aM_used, .ref aM_way, .ref aM_found, .int M_wayRow_14, .int M_wayTo_15, .int M_ways_16, .int M_endsBy_17, .int M_foundSize_18, .int M_foundWorth_19, .int M_foundCut, .ref aM_isOne, .ref aM_isTwo, .int M_z, .int M_aside, .int M_byRow, .int M_byAt, .int M_one, .int M_two, .int M_slatesBy])), (aM_s, .inl (cI, 99, .inl (upd M_s_11 ((3 + (3 * x2)) + 1).toNatClampNeg r_3))), (aM_way, .inl (cI, 16, .inl M_way_12)), (aM_found, .inl (cI, 16, .inl M_found_13))] H := hP
          have hD : va_D A [(aM, .inr (7, [.ref aM_s, .ref aM_image, .ref aM_read, .ref aM_saved, .ref aM_kept, .ref aM_sort, .ref aM_size, .ref aM_element, .ref aM_keptKind, .ref aM_keptFigure, .int M_hasImage, .int M_thrown, .int M_pos, .int M_base, .int M_end, .int M_number, .int M_told, .ref aM_numbers, .ref aM_used, .ref aM_way, .ref aM_found, .int M_wayRow_14, .int M_wayTo_15, .int M_ways_16, .int M_endsBy_17, .int M_foundSize_18, .int M_foundWorth_19, .int M_foundCut, .ref aM_isOne, .ref aM_isTwo, .int M_z, .int M_aside, .int M_byRow, .int M_byAt, .int M_one, .int M_two, .int M_slatesBy])), (aM_s, .inl (cI, 99, .inl (upd M_s_11 ((3 + (3 * x2)) + 1).toNatClampNeg r_3))), (aM_way, .inl (cI, 16, .inl M_way_12)), (aM_found, .inl (cI, 16, .inl M_found_13))] := hD
          refine lv_iload hx hb dX8_needs_96 (lv_at hl 4 rfl) ?_
          have h := Option.some.inj h
          subst h
          exact W.iret hx hb hr (fun t ht hW => ⟨⟨_, (), rfl, rfl, by rw [ht]; exact hP, va_K.moved hW.alike hK, hD⟩, hS.F ht⟩) hS.2.2 dX8_needs_98
        · have h := it_n c_20 h
          refine lv_iload hx hb dX8_needs_37 (lv_at hl 4 rfl) ?_
          refine lv_if_ge (tgt := 82) hx hb dX8_needs_39 (by decide) (fun c_21 => ?_) (fun c_21 => ?_)
          · have h := it_p c_21 h
            refine lv_aload_n hx hb dX8_needs_82 rfl (lv_at hl 0 rfl) ?_
            refine va_get (D := (dC, dI)) (ci := 7) (v := .ref aM_s) (C := RX8) (T := TX8) (N := 37) hx hb hts (fun _ h => List.mem_cons_of_mem _ (List.mem_append_right _ h)) hown hK hP 0 rfl rfl 0 (by decide) (hts (.fieldLink RX8 9 "SlateRowsModel" "s" "[I") (by decide +kernel)) (fun _ h9 => h9) rfl dX8_needs_83 ?_
            refine lv_iconst (v := 3) hx hb dX8_needs_86 (by decide) ?_
            refine lv_iconst (v := 3) hx hb dX8_needs_87 (by decide) ?_
            refine lv_iload_n hx hb dX8_needs_88 rfl (lv_at hl 2 rfl) ?_
            refine lv_imul hx hb dX8_needs_89 ?_
            refine lv_iadd hx hb dX8_needs_90 ?_
            refine lv_iconst (v := 1) hx hb dX8_needs_91 (by decide) ?_
            refine lv_iadd hx hb dX8_needs_92 ?_
            refine lv_iload hx hb dX8_needs_93 (lv_at hl 3 rfl) ?_
            obtain ⟨hi, h⟩ := ck_some h
            refine va_iast hx hb hK hP hD hS 1 0 rfl rfl (gi_in hi) dX8_needs_95 (fun H locs hP hD hS => ?_)
            have hP : va_P (dC, dI) vwCl [(aM, .inr (7, [.ref aM_s, .ref aM_image, .ref aM_read, .ref aM_saved, .ref aM_kept, .ref aM_sort, .ref aM_size, .ref aM_element, .ref aM_keptKind, .ref aM_keptFigure, .int M_hasImage, .int M_thrown, .int M_pos, .int M_base, .int M_end, .int M_number, .int M_told, .ref aM_numbers, .ref aM_used, .ref aM_way, .ref aM_found, .int M_wayRow_14, .int M_wayTo_15, .int M_ways_16, .int M_endsBy_17, .int M_foundSize_18, .int M_foundWorth_19, .int M_foundCut, .ref aM_isOne, .ref aM_isTwo, .int M_z, .int M_aside, .int M_byRow, .int M_byAt, .int M_one, .int M_two, .int M_slatesBy])), (aM_s, .inl (cI, 99, .inl (upd M_s_11 ((3 + (3 * x2)) + 1).toNatClampNeg r_3))), (aM_way, .inl (cI, 16, .inl M_way_12)), (aM_found, .inl (cI, 16, .inl M_found_13))] H := hP
            have hD : va_D A [(aM, .inr (7, [.ref aM_s, .ref aM_image, .ref aM_read, .ref aM_saved, .ref aM_kept, .ref aM_sort, .ref aM_size, .ref aM_element, .ref aM_keptKind, .ref aM_keptFigure, .int M_hasImage, .int M_thrown, .int M_pos, .int M_base, .int M_end, .int M_number, .int M_told, .ref aM_numbers, .ref aM_used, .ref aM_way, .ref aM_found, .int M_wayRow_14, .int M_wayTo_15, .int M_ways_16, .int M_endsBy_17, .int M_foundSize_18, .int M_foundWorth_19, .int M_foundCut, .ref aM_isOne, .ref aM_isTwo, .int M_z, .int M_aside, .int M_byRow, .int M_byAt, .int M_one, .int M_two, .int M_slatesBy])), (aM_s, .inl (cI, 99, .inl (upd M_s_11 ((3 + (3 * x2)) + 1).toNatClampNeg r_3))), (aM_way, .inl (cI, 16, .inl M_way_12)), (aM_found, .inl (cI, 16, .inl M_found_13))] := hD
            refine lv_iload hx hb dX8_needs_96 (lv_at hl 4 rfl) ?_
            have h := Option.some.inj h
            subst h
            exact W.iret hx hb hr (fun t ht hW => ⟨⟨_, (), rfl, rfl, by rw [ht]; exact hP, va_K.moved hW.alike hK, hD⟩, hS.F ht⟩) hS.2.2 dX8_needs_98
          · have h := it_n c_21 h
            refine lv_aload_n hx hb dX8_needs_42 rfl (lv_at hl 0 rfl) ?_
            refine va_get (D := (dC, dI)) (ci := 7) (v := .ref aM_s) (C := RX8) (T := TX8) (N := 37) hx hb hts (fun _ h => List.mem_cons_of_mem _ (List.mem_append_right _ h)) hown hK hP 0 rfl rfl 0 (by decide) (hts (.fieldLink RX8 9 "SlateRowsModel" "s" "[I") (by decide +kernel)) (fun _ h9 => h9) rfl dX8_needs_43 ?_
            refine lv_iconst (v := 3) hx hb dX8_needs_46 (by decide) ?_
            refine lv_iconst (v := 3) hx hb dX8_needs_47 (by decide) ?_
            refine lv_iload_n hx hb dX8_needs_48 rfl (lv_at hl 2 rfl) ?_
            refine lv_imul hx hb dX8_needs_49 ?_
            refine lv_iadd hx hb dX8_needs_50 ?_
            refine lv_iconst (v := 1) hx hb dX8_needs_51 (by decide) ?_
            refine lv_iadd hx hb dX8_needs_52 ?_
            refine lv_iload hx hb dX8_needs_53 (lv_at hl 3 rfl) ?_
            refine lv_iload hx hb dX8_needs_55 (lv_at hl 5 rfl) ?_
            refine lv_iadd hx hb dX8_needs_57 ?_
            obtain ⟨hi, h⟩ := ck_some h
            refine va_iast hx hb hK hP hD hS 1 0 rfl rfl (gi_in hi) dX8_needs_58 (fun H locs hP hD hS => ?_)
            have hP : va_P (dC, dI) vwCl [(aM, .inr (7, [.ref aM_s, .ref aM_image, .ref aM_read, .ref aM_saved, .ref aM_kept, .ref aM_sort, .ref aM_size, .ref aM_element, .ref aM_keptKind, .ref aM_keptFigure, .int M_hasImage, .int M_thrown, .int M_pos, .int M_base, .int M_end, .int M_number, .int M_told, .ref aM_numbers, .ref aM_used, .ref aM_way, .ref aM_found, .int M_wayRow_14, .int M_wayTo_15, .int M_ways_16, .int M_endsBy_17, .int M_foundSize_18, .int M_foundWorth_19, .int M_foundCut, .ref aM_isOne, .ref aM_isTwo, .int M_z, .int M_aside, .int M_byRow, .int M_byAt, .int M_one, .int M_two, .int M_slatesBy])), (aM_s, .inl (cI, 99, .inl (upd M_s_11 ((3 + (3 * x2)) + 1).toNatClampNeg (r_3 + v6_10)))), (aM_way, .inl (cI, 16, .inl M_way_12)), (aM_found, .inl (cI, 16, .inl M_found_13))] H := hP
            have hD : va_D A [(aM, .inr (7, [.ref aM_s, .ref aM_image, .ref aM_read, .ref aM_saved, .ref aM_kept, .ref aM_sort, .ref aM_size, .ref aM_element, .ref aM_keptKind, .ref aM_keptFigure, .int M_hasImage, .int M_thrown, .int M_pos, .int M_base, .int M_end, .int M_number, .int M_told, .ref aM_numbers, .ref aM_used, .ref aM_way, .ref aM_found, .int M_wayRow_14, .int M_wayTo_15, .int M_ways_16, .int M_endsBy_17, .int M_foundSize_18, .int M_foundWorth_19, .int M_foundCut, .ref aM_isOne, .ref aM_isTwo, .int M_z, .int M_aside, .int M_byRow, .int M_byAt, .int M_one, .int M_two, .int M_slatesBy])), (aM_s, .inl (cI, 99, .inl (upd M_s_11 ((3 + (3 * x2)) + 1).toNatClampNeg (r_3 + v6_10)))), (aM_way, .inl (cI, 16, .inl M_way_12)), (aM_found, .inl (cI, 16, .inl M_found_13))] := hD
            refine lv_aload_n hx hb dX8_needs_59 rfl (lv_at hl 0 rfl) ?_
            refine lv_iload_n hx hb dX8_needs_60 rfl (lv_at hl 1 rfl) ?_
            obtain ⟨r_22, hg, h⟩ := bd_some h
            refine mtVi (As := [.int x1]) (rest := []) (ci := 7) (wr := []) (w2 := [(aM, .inr (7, [.ref aM_s, .ref aM_image, .ref aM_read, .ref aM_saved, .ref aM_kept, .ref aM_sort, .ref aM_size, .ref aM_element, .ref aM_keptKind, .ref aM_keptFigure, .int M_hasImage, .int M_thrown, .int M_pos, .int M_base, .int M_end, .int M_number, .int M_told, .ref aM_numbers, .ref aM_used, .ref aM_way, .ref aM_found, .int r_22.2.2.2.2.1, .int r_22.2.2.2.2.2.1, .int r_22.2.2.2.2.2.2.1, .int r_22.2.2.2.2.2.2.2.1, .int r_22.2.2.2.2.2.2.2.2.1, .int r_22.2.2.2.2.2.2.2.2.2, .int M_foundCut, .ref aM_isOne, .ref aM_isTwo, .int M_z, .int M_aside, .int M_byRow, .int M_byAt, .int M_one, .int M_two, .int M_slatesBy])), (aM_s, .inl (cI, 99, .inl r_22.2.1)), (aM_way, .inl (cI, 16, .inl r_22.2.2.1)), (aM_found, .inl (cI, 16, .inl r_22.2.2.2.1))]) ⟨hx, hb, hml, hown, hts⟩ (k_X8_fillsOf l dC dI cI cZ cS N aM aM_s aM_way aM_found aM_image aM_read aM_saved aM_kept aM_sort aM_size aM_element aM_keptKind aM_keptFigure aM_numbers aM_used aM_isOne aM_isTwo _ (upd M_s_11 ((3 + (3 * x2)) + 1).toNatClampNeg (r_3 + v6_10)) M_hasImage M_thrown M_pos M_base M_end M_number M_told M_way_12 M_found_13 M_wayRow_14 M_wayTo_15 M_ways_16 M_endsBy_17 M_foundSize_18 M_foundWorth_19 M_foundCut M_z M_aside M_byRow M_byAt M_one M_two M_slatesBy x1 r_22 hg) (cwV 1 hts gX8_needs_X8_fillsOf rfl rfl rfl cd_X8_fillsOf ⟨Nat.le_of_ble_eq_true rfl, Nat.le_of_ble_eq_true rfl⟩) hP hD hK hS hA [0, 1, 2, 3] [] [0, 1, 2, 3] (by decide) (by decide) (by decide) (by decide) rfl rfl rfl rfl rfl rfl hl.1 rfl (Nat.le_of_ble_eq_true rfl) dX8_needs_61 ⟨Nat.zero_le _, Nat.zero_le _⟩ (fun H locs hP hD hS => ?_)
            refine lv_if_le (tgt := 72) hx hb dX8_needs_64 (by decide) (fun c_23 => ?_) (fun c_23 => ?_)
            · have h := it_p c_23 h
              refine lv_bipush (v := (-4)) hx hb dX8_needs_72 (by decide) ?_
              refine lv_istore (lv' := [(5, .int (-4)), (0, .ref aM), (1, .int x1), (2, .int x2), (4, .int r_3), (6, .int v6_10)]) hx hb dX8_needs_74 hl (by decide) rfl (fun ls hl => ?_)
              refine lv_iinc (v := (v6_10 + 1)) (lv' := [(6, .int (v6_10 + 1)), (5, .int (-4)), (0, .ref aM), (1, .int x1), (2, .int x2), (4, .int r_3)]) hx hb dX8_needs_76 hl (k := 5) rfl rfl (by decide) rfl (fun ls hl => ?_)
              refine lv_goto (tgt := 27) hx hb dX8_needs_79 (by decide) ?_
              exact ihn_8 (-4) (v6_10 + 1) r_22.2.1 r_22.2.2.1 r_22.2.2.2.1 r_22.2.2.2.2.1 r_22.2.2.2.2.2.1 r_22.2.2.2.2.2.2.1 r_22.2.2.2.2.2.2.2.1 r_22.2.2.2.2.2.2.2.2.1 r_22.2.2.2.2.2.2.2.2.2 ls _ _ h (lv_sub hl [2, 3, 4, 5, 1, 0] rfl) hP hD hS
            · have h := it_n c_23 h
              refine lv_iload hx hb dX8_needs_67 (lv_at hl 5 rfl) ?_
              refine lv_goto (tgt := 74) hx hb dX8_needs_69 (by decide) ?_
              refine lv_istore (lv' := [(5, .int v6_10), (0, .ref aM), (1, .int x1), (2, .int x2), (4, .int r_3), (6, .int v6_10)]) hx hb dX8_needs_74 hl (by decide) rfl (fun ls hl => ?_)
              refine lv_iinc (v := (v6_10 + 1)) (lv' := [(6, .int (v6_10 + 1)), (5, .int v6_10), (0, .ref aM), (1, .int x1), (2, .int x2), (4, .int r_3)]) hx hb dX8_needs_76 hl (k := 5) rfl rfl (by decide) rfl (fun ls hl => ?_)
              refine lv_goto (tgt := 27) hx hb dX8_needs_79 (by decide) ?_
              exact ihn_8 v6_10 (v6_10 + 1) r_22.2.1 r_22.2.2.1 r_22.2.2.2.1 r_22.2.2.2.2.1 r_22.2.2.2.2.2.1 r_22.2.2.2.2.2.2.1 r_22.2.2.2.2.2.2.2.1 r_22.2.2.2.2.2.2.2.2.1 r_22.2.2.2.2.2.2.2.2.2 ls _ _ h (lv_sub hl [2, 3, 4, 5, 1, 0] rfl) hP hD hS
    exact L27_0 N (-4) 0 M_s M_way M_found M_wayRow M_wayTo M_ways M_endsBy M_foundSize M_foundWorth ls _ _ h (lv_sub hl [4, 5, 6, 2, 1, 0] rfl) hP hD hS
  · have h := it_n c_2 h
    refine lv_iload_n hx hb dX8_needs_11 rfl (lv_at hl 0 rfl) ?_
    have h := Option.some.inj h
    subst h
    exact W.iret hx hb hr (fun t ht hW => ⟨⟨_, (), rfl, rfl, by rw [ht]; exact hP, va_K.moved hW.alike hK, hD⟩, hS.F ht⟩) hS.2.2 dX8_needs_12
