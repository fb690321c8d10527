theorem cd_X8_ends : yX8_ends.cls = RX8 ∧ yX8_ends.cls ≠ "java/lang/invoke/MethodHandle" ∧ yX8_ends.cls ≠ "java/lang/invoke/VarHandle" ∧ (parseMethodDescriptor yX8_ends.desc).map (fun d => d.parameters.length) = some 2 := by decide +kernel
theorem cd_X8_gaps : yX8_gaps.cls = RX8 ∧ yX8_gaps.cls ≠ "java/lang/invoke/MethodHandle" ∧ yX8_gaps.cls ≠ "java/lang/invoke/VarHandle" ∧ (parseMethodDescriptor yX8_gaps.desc).map (fun d => d.parameters.length) = some 1 := by decide +kernel
theorem cd_X8_marks : yX8_marks.cls = RX8 ∧ yX8_marks.cls ≠ "java/lang/invoke/MethodHandle" ∧ yX8_marks.cls ≠ "java/lang/invoke/VarHandle" ∧ (parseMethodDescriptor yX8_marks.desc).map (fun d => d.parameters.length) = some 4 := by decide +kernel
def f_X8_ends (N : Nat) (M_s : Nat → Int32) (M_way : Nat → Int32) (M_found : Nat → Int32) (M_wayRow : Int32) (M_wayTo : Int32) (M_ways : Int32) (M_endsBy : Int32) (M_foundSize : Int32) (M_foundWorth : Int32) (x1 : Int32) (x2 : Int32) : Option (Int32 × (Nat → Int32) × (Nat → Int32) × (Nat → Int32) × Int32 × Int32 × Int32 × Int32 × Int32 × Int32) :=
  (f_X8_wrongWidth N M_s x1 x2).bind fun r_1 => if r_1 = 0 then ((f_X8_lengthOf N M_s x1).bind fun r_3 => (f_X8_findFills N M_s M_way M_found M_wayRow M_wayTo M_ways x2 M_foundSize M_foundWorth x1 0 r_3 0).bind fun r_4 => some (r_4.1, r_4.2.1, r_4.2.2.1, r_4.2.2.2.1, r_4.2.2.2.2.1, r_4.2.2.2.2.2.1, r_4.2.2.2.2.2.2.1, x2, r_4.2.2.2.2.2.2.2.1, r_4.2.2.2.2.2.2.2.2)) else (some (r_1, M_s, M_way, M_found, M_wayRow, M_wayTo, M_ways, M_endsBy, M_foundSize, M_foundWorth))
set_option maxHeartbeats 4000000 in
set_option maxRecDepth 100000 in
theorem k_X8_ends (l : Launch) (dC : Nat → ClassId) (dI : Nat → Nat → Nat) (cI cZ cS : ClassId) (N : Nat) (aM aM_s aM_way aM_found aM_image aM_read aM_saved aM_kept aM_sort aM_size aM_element aM_keptKind aM_keptFigure aM_numbers aM_used aM_isOne aM_isTwo : Nat) (sz : Nat) (M_s : Nat → Int32) (M_hasImage : Int32) (M_thrown : Int32) (M_pos : Int32) (M_base : Int32) (M_end : Int32) (M_number : Int32) (M_told : Int32) (M_way : Nat → Int32) (M_found : Nat → Int32) (M_wayRow : Int32) (M_wayTo : Int32) (M_ways : Int32) (M_endsBy : Int32) (M_foundSize : Int32) (M_foundWorth : Int32) (M_foundCut : Int32) (M_z : Int32) (M_aside : Int32) (M_byRow : Int32) (M_byAt : Int32) (M_one : Int32) (M_two : Int32) (M_slatesBy : Int32) (x1 : Int32) (x2 : Int32) (res : Int32 × (Nat → Int32) × (Nat → Int32) × (Nat → Int32) × Int32 × Int32 × Int32 × Int32 × Int32 × Int32) (h : f_X8_ends N M_s M_way M_found M_wayRow M_wayTo M_ways M_endsBy M_foundSize M_foundWorth x1 x2 = some res) : Met l yX8_ends wsX8_ends ({ frames := 21, cells := 0, slots := 0, locals := 536 }) (va_Pc [.ref aM, .int x1, .int x2] (preW (dC, dI) cI cZ cS [(aM, .inr (7, [.ref aM_s, .ref aM_image, .ref aM_read, .ref aM_saved, .ref aM_kept, .ref aM_sort, .ref aM_size, .ref aM_element, .ref aM_keptKind, .ref aM_keptFigure, .int M_hasImage, .int M_thrown, .int M_pos, .int M_base, .int M_end, .int M_number, .int M_told, .ref aM_numbers, .ref aM_used, .ref aM_way, .ref aM_found, .int M_wayRow, .int M_wayTo, .int M_ways, .int M_endsBy, .int M_foundSize, .int M_foundWorth, .int M_foundCut, .ref aM_isOne, .ref aM_isTwo, .int M_z, .int M_aside, .int M_byRow, .int M_byAt, .int M_one, .int M_two, .int M_slatesBy])), (aM_s, .inl (cI, 99, .inl M_s)), (aM_way, .inl (cI, 16, .inl M_way)), (aM_found, .inl (cI, 16, .inl M_found))] sz)) (va_Qi (fun (r : Int32) (_ : Unit) => r = res.1) (fun _ => qW (dC, dI) cI cZ cS (va_A [(aM, .inr (7, [.ref aM_s, .ref aM_image, .ref aM_read, .ref aM_saved, .ref aM_kept, .ref aM_sort, .ref aM_size, .ref aM_element, .ref aM_keptKind, .ref aM_keptFigure, .int M_hasImage, .int M_thrown, .int M_pos, .int M_base, .int M_end, .int M_number, .int M_told, .ref aM_numbers, .ref aM_used, .ref aM_way, .ref aM_found, .int M_wayRow, .int M_wayTo, .int M_ways, .int M_endsBy, .int M_foundSize, .int M_foundWorth, .int M_foundCut, .ref aM_isOne, .ref aM_isTwo, .int M_z, .int M_aside, .int M_byRow, .int M_byAt, .int M_one, .int M_two, .int M_slatesBy])), (aM_s, .inl (cI, 99, .inl M_s)), (aM_way, .inl (cI, 16, .inl M_way)), (aM_found, .inl (cI, 16, .inl M_found))] sz) [(aM, .inr (7, [.ref aM_s, .ref aM_image, .ref aM_read, .ref aM_saved, .ref aM_kept, .ref aM_sort, .ref aM_size, .ref aM_element, .ref aM_keptKind, .ref aM_keptFigure, .int M_hasImage, .int M_thrown, .int M_pos, .int M_base, .int M_end, .int M_number, .int M_told, .ref aM_numbers, .ref aM_used, .ref aM_way, .ref aM_found, .int res.2.2.2.2.1, .int res.2.2.2.2.2.1, .int res.2.2.2.2.2.2.1, .int res.2.2.2.2.2.2.2.1, .int res.2.2.2.2.2.2.2.2.1, .int res.2.2.2.2.2.2.2.2.2, .int M_foundCut, .ref aM_isOne, .ref aM_isTwo, .int M_z, .int M_aside, .int M_byRow, .int M_byAt, .int M_one, .int M_two, .int M_slatesBy])), (aM_s, .inl (cI, 99, .inl res.2.1)), (aM_way, .inl (cI, 16, .inl res.2.2.1)), (aM_found, .inl (cI, 16, .inl res.2.2.2.1))]) (va_A [(aM, .inr (7, [.ref aM_s, .ref aM_image, .ref aM_read, .ref aM_saved, .ref aM_kept, .ref aM_sort, .ref aM_size, .ref aM_element, .ref aM_keptKind, .ref aM_keptFigure, .int M_hasImage, .int M_thrown, .int M_pos, .int M_base, .int M_end, .int M_number, .int M_told, .ref aM_numbers, .ref aM_used, .ref aM_way, .ref aM_found, .int M_wayRow, .int M_wayTo, .int M_ways, .int M_endsBy, .int M_foundSize, .int M_foundWorth, .int M_foundCut, .ref aM_isOne, .ref aM_isTwo, .int M_z, .int M_aside, .int M_byRow, .int M_byAt, .int M_one, .int M_two, .int M_slatesBy])), (aM_s, .inl (cI, 99, .inl M_s)), (aM_way, .inl (cI, 16, .inl M_way)), (aM_found, .inl (cI, 16, .inl M_found))] sz)) 0 0 (va_A [(aM, .inr (7, [.ref aM_s, .ref aM_image, .ref aM_read, .ref aM_saved, .ref aM_kept, .ref aM_sort, .ref aM_size, .ref aM_element, .ref aM_keptKind, .ref aM_keptFigure, .int M_hasImage, .int M_thrown, .int M_pos, .int M_base, .int M_end, .int M_number, .int M_told, .ref aM_numbers, .ref aM_used, .ref aM_way, .ref aM_found, .int M_wayRow, .int M_wayTo, .int M_ways, .int M_endsBy, .int M_foundSize, .int M_foundWorth, .int M_foundCut, .ref aM_isOne, .ref aM_isTwo, .int M_z, .int M_aside, .int M_byRow, .int M_byAt, .int M_one, .int M_two, .int M_slatesBy])), (aM_s, .inl (cI, 99, .inl M_s)), (aM_way, .inl (cI, 16, .inl M_way)), (aM_found, .inl (cI, 16, .inl M_found))] sz) := by
  refine Met.ofW (cc := cX8_ends) (maxL := 4) (ret := (some .int)) (by decide) rfl ?_
  intro p e s m args below meth c s₁ B hml hv
  obtain ⟨rfl, hsz, hP, hK, hD0⟩ := hv
  have hx := B.exec
  have hb := B.bytes
  have hr := B.returns
  have hts := atoms_spec (ws := wsX8_ends) B.pre
  have hown : s.vm.findClass RX8 = some m.cls := findClass_of_methodNamed B.named
  have hlocks := B.notSynchronized
  subst hsz
  have hD := hD0.self (sz := s.heap.size)
  generalize hAe : va_A [(aM, .inr (7, [.ref aM_s, .ref aM_image, .ref aM_read, .ref aM_saved, .ref aM_kept, .ref aM_sort, .ref aM_size, .ref aM_element, .ref aM_keptKind, .ref aM_keptFigure, .int M_hasImage, .int M_thrown, .int M_pos, .int M_base, .int M_end, .int M_number, .int M_told, .ref aM_numbers, .ref aM_used, .ref aM_way, .ref aM_found, .int M_wayRow, .int M_wayTo, .int M_ways, .int M_endsBy, .int M_foundSize, .int M_foundWorth, .int M_foundCut, .ref aM_isOne, .ref aM_isTwo, .int M_z, .int M_aside, .int M_byRow, .int M_byAt, .int M_one, .int M_two, .int M_slatesBy])), (aM_s, .inl (cI, 99, .inl M_s)), (aM_way, .inl (cI, 16, .inl M_way)), (aM_found, .inl (cI, 16, .inl M_found))] s.heap.size = A at hD ⊢
  have hA : ∀ q : Nat, s.heap.size ≤ q → A q := fun q h => by rw [← hAe]; exact Or.inr h
  have hS : va_S A s.heap s.heap [] := va_S.rf
  have hl := lv_entry ([.ref aM, .int x1, .int x2]) (n := 4) (Nat.le_of_ble_eq_true rfl)
  rw [lg_entry_eq]
  generalize (lg_sl ([.ref aM, .int x1, .int x2]) ++ List.replicate (4 - (lg_sl ([.ref aM, .int x1, .int x2])).length) Slot.unset).toArray = ls at hl ⊢
  have hl : lv_has ls 4 [(0, .ref aM), (1, .int x1), (2, .int x2)] := hl
  unfold f_X8_ends at h
  refine lv_aload_n hx hb dX8_ends_0 rfl (lv_at hl 0 rfl) ?_
  refine lv_iload_n hx hb dX8_ends_1 rfl (lv_at hl 1 rfl) ?_
  refine lv_iload_n hx hb dX8_ends_2 rfl (lv_at hl 2 rfl) ?_
  obtain ⟨r_1, hg, h⟩ := bd_some h
  refine rdV (As := [.int x1, .int x2]) (rest := []) (ci := 7) ⟨hx, hb, hml, hown, hts⟩ (k_X8_wrongWidth l dC dI cI cZ cS N aM aM_s [.ref aM_s, .ref aM_image, .ref aM_read, .ref aM_saved, .ref aM_kept, .ref aM_sort, .ref aM_size, .ref aM_element, .ref aM_keptKind, .ref aM_keptFigure, .int M_hasImage, .int M_thrown, .int M_pos, .int M_base, .int M_end, .int M_number, .int M_told, .ref aM_numbers, .ref aM_used, .ref aM_way, .ref aM_found, .int M_wayRow, .int M_wayTo, .int M_ways, .int M_endsBy, .int M_foundSize, .int M_foundWorth, .int M_foundCut, .ref aM_isOne, .ref aM_isTwo, .int M_z, .int M_aside, .int M_byRow, .int M_byAt, .int M_one, .int M_two, .int M_slatesBy] M_s x1 x2 rfl r_1 hg) (cwV 2 hts gX8_ends_X8_wrongWidth rfl rfl rfl cd_X8_wrongWidth ⟨Nat.le_of_ble_eq_true rfl, Nat.le_of_ble_eq_true rfl⟩) hP hD hK [0, 1] (by decide) rfl rfl rfl rfl hl.1 rfl (Nat.le_of_ble_eq_true rfl) dX8_ends_3 ⟨Nat.zero_le _, Nat.zero_le _⟩ ?_
  refine lv_istore_n (lv' := [(3, .int r_1), (0, .ref aM), (1, .int x1), (2, .int x2)]) hx hb dX8_ends_6 rfl hl (by decide) rfl (fun ls hl => ?_)
  refine lv_iload_n hx hb dX8_ends_7 rfl (lv_at hl 0 rfl) ?_
  refine lv_if_eq (tgt := 13) hx hb dX8_ends_8 (by decide) (fun c_2 => ?_) (fun c_2 => ?_)
  · have h := it_p c_2 h
    refine lv_aload_n hx hb dX8_ends_13 rfl (lv_at hl 1 rfl) ?_
    refine lv_iload_n hx hb dX8_ends_14 rfl (lv_at hl 3 rfl) ?_
    refine va_put (D := (dC, dI)) (ci := 7) (v := .int x2) (ty := .int) (C := RX8) (T := TX8) (N := 37) hx hb hts (fun _ h => List.mem_cons_of_mem _ (List.mem_append_right _ h)) tyX8 tyX8_ok nmX8 hown hK hP hD hS 0 rfl rfl 24 (by decide) (hts (.fieldLink RX8 181 "SlateRowsModel" "endsBy" "I") (by decide +kernel)) (fun _ h9 => h9) rfl (by decide +kernel) rfl rfl (Nat.le_of_ble_eq_true rfl) dX8_ends_15 (fun H locs hP hD hS => ?_)
    have hP : va_P (dC, dI) vwCl [(aM, .inr (7, [.ref aM_s, .ref aM_image, .ref aM_read, .ref aM_saved, .ref aM_kept, .ref aM_sort, .ref aM_size, .ref aM_element, .ref aM_keptKind, .ref aM_keptFigure, .int M_hasImage, .int M_thrown, .int M_pos, .int M_base, .int M_end, .int M_number, .int M_told, .ref aM_numbers, .ref aM_used, .ref aM_way, .ref aM_found, .int M_wayRow, .int M_wayTo, .int M_ways, .int x2, .int M_foundSize, .int M_foundWorth, .int M_foundCut, .ref aM_isOne, .ref aM_isTwo, .int M_z, .int M_aside, .int M_byRow, .int M_byAt, .int M_one, .int M_two, .int M_slatesBy])), (aM_s, .inl (cI, 99, .inl M_s)), (aM_way, .inl (cI, 16, .inl M_way)), (aM_found, .inl (cI, 16, .inl M_found))] H := hP
    have hD : va_D A [(aM, .inr (7, [.ref aM_s, .ref aM_image, .ref aM_read, .ref aM_saved, .ref aM_kept, .ref aM_sort, .ref aM_size, .ref aM_element, .ref aM_keptKind, .ref aM_keptFigure, .int M_hasImage, .int M_thrown, .int M_pos, .int M_base, .int M_end, .int M_number, .int M_told, .ref aM_numbers, .ref aM_used, .ref aM_way, .ref aM_found, .int M_wayRow, .int M_wayTo, .int M_ways, .int x2, .int M_foundSize, .int M_foundWorth, .int M_foundCut, .ref aM_isOne, .ref aM_isTwo, .int M_z, .int M_aside, .int M_byRow, .int M_byAt, .int M_one, .int M_two, .int M_slatesBy])), (aM_s, .inl (cI, 99, .inl M_s)), (aM_way, .inl (cI, 16, .inl M_way)), (aM_found, .inl (cI, 16, .inl M_found))] := hD
    refine lv_aload_n hx hb dX8_ends_18 rfl (lv_at hl 1 rfl) ?_
    refine lv_iload_n hx hb dX8_ends_19 rfl (lv_at hl 2 rfl) ?_
    refine lv_iconst (v := 0) hx hb dX8_ends_20 (by decide) ?_
    refine lv_aload_n hx hb dX8_ends_21 rfl (lv_at hl 1 rfl) ?_
    refine lv_iload_n hx hb dX8_ends_22 rfl (lv_at hl 2 rfl) ?_
    obtain ⟨r_3, hg, h⟩ := bd_some h
    refine rdV (As := [.int x1]) (rest := [.int 0, .int x1, .ref aM]) (ci := 7) ⟨hx, hb, hml, hown, hts⟩ (k_X8_lengthOf l dC dI cI cZ cS N aM aM_s [.ref aM_s, .ref aM_image, .ref aM_read, .ref aM_saved, .ref aM_kept, .ref aM_sort, .ref aM_size, .ref aM_element, .ref aM_keptKind, .ref aM_keptFigure, .int M_hasImage, .int M_thrown, .int M_pos, .int M_base, .int M_end, .int M_number, .int M_told, .ref aM_numbers, .ref aM_used, .ref aM_way, .ref aM_found, .int M_wayRow, .int M_wayTo, .int M_ways, .int x2, .int M_foundSize, .int M_foundWorth, .int M_foundCut, .ref aM_isOne, .ref aM_isTwo, .int M_z, .int M_aside, .int M_byRow, .int M_byAt, .int M_one, .int M_two, .int M_slatesBy] M_s x1 rfl r_3 hg) (cwV 1 hts gX8_ends_X8_lengthOf rfl rfl rfl cd_X8_lengthOf ⟨Nat.le_of_ble_eq_true rfl, Nat.le_of_ble_eq_true rfl⟩) hP hD hK [0, 1] (by decide) rfl rfl rfl rfl hl.1 rfl (Nat.le_of_ble_eq_true rfl) dX8_ends_23 ⟨Nat.zero_le _, Nat.zero_le _⟩ ?_
    refine lv_iconst (v := 0) hx hb dX8_ends_26 (by decide) ?_
    obtain ⟨r_4, hg, h⟩ := bd_some h
    refine mtVi (As := [.int x1, .int 0, .int r_3, .int 0]) (rest := []) (ci := 7) (wr := []) (w2 := [(aM, .inr (7, [.ref aM_s, .ref aM_image, .ref aM_read, .ref aM_saved, .ref aM_kept, .ref aM_sort, .ref aM_size, .ref aM_element, .ref aM_keptKind, .ref aM_keptFigure, .int M_hasImage, .int M_thrown, .int M_pos, .int M_base, .int M_end, .int M_number, .int M_told, .ref aM_numbers, .ref aM_used, .ref aM_way, .ref aM_found, .int r_4.2.2.2.2.1, .int r_4.2.2.2.2.2.1, .int r_4.2.2.2.2.2.2.1, .int x2, .int r_4.2.2.2.2.2.2.2.1, .int r_4.2.2.2.2.2.2.2.2, .int M_foundCut, .ref aM_isOne, .ref aM_isTwo, .int M_z, .int M_aside, .int M_byRow, .int M_byAt, .int M_one, .int M_two, .int M_slatesBy])), (aM_s, .inl (cI, 99, .inl r_4.2.1)), (aM_way, .inl (cI, 16, .inl r_4.2.2.1)), (aM_found, .inl (cI, 16, .inl r_4.2.2.2.1))]) ⟨hx, hb, hml, hown, hts⟩ (k_X8_findFills l dC dI cI cZ cS N aM aM_s aM_way aM_found aM_image aM_read aM_saved aM_kept aM_sort aM_size aM_element aM_keptKind aM_keptFigure aM_numbers aM_used aM_isOne aM_isTwo _ M_s M_hasImage M_thrown M_pos M_base M_end M_number M_told M_way M_found M_wayRow M_wayTo M_ways x2 M_foundSize M_foundWorth M_foundCut M_z M_aside M_byRow M_byAt M_one M_two M_slatesBy x1 0 r_3 0 r_4 hg) (cwV 4 hts gX8_ends_X8_findFills rfl rfl rfl cd_X8_findFills ⟨Nat.le_of_ble_eq_true rfl, Nat.le_of_ble_eq_true rfl⟩) hP hD hK hS hA [0, 1, 2, 3] [] [0, 1, 2, 3] (by decide) (by decide) (by decide) (by decide) rfl rfl rfl rfl rfl rfl hl.1 rfl (Nat.le_of_ble_eq_true rfl) dX8_ends_27 ⟨Nat.zero_le _, Nat.zero_le _⟩ (fun H locs hP hD hS => ?_)
    have h := Option.some.inj h
    exact W.iret hx hb hr (fun t ht hW => ⟨⟨_, (), rfl, by rw [← h], by (try rw [← h]); rw [ht]; exact hP, va_K.moved hW.alike hK, by (try rw [← h]); exact hD⟩, hS.F ht⟩) hS.2.2 dX8_ends_30
  · have h := it_n c_2 h
    refine lv_iload_n hx hb dX8_ends_11 rfl (lv_at hl 0 rfl) ?_
    have h := Option.some.inj h
    exact W.iret hx hb hr (fun t ht hW => ⟨⟨_, (), rfl, by rw [← h], by (try rw [← h]); rw [ht]; exact hP, va_K.moved hW.alike hK, by (try rw [← h]); exact hD⟩, hS.F ht⟩) hS.2.2 dX8_ends_12
def f_X8_gaps_L14 (N : Nat) (M_s : Nat → Int32) (x1 : Int32) : Nat → Int32 → Int32 → Option (Int32)
  | 0, _, _ => none
  | n + 1, v2, v3 =>
    (f_X8_lengthOf N M_s x1).bind fun r_3 => if r_3 ≤ v3 then (some (v2)) else ((f_X8_mayBe N M_s x1 v3).bind fun r_5 => if (b2i r_5) = 0 then (f_X8_gaps_L14 N M_s x1 n (v2 + 0) (v3 + 1)) else (f_X8_gaps_L14 N M_s x1 n (v2 + 1) (v3 + 1)))
def f_X8_gaps (N : Nat) (M_s : Nat → Int32) (x1 : Int32) : Option (Int32) :=
  (f_X8_isRow N M_s x1).bind fun r_1 => if (b2i r_1) = 0 then (some ((-1))) else (f_X8_gaps_L14 N M_s x1 N 0 1)
set_option maxHeartbeats 4000000 in
set_option maxRecDepth 100000 in
theorem k_X8_gaps (l : Launch) (dC : Nat → ClassId) (dI : Nat → Nat → Nat) (cI cZ cS : ClassId) (N : Nat) (aM aM_s : Nat) (fs_M : List Value) (M_s : Nat → Int32) (x1 : Int32) (hf_M_s : fs_M[0]? = some (.ref aM_s)) (res : Int32) (h : f_X8_gaps N M_s x1 = some res) : Met l yX8_gaps wsX8_gaps ({ frames := 3, cells := 0, slots := 0, locals := 70 }) (va_Pc [.ref aM, .int x1] (wd (dC, dI) cI cZ cS [(aM, .inr (7, fs_M)), (aM_s, .inl (cI, 99, .inl M_s))])) (vp_Si (fun r => r = res)) 0 0 (fun _ => False) := by
  refine Met.ofW (cc := cX8_gaps) (maxL := 4) (ret := (some .int)) (by decide) rfl ?_
  intro p e s m args below meth c s₁ B hml hv
  obtain ⟨rfl, hP, hK, hD⟩ := hv
  have hx := B.exec
  have hb := B.bytes
  have hr := B.returns
  have hts := atoms_spec (ws := wsX8_gaps) B.pre
  have hown : s.vm.findClass RX8 = some m.cls := findClass_of_methodNamed B.named
  have hlocks := B.notSynchronized
  have hl := lv_entry ([.ref aM, .int x1]) (n := 4) (Nat.le_of_ble_eq_true rfl)
  rw [lg_entry_eq]
  generalize (lg_sl ([.ref aM, .int x1]) ++ List.replicate (4 - (lg_sl ([.ref aM, .int x1])).length) Slot.unset).toArray = ls at hl ⊢
  have hl : lv_has ls 4 [(0, .ref aM), (1, .int x1)] := hl
  unfold f_X8_gaps at h
  refine lv_aload_n hx hb dX8_gaps_0 rfl (lv_at hl 0 rfl) ?_
  refine lv_iload_n hx hb dX8_gaps_1 rfl (lv_at hl 1 rfl) ?_
  obtain ⟨r_1, hg, h⟩ := bd_some h
  refine rdV (As := [.int x1]) (rest := []) (ci := 7) ⟨hx, hb, hml, hown, hts⟩ (k_X8_isRow l dC dI cI cZ cS N aM aM_s fs_M M_s x1 hf_M_s r_1 hg) (cwV 1 hts gX8_gaps_X8_isRow rfl rfl rfl cd_X8_isRow ⟨Nat.le_of_ble_eq_true rfl, Nat.le_of_ble_eq_true rfl⟩) hP hD hK [0, 1] (by decide) rfl rfl rfl rfl hl.1 rfl (Nat.le_of_ble_eq_true rfl) dX8_gaps_2 ⟨Nat.zero_le _, Nat.zero_le _⟩ ?_
  refine lv_if_ne (tgt := 10) hx hb dX8_gaps_5 (by decide) (fun c_2 => ?_) (fun c_2 => ?_)
  · have h := it_n c_2 h
    refine lv_iconst (v := 0) hx hb dX8_gaps_10 (by decide) ?_
    refine lv_istore_n (lv' := [(2, .int 0), (0, .ref aM), (1, .int x1)]) hx hb dX8_gaps_11 rfl hl (by decide) rfl (fun ls hl => ?_)
    refine lv_iconst (v := 1) hx hb dX8_gaps_12 (by decide) ?_
    refine lv_istore_n (lv' := [(3, .int 1), (2, .int 0), (0, .ref aM), (1, .int x1)]) hx hb dX8_gaps_13 rfl hl (by decide) rfl (fun ls hl => ?_)
    have L14_6 : ∀ (n_7 : Nat) (v2_8 : Int32) (v3_9 : Int32)  (ls : Array Slot), f_X8_gaps_L14 N M_s x1 n_7 v2_8 v3_9 = some res → lv_has ls 4 [(0, .ref aM), (1, .int x1), (2, .int v2_8), (3, .int v3_9)] → W p l e (headSpec wsX8_gaps ({ frames := 3, cells := 0, slots := 0, locals := 70 })).room s m ([.ref aM, .int x1] : List Value).toArray below meth c s.heap [] 0 0 (MQ below (vp_Si (fun r => r = res)) ([.ref aM, .int x1] : List Value).toArray s 0 0 (fun _ => False)) (F0 m 14 ls []) := by
      intro n_7
      induction n_7 with
      | zero =>
        intro v2_8 v3_9 ls h
        simp only [f_X8_gaps_L14] at h
        try exact absurd h (by simp)
      | succ n_7 ihn_7 =>
        intro v2_8 v3_9 ls h hl
        rw [f_X8_gaps_L14] at h
        refine lv_iload_n hx hb dX8_gaps_14 rfl (lv_at hl 3 rfl) ?_
        refine lv_aload_n hx hb dX8_gaps_15 rfl (lv_at hl 0 rfl) ?_
        refine lv_iload_n hx hb dX8_gaps_16 rfl (lv_at hl 1 rfl) ?_
        obtain ⟨r_10, hg, h⟩ := bd_some h
        refine rdV (As := [.int x1]) (rest := [.int v3_9]) (ci := 7) ⟨hx, hb, hml, hown, hts⟩ (k_X8_lengthOf l dC dI cI cZ cS N aM aM_s fs_M M_s x1 hf_M_s r_10 hg) (cwV 1 hts gX8_gaps_X8_lengthOf rfl rfl rfl cd_X8_lengthOf ⟨Nat.le_of_ble_eq_true rfl, Nat.le_of_ble_eq_true rfl⟩) hP hD hK [0, 1] (by decide) rfl rfl rfl rfl hl.1 rfl (Nat.le_of_ble_eq_true rfl) dX8_gaps_17 ⟨Nat.zero_le _, Nat.zero_le _⟩ ?_
        refine lv_icmp_ge (tgt := 46) hx hb dX8_gaps_20 (by decide) (fun c_11 => ?_) (fun c_11 => ?_)
        · have h := it_p c_11 h
          refine lv_iload_n hx hb dX8_gaps_46 rfl (lv_at hl 2 rfl) ?_
          exact W.iret hx hb hr (fun t ht hW => ⟨_, rfl, Option.some.inj h, ht⟩) (fun q hq => by cases hq) dX8_gaps_47
        · have h := it_n c_11 h
          refine lv_iload_n hx hb dX8_gaps_23 rfl (lv_at hl 2 rfl) ?_
          refine lv_aload_n hx hb dX8_gaps_24 rfl (lv_at hl 0 rfl) ?_
          refine lv_iload_n hx hb dX8_gaps_25 rfl (lv_at hl 1 rfl) ?_
          refine lv_iload_n hx hb dX8_gaps_26 rfl (lv_at hl 3 rfl) ?_
          obtain ⟨r_12, hg, h⟩ := bd_some h
          refine rdV (As := [.int x1, .int v3_9]) (rest := [.int v2_8]) (ci := 7) ⟨hx, hb, hml, hown, hts⟩ (k_X8_mayBe l dC dI cI cZ cS N aM aM_s fs_M M_s x1 v3_9 hf_M_s r_12 hg) (cwV 2 hts gX8_gaps_X8_mayBe rfl rfl rfl cd_X8_mayBe ⟨Nat.le_of_ble_eq_true rfl, Nat.le_of_ble_eq_true rfl⟩) hP hD hK [0, 1] (by decide) rfl rfl rfl rfl hl.1 rfl (Nat.le_of_ble_eq_true rfl) dX8_gaps_27 ⟨Nat.zero_le _, Nat.zero_le _⟩ ?_
          refine lv_if_eq (tgt := 37) hx hb dX8_gaps_30 (by decide) (fun c_13 => ?_) (fun c_13 => ?_)
          · have h := it_p c_13 h
            refine lv_iconst (v := 0) hx hb dX8_gaps_37 (by decide) ?_
            refine lv_iadd hx hb dX8_gaps_38 ?_
            refine lv_istore_n (lv' := [(2, .int (v2_8 + 0)), (0, .ref aM), (1, .int x1), (3, .int v3_9)]) hx hb dX8_gaps_39 rfl hl (by decide) rfl (fun ls hl => ?_)
            refine lv_iinc (v := (v3_9 + 1)) (lv' := [(3, .int (v3_9 + 1)), (2, .int (v2_8 + 0)), (0, .ref aM), (1, .int x1)]) hx hb dX8_gaps_40 hl (k := 3) rfl rfl (by decide) rfl (fun ls hl => ?_)
            refine lv_goto (tgt := 14) hx hb dX8_gaps_43 (by decide) ?_
            exact ihn_7 (v2_8 + 0) (v3_9 + 1) ls h (lv_sub hl [2, 3, 1, 0] rfl)
          · have h := it_n c_13 h
            refine lv_iconst (v := 1) hx hb dX8_gaps_33 (by decide) ?_
            refine lv_goto (tgt := 38) hx hb dX8_gaps_34 (by decide) ?_
            refine lv_iadd hx hb dX8_gaps_38 ?_
            refine lv_istore_n (lv' := [(2, .int (v2_8 + 1)), (0, .ref aM), (1, .int x1), (3, .int v3_9)]) hx hb dX8_gaps_39 rfl hl (by decide) rfl (fun ls hl => ?_)
            refine lv_iinc (v := (v3_9 + 1)) (lv' := [(3, .int (v3_9 + 1)), (2, .int (v2_8 + 1)), (0, .ref aM), (1, .int x1)]) hx hb dX8_gaps_40 hl (k := 3) rfl rfl (by decide) rfl (fun ls hl => ?_)
            refine lv_goto (tgt := 14) hx hb dX8_gaps_43 (by decide) ?_
            exact ihn_7 (v2_8 + 1) (v3_9 + 1) ls h (lv_sub hl [2, 3, 1, 0] rfl)
    exact L14_6 N 0 1 ls h (lv_sub hl [2, 3, 1, 0] rfl)
  · have h := it_p c_2 h
    refine lv_iconst (v := (-1)) hx hb dX8_gaps_8 (by decide) ?_
    exact W.iret hx hb hr (fun t ht hW => ⟨_, rfl, Option.some.inj h, ht⟩) (fun q hq => by cases hq) dX8_gaps_9
def f_X8_marks_1_L21 (N : Nat) (REC : (Nat → Int32) → (Nat → Int32) → Int32 → Int32 → Int32 → Option ((Nat → Int32) × (Nat → Int32))) (x1 : Int32) (x3 : Int32) (x4 : Int32) : Nat → Int32 → Int32 → (Nat → Int32) → (Nat → Int32) → Option ((Nat → Int32) × (Nat → Int32))
  | 0, _, _, _, _ => none
  | n + 1, v5, v6, M_s, M_isOne =>
    ck (gi 1 99) (if (M_s (1 : Int32).toNatClampNeg) ≤ v6 then (some (M_s, M_isOne)) else ((f_X8_inches N M_s v6).bind fun r_4 => (f_X8_many N M_s v6).bind fun r_5 => if r_5 ≤ 0 then (f_X8_marks_1_L21 N REC x1 x3 x4 n (v5 * 13) (v6 + 1) M_s M_isOne) else ((f_X8_lengthOf N M_s x1).bind fun r_7 => if r_7 < (x3 + r_4) then (f_X8_marks_1_L21 N REC x1 x3 x4 n (v5 * 13) (v6 + 1) M_s M_isOne) else ((f_X8_lengthOf N M_s x1).bind fun r_9 => if (x3 + r_4) = r_9 then ((f_X8_leaves N M_s v6 1).bind fun r_11 => (REC r_11 M_isOne x1 (x3 + r_4) (x4 + v5)).bind fun r_12 => (f_X8_leaves N r_12.1 v6 (-1)).bind fun r_13 => f_X8_marks_1_L21 N REC x1 x3 x4 n (v5 * 13) (v6 + 1) r_13 r_12.2) else ((f_X8_mayBe N M_s x1 (x3 + r_4)).bind fun r_14 => if (b2i r_14) = 0 then (f_X8_marks_1_L21 N REC x1 x3 x4 n (v5 * 13) (v6 + 1) M_s M_isOne) else ((f_X8_leaves N M_s v6 1).bind fun r_16 => (REC r_16 M_isOne x1 (x3 + r_4) (x4 + v5)).bind fun r_17 => (f_X8_leaves N r_17.1 v6 (-1)).bind fun r_18 => f_X8_marks_1_L21 N REC x1 x3 x4 n (v5 * 13) (v6 + 1) r_18 r_17.2))))))
def f_X8_marks_1 (N : Nat) : Nat → (Nat → Int32) → (Nat → Int32) → Int32 → Int32 → Int32 → Option ((Nat → Int32) × (Nat → Int32))
  | 0, _, _, _, _, _ => none
  | dd + 1, M_s, M_isOne, x1, x3, x4 =>
    (f_X8_lengthOf N M_s x1).bind fun r_1 => if x3 = r_1 then (ck (gi x4 28561) (some (M_s, (upd M_isOne x4.toNatClampNeg (vp_nar .boolean 1))))) else (f_X8_marks_1_L21 N (f_X8_marks_1 N dd) x1 x3 x4 N 1 0 M_s M_isOne)
set_option maxHeartbeats 4000000 in
set_option maxRecDepth 100000 in
theorem k_X8_marks_1 (l : Launch) (dC : Nat → ClassId) (dI : Nat → Nat → Nat) (cI cZ cS : ClassId) (N : Nat) (aM aM_s aM_isOne : Nat) (fs_M : List Value) (hf_M_s : fs_M[0]? = some (.ref aM_s)) (hf_M_isOne : fs_M[28]? = some (.ref aM_isOne)) : ∀ (dd : Nat) (sz : Nat) (M_s : Nat → Int32) (M_isOne : Nat → Int32) (x1 : Int32) (x3 : Int32) (x4 : Int32) (res : (Nat → Int32) × (Nat → Int32)) (h : f_X8_marks_1 N dd M_s M_isOne x1 x3 x4 = some res), Met l yX8_marks wsX8_marks ({ frames := 3 + dd, cells := 0, slots := 0, locals := 70 + 27 * dd }) (va_Pc [.ref aM, .int x1, .ref aM_isOne, .int x3, .int x4] (preW (dC, dI) cI cZ cS [(aM, .inr (7, fs_M)), (aM_s, .inl (cI, 99, .inl M_s)), (aM_isOne, .inl (cZ, 28561, .inl M_isOne))] sz)) (va_Qv (fun _ : Unit => True) (fun _ => qW (dC, dI) cI cZ cS (va_A [(aM, .inr (7, fs_M)), (aM_s, .inl (cI, 99, .inl M_s)), (aM_isOne, .inl (cZ, 28561, .inl M_isOne))] sz) [(aM, .inr (7, fs_M)), (aM_s, .inl (cI, 99, .inl res.1)), (aM_isOne, .inl (cZ, 28561, .inl res.2))]) (va_A [(aM, .inr (7, fs_M)), (aM_s, .inl (cI, 99, .inl M_s)), (aM_isOne, .inl (cZ, 28561, .inl M_isOne))] sz)) 0 0 (va_A [(aM, .inr (7, fs_M)), (aM_s, .inl (cI, 99, .inl M_s)), (aM_isOne, .inl (cZ, 28561, .inl M_isOne))] sz) := by
  intro dd
  induction dd with
  | zero =>
    intro sz M_s M_isOne x1 x3 x4 res h
    simp only [f_X8_marks_1] at h
    try exact absurd h (by simp)
  | succ dd ihd =>
  intro sz M_s M_isOne x1 x3 x4 res h
  refine Met.ofW (cc := cX8_marks) (maxL := 8) (ret := none) (by decide) rfl ?_
  intro p e s m args below meth c s₁ B hml hv
  obtain ⟨rfl, hsz, hP, hK, hD0⟩ := hv
  have hx := B.exec
  have hb := B.bytes
  have hr := B.returns
  have hts := atoms_spec (ws := wsX8_marks) B.pre
  have hown : s.vm.findClass RX8 = some m.cls := findClass_of_methodNamed B.named
  have hlocks := B.notSynchronized
  subst hsz
  have hD := hD0.self (sz := s.heap.size)
  generalize hAe : va_A [(aM, .inr (7, fs_M)), (aM_s, .inl (cI, 99, .inl M_s)), (aM_isOne, .inl (cZ, 28561, .inl M_isOne))] s.heap.size = A at hD ⊢
  have hA : ∀ q : Nat, s.heap.size ≤ q → A q := fun q h => by rw [← hAe]; exact Or.inr h
  have hS : va_S A s.heap s.heap [] := va_S.rf
  have hl := lv_entry ([.ref aM, .int x1, .ref aM_isOne, .int x3, .int x4]) (n := 8) (Nat.le_of_ble_eq_true rfl)
  rw [lg_entry_eq]
  generalize (lg_sl ([.ref aM, .int x1, .ref aM_isOne, .int x3, .int x4]) ++ List.replicate (8 - (lg_sl ([.ref aM, .int x1, .ref aM_isOne, .int x3, .int x4])).length) Slot.unset).toArray = ls at hl ⊢
  have hl : lv_has ls 8 [(0, .ref aM), (1, .int x1), (2, .ref aM_isOne), (3, .int x3), (4, .int x4)] := hl
  rw [f_X8_marks_1] at h
  refine lv_iload_n hx hb dX8_marks_0 rfl (lv_at hl 3 rfl) ?_
  refine lv_aload_n hx hb dX8_marks_1 rfl (lv_at hl 0 rfl) ?_
  refine lv_iload_n hx hb dX8_marks_2 rfl (lv_at hl 1 rfl) ?_
  obtain ⟨r_1, hg, h⟩ := bd_some h
  refine rdV (As := [.int x1]) (rest := [.int x3]) (ci := 7) ⟨hx, hb, hml, hown, hts⟩ (k_X8_lengthOf l dC dI cI cZ cS N aM aM_s fs_M M_s x1 hf_M_s r_1 hg) (cwV 1 hts gX8_marks_X8_lengthOf rfl rfl rfl cd_X8_lengthOf ⟨Nat.le_trans (m := 3) (Nat.le_of_ble_eq_true rfl) (Nat.le_add_right _ _), Nat.le_trans (m := 70) (Nat.le_of_ble_eq_true rfl) (Nat.le_add_right _ _)⟩) hP hD hK [0, 1] (by decide) rfl rfl rfl rfl hl.1 rfl (Nat.le_of_ble_eq_true rfl) dX8_marks_3 ⟨Nat.zero_le _, Nat.zero_le _⟩ ?_
  refine lv_icmp_ne (tgt := 15) hx hb dX8_marks_6 (by decide) (fun c_2 => ?_) (fun c_2 => ?_)
  · have h := it_n c_2 h
    refine lv_iconst (v := 1) hx hb dX8_marks_15 (by decide) ?_
    refine lv_istore (lv' := [(5, .int 1), (0, .ref aM), (1, .int x1), (2, .ref aM_isOne), (3, .int x3), (4, .int x4)]) hx hb dX8_marks_16 hl (by decide) rfl (fun ls hl => ?_)
    refine lv_iconst (v := 0) hx hb dX8_marks_18 (by decide) ?_
    refine lv_istore (lv' := [(6, .int 0), (5, .int 1), (0, .ref aM), (1, .int x1), (2, .ref aM_isOne), (3, .int x3), (4, .int x4)]) hx hb dX8_marks_19 hl (by decide) rfl (fun ls hl => ?_)
    have L21_18 : ∀ (n_19 : Nat) (v5_20 : Int32) (v6_21 : Int32) (M_s_22 : Nat → Int32) (M_isOne_23 : Nat → Int32) (ls : Array Slot) (H : Heap) (locs : List Loc), f_X8_marks_1_L21 N (f_X8_marks_1 N dd) x1 x3 x4 n_19 v5_20 v6_21 M_s_22 M_isOne_23 = some res → lv_has ls 8 [(0, .ref aM), (1, .int x1), (2, .ref aM_isOne), (3, .int x3), (4, .int x4), (5, .int v5_20), (6, .int v6_21)] → va_P (dC, dI) vwCl [(aM, .inr (7, fs_M)), (aM_s, .inl (cI, 99, .inl M_s_22)), (aM_isOne, .inl (cZ, 28561, .inl M_isOne_23))] H → va_D A [(aM, .inr (7, fs_M)), (aM_s, .inl (cI, 99, .inl M_s_22)), (aM_isOne, .inl (cZ, 28561, .inl M_isOne_23))] → va_S A s.heap H locs → W p l e (headSpec wsX8_marks ({ frames := 3 + (dd + 1), cells := 0, slots := 0, locals := 70 + 27 * (dd + 1) })).room s m ([.ref aM, .int x1, .ref aM_isOne, .int x3, .int x4] : List Value).toArray below meth c H locs 0 0 (MQ below (va_Qv (fun _ : Unit => True) (fun _ => qW (dC, dI) cI cZ cS A [(aM, .inr (7, fs_M)), (aM_s, .inl (cI, 99, .inl res.1)), (aM_isOne, .inl (cZ, 28561, .inl res.2))]) A) ([.ref aM, .int x1, .ref aM_isOne, .int x3, .int x4] : List Value).toArray s 0 0 A) (F0 m 21 ls []) := by
      intro n_19
      induction n_19 with
      | zero =>
        intro v5_20 v6_21 M_s_22 M_isOne_23 ls H locs h
        simp only [f_X8_marks_1_L21] at h
        try exact absurd h (by simp)
      | succ n_19 ihn_19 =>
        intro v5_20 v6_21 M_s_22 M_isOne_23 ls H locs h hl hP hD hS
        rw [f_X8_marks_1_L21] at h
        refine lv_iload hx hb dX8_marks_21 (lv_at hl 6 rfl) ?_
        refine lv_aload_n hx hb dX8_marks_23 rfl (lv_at hl 0 rfl) ?_
        refine va_get (D := (dC, dI)) (ci := 7) (v := .ref aM_s) (C := RX8) (T := TX8) (N := 37) hx hb hts (fun _ h => List.mem_cons_of_mem _ (List.mem_append_right _ h)) hown hK hP 0 rfl rfl 0 (by decide) (hts (.fieldLink RX8 9 "SlateRowsModel" "s" "[I") (by decide +kernel)) (fun _ h9 => h9) hf_M_s dX8_marks_24 ?_
        refine lv_iconst (v := 1) hx hb dX8_marks_27 (by decide) ?_
        obtain ⟨hi, h⟩ := ck_some h
        refine va_iald hx hb hK hP 1 0 rfl rfl (gi_in hi) dX8_marks_28 ?_
        refine lv_icmp_ge (tgt := 121) hx hb dX8_marks_29 (by decide) (fun c_24 => ?_) (fun c_24 => ?_)
        · have h := it_p c_24 h
          have h := Option.some.inj h
          exact W.vret hx hb hr (fun t ht hW => ⟨⟨(), rfl, trivial, by (try rw [← h]); rw [ht]; exact hP, va_K.moved hW.alike hK, by (try rw [← h]); exact hD⟩, hS.F ht⟩) hS.2.2 dX8_marks_121
        · have h := it_n c_24 h
          refine lv_iload_n hx hb dX8_marks_32 rfl (lv_at hl 3 rfl) ?_
          refine lv_aload_n hx hb dX8_marks_33 rfl (lv_at hl 0 rfl) ?_
          refine lv_iload hx hb dX8_marks_34 (lv_at hl 6 rfl) ?_
          obtain ⟨r_25, hg, h⟩ := bd_some h
          refine rdV (As := [.int v6_21]) (rest := [.int x3]) (ci := 7) ⟨hx, hb, hml, hown, hts⟩ (k_X8_inches l dC dI cI cZ cS N aM aM_s fs_M M_s_22 v6_21 hf_M_s r_25 hg) (cwV 1 hts gX8_marks_X8_inches rfl rfl rfl cd_X8_inches ⟨Nat.le_trans (m := 3) (Nat.le_of_ble_eq_true rfl) (Nat.le_add_right _ _), Nat.le_trans (m := 70) (Nat.le_of_ble_eq_true rfl) (Nat.le_add_right _ _)⟩) hP hD hK [0, 1] (by decide) rfl rfl rfl rfl hl.1 rfl (Nat.le_of_ble_eq_true rfl) dX8_marks_36 ⟨Nat.zero_le _, Nat.zero_le _⟩ ?_
          refine lv_iadd hx hb dX8_marks_39 ?_
          refine lv_istore (lv' := [(7, .int (x3 + r_25)), (0, .ref aM), (1, .int x1), (2, .ref aM_isOne), (3, .int x3), (4, .int x4), (5, .int v5_20), (6, .int v6_21)]) hx hb dX8_marks_40 hl (by decide) rfl (fun ls hl => ?_)
          refine lv_aload_n hx hb dX8_marks_42 rfl (lv_at hl 1 rfl) ?_
          refine lv_iload hx hb dX8_marks_43 (lv_at hl 7 rfl) ?_
          obtain ⟨r_26, hg, h⟩ := bd_some h
          refine rdV (As := [.int v6_21]) (rest := []) (ci := 7) ⟨hx, hb, hml, hown, hts⟩ (k_X8_many l dC dI cI cZ cS N aM aM_s fs_M M_s_22 v6_21 hf_M_s r_26 hg) (cwV 1 hts gX8_marks_X8_many rfl rfl rfl cd_X8_many ⟨Nat.le_trans (m := 3) (Nat.le_of_ble_eq_true rfl) (Nat.le_add_right _ _), Nat.le_trans (m := 70) (Nat.le_of_ble_eq_true rfl) (Nat.le_add_right _ _)⟩) hP hD hK [0, 1] (by decide) rfl rfl rfl rfl hl.1 rfl (Nat.le_of_ble_eq_true rfl) dX8_marks_45 ⟨Nat.zero_le _, Nat.zero_le _⟩ ?_
          refine lv_if_le (tgt := 108) hx hb dX8_marks_48 (by decide) (fun c_27 => ?_) (fun c_27 => ?_)
          · have h := it_p c_27 h
            refine lv_iload hx hb dX8_marks_108 (lv_at hl 6 rfl) ?_
            refine lv_bipush (v := 13) hx hb dX8_marks_110 (by decide) ?_
            refine lv_imul hx hb dX8_marks_112 ?_
            refine lv_istore (lv' := [(5, .int (v5_20 * 13)), (7, .int (x3 + r_25)), (0, .ref aM), (1, .int x1), (2, .ref aM_isOne), (3, .int x3), (4, .int x4), (6, .int v6_21)]) hx hb dX8_marks_113 hl (by decide) rfl (fun ls hl => ?_)
            refine lv_iinc (v := (v6_21 + 1)) (lv' := [(6, .int (v6_21 + 1)), (5, .int (v5_20 * 13)), (7, .int (x3 + r_25)), (0, .ref aM), (1, .int x1), (2, .ref aM_isOne), (3, .int x3), (4, .int x4)]) hx hb dX8_marks_115 hl (k := 7) rfl rfl (by decide) rfl (fun ls hl => ?_)
            refine lv_goto (tgt := 21) hx hb dX8_marks_118 (by decide) ?_
            exact ihn_19 (v5_20 * 13) (v6_21 + 1) M_s_22 M_isOne_23 ls _ _ h (lv_sub hl [3, 4, 5, 6, 7, 1, 0] rfl) hP hD hS
          · have h := it_n c_27 h
            refine lv_iload hx hb dX8_marks_51 (lv_at hl 0 rfl) ?_
            refine lv_aload_n hx hb dX8_marks_53 rfl (lv_at hl 1 rfl) ?_
            refine lv_iload_n hx hb dX8_marks_54 rfl (lv_at hl 2 rfl) ?_
            obtain ⟨r_28, hg, h⟩ := bd_some h
            refine rdV (As := [.int x1]) (rest := [.int (x3 + r_25)]) (ci := 7) ⟨hx, hb, hml, hown, hts⟩ (k_X8_lengthOf l dC dI cI cZ cS N aM aM_s fs_M M_s_22 x1 hf_M_s r_28 hg) (cwV 1 hts gX8_marks_X8_lengthOf rfl rfl rfl cd_X8_lengthOf ⟨Nat.le_trans (m := 3) (Nat.le_of_ble_eq_true rfl) (Nat.le_add_right _ _), Nat.le_trans (m := 70) (Nat.le_of_ble_eq_true rfl) (Nat.le_add_right _ _)⟩) hP hD hK [0, 1] (by decide) rfl rfl rfl rfl hl.1 rfl (Nat.le_of_ble_eq_true rfl) dX8_marks_55 ⟨Nat.zero_le _, Nat.zero_le _⟩ ?_
            refine lv_icmp_gt (tgt := 108) hx hb dX8_marks_58 (by decide) (fun c_29 => ?_) (fun c_29 => ?_)
            · have h := it_p c_29 h
              refine lv_iload hx hb dX8_marks_108 (lv_at hl 6 rfl) ?_
              refine lv_bipush (v := 13) hx hb dX8_marks_110 (by decide) ?_
              refine lv_imul hx hb dX8_marks_112 ?_
              refine lv_istore (lv' := [(5, .int (v5_20 * 13)), (7, .int (x3 + r_25)), (0, .ref aM), (1, .int x1), (2, .ref aM_isOne), (3, .int x3), (4, .int x4), (6, .int v6_21)]) hx hb dX8_marks_113 hl (by decide) rfl (fun ls hl => ?_)
              refine lv_iinc (v := (v6_21 + 1)) (lv' := [(6, .int (v6_21 + 1)), (5, .int (v5_20 * 13)), (7, .int (x3 + r_25)), (0, .ref aM), (1, .int x1), (2, .ref aM_isOne), (3, .int x3), (4, .int x4)]) hx hb dX8_marks_115 hl (k := 7) rfl rfl (by decide) rfl (fun ls hl => ?_)
              refine lv_goto (tgt := 21) hx hb dX8_marks_118 (by decide) ?_
              exact ihn_19 (v5_20 * 13) (v6_21 + 1) M_s_22 M_isOne_23 ls _ _ h (lv_sub hl [3, 4, 5, 6, 7, 1, 0] rfl) hP hD hS
            · have h := it_n c_29 h
              refine lv_iload hx hb dX8_marks_61 (lv_at hl 0 rfl) ?_
              refine lv_aload_n hx hb dX8_marks_63 rfl (lv_at hl 1 rfl) ?_
              refine lv_iload_n hx hb dX8_marks_64 rfl (lv_at hl 2 rfl) ?_
              obtain ⟨r_30, hg, h⟩ := bd_some h
              refine rdV (As := [.int x1]) (rest := [.int (x3 + r_25)]) (ci := 7) ⟨hx, hb, hml, hown, hts⟩ (k_X8_lengthOf l dC dI cI cZ cS N aM aM_s fs_M M_s_22 x1 hf_M_s r_30 hg) (cwV 1 hts gX8_marks_X8_lengthOf rfl rfl rfl cd_X8_lengthOf ⟨Nat.le_trans (m := 3) (Nat.le_of_ble_eq_true rfl) (Nat.le_add_right _ _), Nat.le_trans (m := 70) (Nat.le_of_ble_eq_true rfl) (Nat.le_add_right _ _)⟩) hP hD hK [0, 1] (by decide) rfl rfl rfl rfl hl.1 rfl (Nat.le_of_ble_eq_true rfl) dX8_marks_65 ⟨Nat.zero_le _, Nat.zero_le _⟩ ?_
              refine lv_icmp_eq (tgt := 81) hx hb dX8_marks_68 (by decide) (fun c_31 => ?_) (fun c_31 => ?_)
              · have h := it_p c_31 h
                refine lv_aload_n hx hb dX8_marks_81 rfl (lv_at hl 1 rfl) ?_
                refine lv_iload hx hb dX8_marks_82 (lv_at hl 7 rfl) ?_
                refine lv_iconst (v := 1) hx hb dX8_marks_84 (by decide) ?_
                obtain ⟨r_32, hg, h⟩ := bd_some h
                refine mtVv (As := [.int v6_21, .int 1]) (rest := []) (ci := 7) (wr := [(aM_isOne, .inl (cZ, 28561, .inl M_isOne_23))]) (w2 := [(aM, .inr (7, fs_M)), (aM_s, .inl (cI, 99, .inl r_32)), (aM_isOne, .inl (cZ, 28561, .inl M_isOne_23))]) ⟨hx, hb, hml, hown, hts⟩ (k_X8_leaves l dC dI cI cZ cS N aM aM_s fs_M _ M_s_22 v6_21 1 hf_M_s r_32 hg) (cwV 2 hts gX8_marks_X8_leaves rfl rfl rfl cd_X8_leaves ⟨Nat.le_trans (m := 3) (Nat.le_of_ble_eq_true rfl) (Nat.le_add_right _ _), Nat.le_trans (m := 70) (Nat.le_of_ble_eq_true rfl) (Nat.le_add_right _ _)⟩) hP hD hK hS hA [0, 1] [2] [1, 2, 0] (by decide) (by decide) (by decide) (by decide) rfl rfl rfl rfl rfl rfl hl.1 rfl (Nat.le_of_ble_eq_true rfl) dX8_marks_85 ⟨Nat.zero_le _, Nat.zero_le _⟩ (fun H locs hP hD hS => ?_)
                refine lv_aload_n hx hb dX8_marks_88 rfl (lv_at hl 1 rfl) ?_
                refine lv_iload_n hx hb dX8_marks_89 rfl (lv_at hl 2 rfl) ?_
                refine lv_aload_n hx hb dX8_marks_90 rfl (lv_at hl 3 rfl) ?_
                refine lv_iload hx hb dX8_marks_91 (lv_at hl 0 rfl) ?_
                refine lv_iload hx hb dX8_marks_93 (lv_at hl 5 rfl) ?_
                refine lv_iload hx hb dX8_marks_95 (lv_at hl 6 rfl) ?_
                refine lv_iadd hx hb dX8_marks_97 ?_
                obtain ⟨r_33, hg, h⟩ := bd_some h
                refine mtVv (As := [.int x1, .ref aM_isOne, .int (x3 + r_25), .int (x4 + v5_20)]) (rest := []) (ci := 7) (wr := []) (w2 := [(aM, .inr (7, fs_M)), (aM_s, .inl (cI, 99, .inl r_33.1)), (aM_isOne, .inl (cZ, 28561, .inl r_33.2))]) ⟨hx, hb, hml, hown, hts⟩ (ihd _ r_32 M_isOne_23 x1 (x3 + r_25) (x4 + v5_20) r_33 hg) (cwV 4 hts gX8_marks_X8_marks rfl rfl rfl cd_X8_marks ⟨Nat.le_refl _, by show 8 + (8 + 11) + (70 + 27 * dd) ≤ 70 + 27 * (dd + 1); omega⟩) hP hD hK hS hA [0, 1, 2] [] [0, 1, 2] (by decide) (by decide) (by decide) (by decide) rfl rfl rfl rfl rfl rfl hl.1 rfl (Nat.le_of_ble_eq_true rfl) dX8_marks_98 ⟨Nat.zero_le _, Nat.zero_le _⟩ (fun H locs hP hD hS => ?_)
                refine lv_aload_n hx hb dX8_marks_101 rfl (lv_at hl 1 rfl) ?_
                refine lv_iload hx hb dX8_marks_102 (lv_at hl 7 rfl) ?_
                refine lv_iconst (v := (-1)) hx hb dX8_marks_104 (by decide) ?_
                obtain ⟨r_34, hg, h⟩ := bd_some h
                refine mtVv (As := [.int v6_21, .int (-1)]) (rest := []) (ci := 7) (wr := [(aM_isOne, .inl (cZ, 28561, .inl r_33.2))]) (w2 := [(aM, .inr (7, fs_M)), (aM_s, .inl (cI, 99, .inl r_34)), (aM_isOne, .inl (cZ, 28561, .inl r_33.2))]) ⟨hx, hb, hml, hown, hts⟩ (k_X8_leaves l dC dI cI cZ cS N aM aM_s fs_M _ r_33.1 v6_21 (-1) hf_M_s r_34 hg) (cwV 2 hts gX8_marks_X8_leaves rfl rfl rfl cd_X8_leaves ⟨Nat.le_trans (m := 3) (Nat.le_of_ble_eq_true rfl) (Nat.le_add_right _ _), Nat.le_trans (m := 70) (Nat.le_of_ble_eq_true rfl) (Nat.le_add_right _ _)⟩) hP hD hK hS hA [0, 1] [2] [1, 2, 0] (by decide) (by decide) (by decide) (by decide) rfl rfl rfl rfl rfl rfl hl.1 rfl (Nat.le_of_ble_eq_true rfl) dX8_marks_105 ⟨Nat.zero_le _, Nat.zero_le _⟩ (fun H locs hP hD hS => ?_)
                refine lv_iload hx hb dX8_marks_108 (lv_at hl 6 rfl) ?_
                refine lv_bipush (v := 13) hx hb dX8_marks_110 (by decide) ?_
                refine lv_imul hx hb dX8_marks_112 ?_
                refine lv_istore (lv' := [(5, .int (v5_20 * 13)), (7, .int (x3 + r_25)), (0, .ref aM), (1, .int x1), (2, .ref aM_isOne), (3, .int x3), (4, .int x4), (6, .int v6_21)]) hx hb dX8_marks_113 hl (by decide) rfl (fun ls hl => ?_)
                refine lv_iinc (v := (v6_21 + 1)) (lv' := [(6, .int (v6_21 + 1)), (5, .int (v5_20 * 13)), (7, .int (x3 + r_25)), (0, .ref aM), (1, .int x1), (2, .ref aM_isOne), (3, .int x3), (4, .int x4)]) hx hb dX8_marks_115 hl (k := 7) rfl rfl (by decide) rfl (fun ls hl => ?_)
                refine lv_goto (tgt := 21) hx hb dX8_marks_118 (by decide) ?_
                exact ihn_19 (v5_20 * 13) (v6_21 + 1) r_34 r_33.2 ls _ _ h (lv_sub hl [3, 4, 5, 6, 7, 1, 0] rfl) hP hD hS
              · have h := it_n c_31 h
                refine lv_aload_n hx hb dX8_marks_71 rfl (lv_at hl 1 rfl) ?_
                refine lv_iload_n hx hb dX8_marks_72 rfl (lv_at hl 2 rfl) ?_
                refine lv_iload hx hb dX8_marks_73 (lv_at hl 0 rfl) ?_
                obtain ⟨r_35, hg, h⟩ := bd_some h
                refine rdV (As := [.int x1, .int (x3 + r_25)]) (rest := []) (ci := 7) ⟨hx, hb, hml, hown, hts⟩ (k_X8_mayBe l dC dI cI cZ cS N aM aM_s fs_M M_s_22 x1 (x3 + r_25) hf_M_s r_35 hg) (cwV 2 hts gX8_marks_X8_mayBe rfl rfl rfl cd_X8_mayBe ⟨Nat.le_trans (m := 3) (Nat.le_of_ble_eq_true rfl) (Nat.le_add_right _ _), Nat.le_trans (m := 70) (Nat.le_of_ble_eq_true rfl) (Nat.le_add_right _ _)⟩) hP hD hK [0, 1] (by decide) rfl rfl rfl rfl hl.1 rfl (Nat.le_of_ble_eq_true rfl) dX8_marks_75 ⟨Nat.zero_le _, Nat.zero_le _⟩ ?_
                refine lv_if_eq (tgt := 108) hx hb dX8_marks_78 (by decide) (fun c_36 => ?_) (fun c_36 => ?_)
                · have h := it_p c_36 h
                  refine lv_iload hx hb dX8_marks_108 (lv_at hl 6 rfl) ?_
                  refine lv_bipush (v := 13) hx hb dX8_marks_110 (by decide) ?_
                  refine lv_imul hx hb dX8_marks_112 ?_
                  refine lv_istore (lv' := [(5, .int (v5_20 * 13)), (7, .int (x3 + r_25)), (0, .ref aM), (1, .int x1), (2, .ref aM_isOne), (3, .int x3), (4, .int x4), (6, .int v6_21)]) hx hb dX8_marks_113 hl (by decide) rfl (fun ls hl => ?_)
                  refine lv_iinc (v := (v6_21 + 1)) (lv' := [(6, .int (v6_21 + 1)), (5, .int (v5_20 * 13)), (7, .int (x3 + r_25)), (0, .ref aM), (1, .int x1), (2, .ref aM_isOne), (3, .int x3), (4, .int x4)]) hx hb dX8_marks_115 hl (k := 7) rfl rfl (by decide) rfl (fun ls hl => ?_)
                  refine lv_goto (tgt := 21) hx hb dX8_marks_118 (by decide) ?_
                  exact ihn_19 (v5_20 * 13) (v6_21 + 1) M_s_22 M_isOne_23 ls _ _ h (lv_sub hl [3, 4, 5, 6, 7, 1, 0] rfl) hP hD hS
                · have h := it_n c_36 h
                  refine lv_aload_n hx hb dX8_marks_81 rfl (lv_at hl 1 rfl) ?_
                  refine lv_iload hx hb dX8_marks_82 (lv_at hl 7 rfl) ?_
                  refine lv_iconst (v := 1) hx hb dX8_marks_84 (by decide) ?_
                  obtain ⟨r_37, hg, h⟩ := bd_some h
                  refine mtVv (As := [.int v6_21, .int 1]) (rest := []) (ci := 7) (wr := [(aM_isOne, .inl (cZ, 28561, .inl M_isOne_23))]) (w2 := [(aM, .inr (7, fs_M)), (aM_s, .inl (cI, 99, .inl r_37)), (aM_isOne, .inl (cZ, 28561, .inl M_isOne_23))]) ⟨hx, hb, hml, hown, hts⟩ (k_X8_leaves l dC dI cI cZ cS N aM aM_s fs_M _ M_s_22 v6_21 1 hf_M_s r_37 hg) (cwV 2 hts gX8_marks_X8_leaves rfl rfl rfl cd_X8_leaves ⟨Nat.le_trans (m := 3) (Nat.le_of_ble_eq_true rfl) (Nat.le_add_right _ _), Nat.le_trans (m := 70) (Nat.le_of_ble_eq_true rfl) (Nat.le_add_right _ _)⟩) hP hD hK hS hA [0, 1] [2] [1, 2, 0] (by decide) (by decide) (by decide) (by decide) rfl rfl rfl rfl rfl rfl hl.1 rfl (Nat.le_of_ble_eq_true rfl) dX8_marks_85 ⟨Nat.zero_le _, Nat.zero_le _⟩ (fun H locs hP hD hS => ?_)
                  refine lv_aload_n hx hb dX8_marks_88 rfl (lv_at hl 1 rfl) ?_
                  refine lv_iload_n hx hb dX8_marks_89 rfl (lv_at hl 2 rfl) ?_
                  refine lv_aload_n hx hb dX8_marks_90 rfl (lv_at hl 3 rfl) ?_
                  refine lv_iload hx hb dX8_marks_91 (lv_at hl 0 rfl) ?_
                  refine lv_iload hx hb dX8_marks_93 (lv_at hl 5 rfl) ?_
                  refine lv_iload hx hb dX8_marks_95 (lv_at hl 6 rfl) ?_
                  refine lv_iadd hx hb dX8_marks_97 ?_
                  obtain ⟨r_38, hg, h⟩ := bd_some h
                  refine mtVv (As := [.int x1, .ref aM_isOne, .int (x3 + r_25), .int (x4 + v5_20)]) (rest := []) (ci := 7) (wr := []) (w2 := [(aM, .inr (7, fs_M)), (aM_s, .inl (cI, 99, .inl r_38.1)), (aM_isOne, .inl (cZ, 28561, .inl r_38.2))]) ⟨hx, hb, hml, hown, hts⟩ (ihd _ r_37 M_isOne_23 x1 (x3 + r_25) (x4 + v5_20) r_38 hg) (cwV 4 hts gX8_marks_X8_marks rfl rfl rfl cd_X8_marks ⟨Nat.le_refl _, by show 8 + (8 + 11) + (70 + 27 * dd) ≤ 70 + 27 * (dd + 1); omega⟩) hP hD hK hS hA [0, 1, 2] [] [0, 1, 2] (by decide) (by decide) (by decide) (by decide) rfl rfl rfl rfl rfl rfl hl.1 rfl (Nat.le_of_ble_eq_true rfl) dX8_marks_98 ⟨Nat.zero_le _, Nat.zero_le _⟩ (fun H locs hP hD hS => ?_)
                  refine lv_aload_n hx hb dX8_marks_101 rfl (lv_at hl 1 rfl) ?_
                  refine lv_iload hx hb dX8_marks_102 (lv_at hl 7 rfl) ?_
                  refine lv_iconst (v := (-1)) hx hb dX8_marks_104 (by decide) ?_
                  obtain ⟨r_39, hg, h⟩ := bd_some h
                  refine mtVv (As := [.int v6_21, .int (-1)]) (rest := []) (ci := 7) (wr := [(aM_isOne, .inl (cZ, 28561, .inl r_38.2))]) (w2 := [(aM, .inr (7, fs_M)), (aM_s, .inl (cI, 99, .inl r_39)), (aM_isOne, .inl (cZ, 28561, .inl r_38.2))]) ⟨hx, hb, hml, hown, hts⟩ (k_X8_leaves l dC dI cI cZ cS N aM aM_s fs_M _ r_38.1 v6_21 (-1) hf_M_s r_39 hg) (cwV 2 hts gX8_marks_X8_leaves rfl rfl rfl cd_X8_leaves ⟨Nat.le_trans (m := 3) (Nat.le_of_ble_eq_true rfl) (Nat.le_add_right _ _), Nat.le_trans (m := 70) (Nat.le_of_ble_eq_true rfl) (Nat.le_add_right _ _)⟩) hP hD hK hS hA [0, 1] [2] [1, 2, 0] (by decide) (by decide) (by decide) (by decide) rfl rfl rfl rfl rfl rfl hl.1 rfl (Nat.le_of_ble_eq_true rfl) dX8_marks_105 ⟨Nat.zero_le _, Nat.zero_le _⟩ (fun H locs hP hD hS => ?_)
                  refine lv_iload hx hb dX8_marks_108 (lv_at hl 6 rfl) ?_
                  refine lv_bipush (v := 13) hx hb dX8_marks_110 (by decide) ?_
                  refine lv_imul hx hb dX8_marks_112 ?_
                  refine lv_istore (lv' := [(5, .int (v5_20 * 13)), (7, .int (x3 + r_25)), (0, .ref aM), (1, .int x1), (2, .ref aM_isOne), (3, .int x3), (4, .int x4), (6, .int v6_21)]) hx hb dX8_marks_113 hl (by decide) rfl (fun ls hl => ?_)
                  refine lv_iinc (v := (v6_21 + 1)) (lv' := [(6, .int (v6_21 + 1)), (5, .int (v5_20 * 13)), (7, .int (x3 + r_25)), (0, .ref aM), (1, .int x1), (2, .ref aM_isOne), (3, .int x3), (4, .int x4)]) hx hb dX8_marks_115 hl (k := 7) rfl rfl (by decide) rfl (fun ls hl => ?_)
                  refine lv_goto (tgt := 21) hx hb dX8_marks_118 (by decide) ?_
                  exact ihn_19 (v5_20 * 13) (v6_21 + 1) r_39 r_38.2 ls _ _ h (lv_sub hl [3, 4, 5, 6, 7, 1, 0] rfl) hP hD hS
    exact L21_18 N 1 0 M_s M_isOne ls _ _ h (lv_sub hl [2, 3, 4, 5, 6, 1, 0] rfl) hP hD hS
  · have h := it_p c_2 h
    refine lv_aload_n hx hb dX8_marks_9 rfl (lv_at hl 2 rfl) ?_
    refine lv_iload hx hb dX8_marks_10 (lv_at hl 4 rfl) ?_
    refine lv_iconst (v := 1) hx hb dX8_marks_12 (by decide) ?_
    obtain ⟨hi, h⟩ := ck_some h
    refine va_zast hx hb hK hP hD hS 2 1 rfl rfl (gi_in hi) dX8_marks_13 (fun H locs hP hD hS => ?_)
    have hP : va_P (dC, dI) vwCl [(aM, .inr (7, fs_M)), (aM_s, .inl (cI, 99, .inl M_s)), (aM_isOne, .inl (cZ, 28561, .inl (upd M_isOne x4.toNatClampNeg (vp_nar .boolean 1))))] H := hP
    have hD : va_D A [(aM, .inr (7, fs_M)), (aM_s, .inl (cI, 99, .inl M_s)), (aM_isOne, .inl (cZ, 28561, .inl (upd M_isOne x4.toNatClampNeg (vp_nar .boolean 1))))] := hD
    have h := Option.some.inj h
    exact W.vret hx hb hr (fun t ht hW => ⟨⟨(), rfl, trivial, by (try rw [← h]); rw [ht]; exact hP, va_K.moved hW.alike hK, by (try rw [← h]); exact hD⟩, hS.F ht⟩) hS.2.2 dX8_marks_14
