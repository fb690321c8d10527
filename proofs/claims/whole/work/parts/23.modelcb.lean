theorem cd_X8_ofHanded : yX8_ofHanded.cls = RX8 ∧ yX8_ofHanded.cls ≠ "java/lang/invoke/MethodHandle" ∧ yX8_ofHanded.cls ≠ "java/lang/invoke/VarHandle" ∧ (parseMethodDescriptor yX8_ofHanded.desc).map (fun d => d.parameters.length) = some 1 := by decide +kernel
def f_X8_ofHanded (N : Nat) (M_s : Nat → Int32) (M_z : Int32) (M_byRow : Int32) (M_byAt : Int32) (M_one : Int32) (M_two : Int32) (x1 : Int32) : Option (Int32 × (Nat → Int32) × Int32 × Int32 × Int32) :=
  (f_X8_handed N M_s M_z).bind fun r_1 => (f_X8_canLay N M_s M_byRow M_byAt r_1.1 0).bind fun r_2 => if x1 = 0 then (if (b2i r_2) = 0 then (some ((-4), M_s, r_1.2, r_1.1, (-4))) else (some (r_1.1, M_s, r_1.2, r_1.1, (-4)))) else ((f_X8_heapSize N M_s).bind fun r_8 => if r_8 ≤ 1 then (if (b2i r_2) = 0 then (some ((-4), M_s, r_1.2, r_1.1, (-4))) else (some (r_1.1, M_s, r_1.2, r_1.1, (-4)))) else ((f_X8_leaves N M_s r_1.1 1).bind fun r_14 => (f_X8_handed N r_14 r_1.2).bind fun r_15 => (f_X8_leaves N r_14 r_1.1 (-1)).bind fun r_16 => if r_15.1 < 0 then (if (b2i r_2) = 0 then (some ((-4), r_16, r_15.2, r_1.1, r_15.1)) else (some (r_1.1, r_16, r_15.2, r_1.1, r_15.1))) else ((f_X8_canLay N r_16 M_byRow M_byAt r_15.1 0).bind fun r_21 => if (b2i r_21) = 0 then (if (b2i r_2) = 0 then (some ((-4), r_16, r_15.2, r_1.1, r_15.1)) else (some (r_1.1, r_16, r_15.2, r_1.1, r_15.1))) else (if (b2i r_2) = 0 then (some (r_15.1, r_16, r_15.2, r_1.1, r_15.1)) else ((f_X8_inches N r_16 r_1.1).bind fun r_29 => (f_X8_inches N r_16 r_15.1).bind fun r_30 => if r_29 < r_30 then (some (r_15.1, r_16, r_15.2, r_1.1, r_15.1)) else (some (r_1.1, r_16, r_15.2, r_1.1, r_15.1)))))))
set_option maxHeartbeats 4000000 in
set_option maxRecDepth 100000 in
theorem k_X8_ofHanded (l : Launch) (dC : Nat → ClassId) (dI : Nat → Nat → Nat) (cI cZ cS : ClassId) (N : Nat) (aM aM_s aM_image aM_read aM_saved aM_kept aM_sort aM_size aM_element aM_keptKind aM_keptFigure aM_numbers aM_used aM_way aM_found aM_isOne aM_isTwo : Nat) (sz : Nat) (M_s : Nat → Int32) (M_hasImage : Int32) (M_thrown : Int32) (M_pos : Int32) (M_base : Int32) (M_end : Int32) (M_number : Int32) (M_told : Int32) (M_wayRow : Int32) (M_wayTo : Int32) (M_ways : Int32) (M_endsBy : Int32) (M_foundSize : Int32) (M_foundWorth : Int32) (M_foundCut : Int32) (M_z : Int32) (M_aside : Int32) (M_byRow : Int32) (M_byAt : Int32) (M_one : Int32) (M_two : Int32) (M_slatesBy : Int32) (x1 : Int32) (res : Int32 × (Nat → Int32) × Int32 × Int32 × Int32) (h : f_X8_ofHanded N M_s M_z M_byRow M_byAt M_one M_two x1 = some res) : Met l yX8_ofHanded wsX8_ofHanded ({ frames := 4, cells := 0, slots := 0, locals := 93 }) (va_Pc [.ref aM, .int x1] (preW (dC, dI) cI cZ cS [(aM, .inr (7, [.ref aM_s, .ref aM_image, .ref aM_read, .ref aM_saved, .ref aM_kept, .ref aM_sort, .ref aM_size, .ref aM_element, .ref aM_keptKind, .ref aM_keptFigure, .int M_hasImage, .int M_thrown, .int M_pos, .int M_base, .int M_end, .int M_number, .int M_told, .ref aM_numbers, .ref aM_used, .ref aM_way, .ref aM_found, .int M_wayRow, .int M_wayTo, .int M_ways, .int M_endsBy, .int M_foundSize, .int M_foundWorth, .int M_foundCut, .ref aM_isOne, .ref aM_isTwo, .int M_z, .int M_aside, .int M_byRow, .int M_byAt, .int M_one, .int M_two, .int M_slatesBy])), (aM_s, .inl (cI, 99, .inl M_s))] sz)) (va_Qi (fun (r : Int32) (_ : Unit) => r = res.1) (fun _ => qW (dC, dI) cI cZ cS (va_A [(aM, .inr (7, [.ref aM_s, .ref aM_image, .ref aM_read, .ref aM_saved, .ref aM_kept, .ref aM_sort, .ref aM_size, .ref aM_element, .ref aM_keptKind, .ref aM_keptFigure, .int M_hasImage, .int M_thrown, .int M_pos, .int M_base, .int M_end, .int M_number, .int M_told, .ref aM_numbers, .ref aM_used, .ref aM_way, .ref aM_found, .int M_wayRow, .int M_wayTo, .int M_ways, .int M_endsBy, .int M_foundSize, .int M_foundWorth, .int M_foundCut, .ref aM_isOne, .ref aM_isTwo, .int M_z, .int M_aside, .int M_byRow, .int M_byAt, .int M_one, .int M_two, .int M_slatesBy])), (aM_s, .inl (cI, 99, .inl M_s))] sz) [(aM, .inr (7, [.ref aM_s, .ref aM_image, .ref aM_read, .ref aM_saved, .ref aM_kept, .ref aM_sort, .ref aM_size, .ref aM_element, .ref aM_keptKind, .ref aM_keptFigure, .int M_hasImage, .int M_thrown, .int M_pos, .int M_base, .int M_end, .int M_number, .int M_told, .ref aM_numbers, .ref aM_used, .ref aM_way, .ref aM_found, .int M_wayRow, .int M_wayTo, .int M_ways, .int M_endsBy, .int M_foundSize, .int M_foundWorth, .int M_foundCut, .ref aM_isOne, .ref aM_isTwo, .int res.2.2.1, .int M_aside, .int M_byRow, .int M_byAt, .int res.2.2.2.1, .int res.2.2.2.2, .int M_slatesBy])), (aM_s, .inl (cI, 99, .inl res.2.1))]) (va_A [(aM, .inr (7, [.ref aM_s, .ref aM_image, .ref aM_read, .ref aM_saved, .ref aM_kept, .ref aM_sort, .ref aM_size, .ref aM_element, .ref aM_keptKind, .ref aM_keptFigure, .int M_hasImage, .int M_thrown, .int M_pos, .int M_base, .int M_end, .int M_number, .int M_told, .ref aM_numbers, .ref aM_used, .ref aM_way, .ref aM_found, .int M_wayRow, .int M_wayTo, .int M_ways, .int M_endsBy, .int M_foundSize, .int M_foundWorth, .int M_foundCut, .ref aM_isOne, .ref aM_isTwo, .int M_z, .int M_aside, .int M_byRow, .int M_byAt, .int M_one, .int M_two, .int M_slatesBy])), (aM_s, .inl (cI, 99, .inl M_s))] sz)) 0 0 (va_A [(aM, .inr (7, [.ref aM_s, .ref aM_image, .ref aM_read, .ref aM_saved, .ref aM_kept, .ref aM_sort, .ref aM_size, .ref aM_element, .ref aM_keptKind, .ref aM_keptFigure, .int M_hasImage, .int M_thrown, .int M_pos, .int M_base, .int M_end, .int M_number, .int M_told, .ref aM_numbers, .ref aM_used, .ref aM_way, .ref aM_found, .int M_wayRow, .int M_wayTo, .int M_ways, .int M_endsBy, .int M_foundSize, .int M_foundWorth, .int M_foundCut, .ref aM_isOne, .ref aM_isTwo, .int M_z, .int M_aside, .int M_byRow, .int M_byAt, .int M_one, .int M_two, .int M_slatesBy])), (aM_s, .inl (cI, 99, .inl M_s))] sz) := by
  refine Met.ofW (cc := cX8_ofHanded) (maxL := 4) (ret := (some .int)) (by decide) rfl ?_
  intro p e s m args below meth c s₁ B hml hv
  obtain ⟨rfl, hsz, hP, hK, hD0⟩ := hv
  have hx := B.exec
  have hb := B.bytes
  have hr := B.returns
  have hts := atoms_spec (ws := wsX8_ofHanded) B.pre
  have hown : s.vm.findClass RX8 = some m.cls := findClass_of_methodNamed B.named
  have hlocks := B.notSynchronized
  subst hsz
  have hD := hD0.self (sz := s.heap.size)
  generalize hAe : va_A [(aM, .inr (7, [.ref aM_s, .ref aM_image, .ref aM_read, .ref aM_saved, .ref aM_kept, .ref aM_sort, .ref aM_size, .ref aM_element, .ref aM_keptKind, .ref aM_keptFigure, .int M_hasImage, .int M_thrown, .int M_pos, .int M_base, .int M_end, .int M_number, .int M_told, .ref aM_numbers, .ref aM_used, .ref aM_way, .ref aM_found, .int M_wayRow, .int M_wayTo, .int M_ways, .int M_endsBy, .int M_foundSize, .int M_foundWorth, .int M_foundCut, .ref aM_isOne, .ref aM_isTwo, .int M_z, .int M_aside, .int M_byRow, .int M_byAt, .int M_one, .int M_two, .int M_slatesBy])), (aM_s, .inl (cI, 99, .inl M_s))] s.heap.size = A at hD ⊢
  have hA : ∀ q : Nat, s.heap.size ≤ q → A q := fun q h => by rw [← hAe]; exact Or.inr h
  have hS : va_S A s.heap s.heap [] := va_S.rf
  have hl := lv_entry ([.ref aM, .int x1]) (n := 4) (Nat.le_of_ble_eq_true rfl)
  rw [lg_entry_eq]
  generalize (lg_sl ([.ref aM, .int x1]) ++ List.replicate (4 - (lg_sl ([.ref aM, .int x1])).length) Slot.unset).toArray = ls at hl ⊢
  have hl : lv_has ls 4 [(0, .ref aM), (1, .int x1)] := hl
  unfold f_X8_ofHanded at h
  refine lv_aload_n hx hb dX8_ofHanded_0 rfl (lv_at hl 0 rfl) ?_
  refine lv_aload_n hx hb dX8_ofHanded_1 rfl (lv_at hl 0 rfl) ?_
  obtain ⟨r_1, hg, h⟩ := bd_some h
  refine mtVi (As := []) (rest := [.ref aM]) (ci := 7) (wr := []) (w2 := [(aM, .inr (7, [.ref aM_s, .ref aM_image, .ref aM_read, .ref aM_saved, .ref aM_kept, .ref aM_sort, .ref aM_size, .ref aM_element, .ref aM_keptKind, .ref aM_keptFigure, .int M_hasImage, .int M_thrown, .int M_pos, .int M_base, .int M_end, .int M_number, .int M_told, .ref aM_numbers, .ref aM_used, .ref aM_way, .ref aM_found, .int M_wayRow, .int M_wayTo, .int M_ways, .int M_endsBy, .int M_foundSize, .int M_foundWorth, .int M_foundCut, .ref aM_isOne, .ref aM_isTwo, .int r_1.2, .int M_aside, .int M_byRow, .int M_byAt, .int M_one, .int M_two, .int M_slatesBy])), (aM_s, .inl (cI, 99, .inl M_s))]) ⟨hx, hb, hml, hown, hts⟩ (k_X8_handed l dC dI cI cZ cS N aM aM_s aM_image aM_read aM_saved aM_kept aM_sort aM_size aM_element aM_keptKind aM_keptFigure aM_numbers aM_used aM_way aM_found aM_isOne aM_isTwo _ M_s M_hasImage M_thrown M_pos M_base M_end M_number M_told M_wayRow M_wayTo M_ways M_endsBy M_foundSize M_foundWorth M_foundCut M_z M_aside M_byRow M_byAt M_one M_two M_slatesBy r_1 hg) (cwV 0 hts gX8_ofHanded_X8_handed rfl rfl rfl cd_X8_handed ⟨Nat.le_of_ble_eq_true rfl, Nat.le_of_ble_eq_true rfl⟩) hP hD hK hS hA [0, 1] [] [0, 1] (by decide) (by decide) (by decide) (by decide) rfl rfl rfl rfl rfl rfl hl.1 rfl (Nat.le_of_ble_eq_true rfl) dX8_ofHanded_2 ⟨Nat.zero_le _, Nat.zero_le _⟩ (fun H locs hP hD hS => ?_)
  refine va_put (D := (dC, dI)) (ci := 7) (v := .int r_1.1) (ty := .int) (C := RX8) (T := TX8) (N := 37) hx hb hts (fun _ h => List.mem_cons_of_mem _ (List.mem_append_right _ h)) tyX8 tyX8_ok nmX8 hown hK hP hD hS 0 rfl rfl 34 (by decide) (hts (.fieldLink RX8 271 "SlateRowsModel" "one" "I") (by decide +kernel)) (fun _ h9 => h9) rfl (by decide +kernel) rfl rfl (Nat.le_of_ble_eq_true rfl) dX8_ofHanded_5 (fun H locs hP hD hS => ?_)
  have hP : va_P (dC, dI) vwCl [(aM, .inr (7, [.ref aM_s, .ref aM_image, .ref aM_read, .ref aM_saved, .ref aM_kept, .ref aM_sort, .ref aM_size, .ref aM_element, .ref aM_keptKind, .ref aM_keptFigure, .int M_hasImage, .int M_thrown, .int M_pos, .int M_base, .int M_end, .int M_number, .int M_told, .ref aM_numbers, .ref aM_used, .ref aM_way, .ref aM_found, .int M_wayRow, .int M_wayTo, .int M_ways, .int M_endsBy, .int M_foundSize, .int M_foundWorth, .int M_foundCut, .ref aM_isOne, .ref aM_isTwo, .int r_1.2, .int M_aside, .int M_byRow, .int M_byAt, .int r_1.1, .int M_two, .int M_slatesBy])), (aM_s, .inl (cI, 99, .inl M_s))] H := hP
  have hD : va_D A [(aM, .inr (7, [.ref aM_s, .ref aM_image, .ref aM_read, .ref aM_saved, .ref aM_kept, .ref aM_sort, .ref aM_size, .ref aM_element, .ref aM_keptKind, .ref aM_keptFigure, .int M_hasImage, .int M_thrown, .int M_pos, .int M_base, .int M_end, .int M_number, .int M_told, .ref aM_numbers, .ref aM_used, .ref aM_way, .ref aM_found, .int M_wayRow, .int M_wayTo, .int M_ways, .int M_endsBy, .int M_foundSize, .int M_foundWorth, .int M_foundCut, .ref aM_isOne, .ref aM_isTwo, .int r_1.2, .int M_aside, .int M_byRow, .int M_byAt, .int r_1.1, .int M_two, .int M_slatesBy])), (aM_s, .inl (cI, 99, .inl M_s))] := hD
  refine lv_aload_n hx hb dX8_ofHanded_8 rfl (lv_at hl 0 rfl) ?_
  refine lv_bipush (v := (-4)) hx hb dX8_ofHanded_9 (by decide) ?_
  refine va_put (D := (dC, dI)) (ci := 7) (v := .int (-4)) (ty := .int) (C := RX8) (T := TX8) (N := 37) hx hb hts (fun _ h => List.mem_cons_of_mem _ (List.mem_append_right _ h)) tyX8 tyX8_ok nmX8 hown hK hP hD hS 0 rfl rfl 35 (by decide) (hts (.fieldLink RX8 274 "SlateRowsModel" "two" "I") (by decide +kernel)) (fun _ h9 => h9) rfl (by decide +kernel) rfl rfl (Nat.le_of_ble_eq_true rfl) dX8_ofHanded_11 (fun H locs hP hD hS => ?_)
  have hP : va_P (dC, dI) vwCl [(aM, .inr (7, [.ref aM_s, .ref aM_image, .ref aM_read, .ref aM_saved, .ref aM_kept, .ref aM_sort, .ref aM_size, .ref aM_element, .ref aM_keptKind, .ref aM_keptFigure, .int M_hasImage, .int M_thrown, .int M_pos, .int M_base, .int M_end, .int M_number, .int M_told, .ref aM_numbers, .ref aM_used, .ref aM_way, .ref aM_found, .int M_wayRow, .int M_wayTo, .int M_ways, .int M_endsBy, .int M_foundSize, .int M_foundWorth, .int M_foundCut, .ref aM_isOne, .ref aM_isTwo, .int r_1.2, .int M_aside, .int M_byRow, .int M_byAt, .int r_1.1, .int (-4), .int M_slatesBy])), (aM_s, .inl (cI, 99, .inl M_s))] H := hP
  have hD : va_D A [(aM, .inr (7, [.ref aM_s, .ref aM_image, .ref aM_read, .ref aM_saved, .ref aM_kept, .ref aM_sort, .ref aM_size, .ref aM_element, .ref aM_keptKind, .ref aM_keptFigure, .int M_hasImage, .int M_thrown, .int M_pos, .int M_base, .int M_end, .int M_number, .int M_told, .ref aM_numbers, .ref aM_used, .ref aM_way, .ref aM_found, .int M_wayRow, .int M_wayTo, .int M_ways, .int M_endsBy, .int M_foundSize, .int M_foundWorth, .int M_foundCut, .ref aM_isOne, .ref aM_isTwo, .int r_1.2, .int M_aside, .int M_byRow, .int M_byAt, .int r_1.1, .int (-4), .int M_slatesBy])), (aM_s, .inl (cI, 99, .inl M_s))] := hD
  refine lv_aload_n hx hb dX8_ofHanded_14 rfl (lv_at hl 0 rfl) ?_
  refine lv_aload_n hx hb dX8_ofHanded_15 rfl (lv_at hl 0 rfl) ?_
  refine va_get (D := (dC, dI)) (ci := 7) (v := .int r_1.1) (C := RX8) (T := TX8) (N := 37) hx hb hts (fun _ h => List.mem_cons_of_mem _ (List.mem_append_right _ h)) hown hK hP 0 rfl rfl 34 (by decide) (hts (.fieldLink RX8 271 "SlateRowsModel" "one" "I") (by decide +kernel)) (fun _ h9 => h9) rfl dX8_ofHanded_16 ?_
  refine lv_iconst (v := 0) hx hb dX8_ofHanded_19 (by decide) ?_
  obtain ⟨r_2, hg, h⟩ := bd_some h
  refine rdV (As := [.int r_1.1, .int 0]) (rest := []) (ci := 7) ⟨hx, hb, hml, hown, hts⟩ (k_X8_canLay l dC dI cI cZ cS N aM aM_s [.ref aM_s, .ref aM_image, .ref aM_read, .ref aM_saved, .ref aM_kept, .ref aM_sort, .ref aM_size, .ref aM_element, .ref aM_keptKind, .ref aM_keptFigure, .int M_hasImage, .int M_thrown, .int M_pos, .int M_base, .int M_end, .int M_number, .int M_told, .ref aM_numbers, .ref aM_used, .ref aM_way, .ref aM_found, .int M_wayRow, .int M_wayTo, .int M_ways, .int M_endsBy, .int M_foundSize, .int M_foundWorth, .int M_foundCut, .ref aM_isOne, .ref aM_isTwo, .int r_1.2, .int M_aside, .int M_byRow, .int M_byAt, .int r_1.1, .int (-4), .int M_slatesBy] M_s M_byRow M_byAt r_1.1 0 rfl rfl rfl r_2 hg) (cwV 2 hts gX8_ofHanded_X8_canLay rfl rfl rfl cd_X8_canLay ⟨Nat.le_of_ble_eq_true rfl, Nat.le_of_ble_eq_true rfl⟩) hP hD hK [0, 1] (by decide) rfl rfl rfl rfl hl.1 rfl (Nat.le_of_ble_eq_true rfl) dX8_ofHanded_20 ⟨Nat.zero_le _, Nat.zero_le _⟩ ?_
  refine lv_istore_n (lv' := [(2, .int (b2i r_2)), (0, .ref aM), (1, .int x1)]) hx hb dX8_ofHanded_23 rfl hl (by decide) rfl (fun ls hl => ?_)
  refine lv_iload_n hx hb dX8_ofHanded_24 rfl (lv_at hl 2 rfl) ?_
  refine lv_if_eq (tgt := 62) hx hb dX8_ofHanded_25 (by decide) (fun c_3 => ?_) (fun c_3 => ?_)
  · have h := it_p c_3 h
    refine lv_aload_n hx hb dX8_ofHanded_62 rfl (lv_at hl 1 rfl) ?_
    refine va_get (D := (dC, dI)) (ci := 7) (v := .int (-4)) (C := RX8) (T := TX8) (N := 37) hx hb hts (fun _ h => List.mem_cons_of_mem _ (List.mem_append_right _ h)) hown hK hP 0 rfl rfl 35 (by decide) (hts (.fieldLink RX8 274 "SlateRowsModel" "two" "I") (by decide +kernel)) (fun _ h9 => h9) rfl dX8_ofHanded_63 ?_
    refine lv_if_lt (tgt := 85) hx hb dX8_ofHanded_66 (by decide) (fun c_4 => ?_) (fun c_4 => ?_)
    · skip
      refine lv_iconst (v := 0) hx hb dX8_ofHanded_85 (by decide) ?_
      refine lv_istore_n (lv' := [(3, .int 0), (2, .int (b2i r_2)), (0, .ref aM), (1, .int x1)]) hx hb dX8_ofHanded_86 rfl hl (by decide) rfl (fun ls hl => ?_)
      refine lv_iload_n hx hb dX8_ofHanded_87 rfl (lv_at hl 1 rfl) ?_
      refine lv_if_eq (tgt := 121) hx hb dX8_ofHanded_88 (by decide) (fun c_5 => ?_) (fun c_5 => ?_)
      · have h := it_p c_5 h
        refine lv_iload_n hx hb dX8_ofHanded_121 rfl (lv_at hl 0 rfl) ?_
        refine lv_if_eq (tgt := 132) hx hb dX8_ofHanded_122 (by decide) (fun c_6 => ?_) (fun c_6 => ?_)
        · skip
          refine lv_bipush (v := (-4)) hx hb dX8_ofHanded_132 (by decide) ?_
          have h := Option.some.inj h
          exact W.iret hx hb hr (fun t ht hW => ⟨⟨_, (), rfl, by rw [← h], by (try rw [← h]); rw [ht]; exact hP, va_K.moved hW.alike hK, by (try rw [← h]); exact hD⟩, hS.F ht⟩) hS.2.2 dX8_ofHanded_134
        · exact absurd (by decide) c_6
      · have h := it_n c_5 h
        refine lv_iload_n hx hb dX8_ofHanded_91 rfl (lv_at hl 0 rfl) ?_
        refine lv_if_eq (tgt := 114) hx hb dX8_ofHanded_92 (by decide) (fun c_7 => ?_) (fun c_7 => ?_)
        · skip
          refine lv_aload_n hx hb dX8_ofHanded_114 rfl (lv_at hl 2 rfl) ?_
          refine va_get (D := (dC, dI)) (ci := 7) (v := .int r_1.1) (C := RX8) (T := TX8) (N := 37) hx hb hts (fun _ h => List.mem_cons_of_mem _ (List.mem_append_right _ h)) hown hK hP 0 rfl rfl 34 (by decide) (hts (.fieldLink RX8 271 "SlateRowsModel" "one" "I") (by decide +kernel)) (fun _ h9 => h9) rfl dX8_ofHanded_115 ?_
          refine lv_goto (tgt := 134) hx hb dX8_ofHanded_118 (by decide) ?_
          have h := Option.some.inj h
          exact W.iret hx hb hr (fun t ht hW => ⟨⟨_, (), rfl, by rw [← h], by (try rw [← h]); rw [ht]; exact hP, va_K.moved hW.alike hK, by (try rw [← h]); exact hD⟩, hS.F ht⟩) hS.2.2 dX8_ofHanded_134
        · exact absurd (by decide) c_7
    · exact absurd (by decide) c_4
  · have h := it_n c_3 h
    refine lv_aload_n hx hb dX8_ofHanded_28 rfl (lv_at hl 1 rfl) ?_
    obtain ⟨r_8, hg, h⟩ := bd_some h
    refine rdV (As := []) (rest := []) (ci := 7) ⟨hx, hb, hml, hown, hts⟩ (k_X8_heapSize l dC dI cI cZ cS N aM aM_s [.ref aM_s, .ref aM_image, .ref aM_read, .ref aM_saved, .ref aM_kept, .ref aM_sort, .ref aM_size, .ref aM_element, .ref aM_keptKind, .ref aM_keptFigure, .int M_hasImage, .int M_thrown, .int M_pos, .int M_base, .int M_end, .int M_number, .int M_told, .ref aM_numbers, .ref aM_used, .ref aM_way, .ref aM_found, .int M_wayRow, .int M_wayTo, .int M_ways, .int M_endsBy, .int M_foundSize, .int M_foundWorth, .int M_foundCut, .ref aM_isOne, .ref aM_isTwo, .int r_1.2, .int M_aside, .int M_byRow, .int M_byAt, .int r_1.1, .int (-4), .int M_slatesBy] M_s rfl r_8 hg) (cwV 0 hts gX8_ofHanded_X8_heapSize rfl rfl rfl cd_X8_heapSize ⟨Nat.le_of_ble_eq_true rfl, Nat.le_of_ble_eq_true rfl⟩) hP hD hK [0, 1] (by decide) rfl rfl rfl rfl hl.1 rfl (Nat.le_of_ble_eq_true rfl) dX8_ofHanded_29 ⟨Nat.zero_le _, Nat.zero_le _⟩ ?_
    refine lv_iconst (v := 1) hx hb dX8_ofHanded_32 (by decide) ?_
    refine lv_icmp_le (tgt := 62) hx hb dX8_ofHanded_33 (by decide) (fun c_9 => ?_) (fun c_9 => ?_)
    · have h := it_p c_9 h
      refine lv_aload_n hx hb dX8_ofHanded_62 rfl (lv_at hl 1 rfl) ?_
      refine va_get (D := (dC, dI)) (ci := 7) (v := .int (-4)) (C := RX8) (T := TX8) (N := 37) hx hb hts (fun _ h => List.mem_cons_of_mem _ (List.mem_append_right _ h)) hown hK hP 0 rfl rfl 35 (by decide) (hts (.fieldLink RX8 274 "SlateRowsModel" "two" "I") (by decide +kernel)) (fun _ h9 => h9) rfl dX8_ofHanded_63 ?_
      refine lv_if_lt (tgt := 85) hx hb dX8_ofHanded_66 (by decide) (fun c_10 => ?_) (fun c_10 => ?_)
      · skip
        refine lv_iconst (v := 0) hx hb dX8_ofHanded_85 (by decide) ?_
        refine lv_istore_n (lv' := [(3, .int 0), (2, .int (b2i r_2)), (0, .ref aM), (1, .int x1)]) hx hb dX8_ofHanded_86 rfl hl (by decide) rfl (fun ls hl => ?_)
        refine lv_iload_n hx hb dX8_ofHanded_87 rfl (lv_at hl 1 rfl) ?_
        refine lv_if_eq (tgt := 121) hx hb dX8_ofHanded_88 (by decide) (fun c_11 => ?_) (fun c_11 => ?_)
        · have h := it_p c_11 h
          refine lv_iload_n hx hb dX8_ofHanded_121 rfl (lv_at hl 0 rfl) ?_
          refine lv_if_eq (tgt := 132) hx hb dX8_ofHanded_122 (by decide) (fun c_12 => ?_) (fun c_12 => ?_)
          · skip
            refine lv_bipush (v := (-4)) hx hb dX8_ofHanded_132 (by decide) ?_
            have h := Option.some.inj h
            exact W.iret hx hb hr (fun t ht hW => ⟨⟨_, (), rfl, by rw [← h], by (try rw [← h]); rw [ht]; exact hP, va_K.moved hW.alike hK, by (try rw [← h]); exact hD⟩, hS.F ht⟩) hS.2.2 dX8_ofHanded_134
          · exact absurd (by decide) c_12
        · have h := it_n c_11 h
          refine lv_iload_n hx hb dX8_ofHanded_91 rfl (lv_at hl 0 rfl) ?_
          refine lv_if_eq (tgt := 114) hx hb dX8_ofHanded_92 (by decide) (fun c_13 => ?_) (fun c_13 => ?_)
          · skip
            refine lv_aload_n hx hb dX8_ofHanded_114 rfl (lv_at hl 2 rfl) ?_
            refine va_get (D := (dC, dI)) (ci := 7) (v := .int r_1.1) (C := RX8) (T := TX8) (N := 37) hx hb hts (fun _ h => List.mem_cons_of_mem _ (List.mem_append_right _ h)) hown hK hP 0 rfl rfl 34 (by decide) (hts (.fieldLink RX8 271 "SlateRowsModel" "one" "I") (by decide +kernel)) (fun _ h9 => h9) rfl dX8_ofHanded_115 ?_
            refine lv_goto (tgt := 134) hx hb dX8_ofHanded_118 (by decide) ?_
            have h := Option.some.inj h
            exact W.iret hx hb hr (fun t ht hW => ⟨⟨_, (), rfl, by rw [← h], by (try rw [← h]); rw [ht]; exact hP, va_K.moved hW.alike hK, by (try rw [← h]); exact hD⟩, hS.F ht⟩) hS.2.2 dX8_ofHanded_134
          · exact absurd (by decide) c_13
      · exact absurd (by decide) c_10
    · have h := it_n c_9 h
      refine lv_aload_n hx hb dX8_ofHanded_36 rfl (lv_at hl 1 rfl) ?_
      refine lv_aload_n hx hb dX8_ofHanded_37 rfl (lv_at hl 1 rfl) ?_
      refine va_get (D := (dC, dI)) (ci := 7) (v := .int r_1.1) (C := RX8) (T := TX8) (N := 37) hx hb hts (fun _ h => List.mem_cons_of_mem _ (List.mem_append_right _ h)) hown hK hP 0 rfl rfl 34 (by decide) (hts (.fieldLink RX8 271 "SlateRowsModel" "one" "I") (by decide +kernel)) (fun _ h9 => h9) rfl dX8_ofHanded_38 ?_
      refine lv_iconst (v := 1) hx hb dX8_ofHanded_41 (by decide) ?_
      obtain ⟨r_14, hg, h⟩ := bd_some h
      refine mtVv (As := [.int r_1.1, .int 1]) (rest := []) (ci := 7) (wr := []) (w2 := [(aM, .inr (7, [.ref aM_s, .ref aM_image, .ref aM_read, .ref aM_saved, .ref aM_kept, .ref aM_sort, .ref aM_size, .ref aM_element, .ref aM_keptKind, .ref aM_keptFigure, .int M_hasImage, .int M_thrown, .int M_pos, .int M_base, .int M_end, .int M_number, .int M_told, .ref aM_numbers, .ref aM_used, .ref aM_way, .ref aM_found, .int M_wayRow, .int M_wayTo, .int M_ways, .int M_endsBy, .int M_foundSize, .int M_foundWorth, .int M_foundCut, .ref aM_isOne, .ref aM_isTwo, .int r_1.2, .int M_aside, .int M_byRow, .int M_byAt, .int r_1.1, .int (-4), .int M_slatesBy])), (aM_s, .inl (cI, 99, .inl r_14))]) ⟨hx, hb, hml, hown, hts⟩ (k_X8_leaves l dC dI cI cZ cS N aM aM_s [.ref aM_s, .ref aM_image, .ref aM_read, .ref aM_saved, .ref aM_kept, .ref aM_sort, .ref aM_size, .ref aM_element, .ref aM_keptKind, .ref aM_keptFigure, .int M_hasImage, .int M_thrown, .int M_pos, .int M_base, .int M_end, .int M_number, .int M_told, .ref aM_numbers, .ref aM_used, .ref aM_way, .ref aM_found, .int M_wayRow, .int M_wayTo, .int M_ways, .int M_endsBy, .int M_foundSize, .int M_foundWorth, .int M_foundCut, .ref aM_isOne, .ref aM_isTwo, .int r_1.2, .int M_aside, .int M_byRow, .int M_byAt, .int r_1.1, .int (-4), .int M_slatesBy] _ M_s r_1.1 1 rfl r_14 hg) (cwV 2 hts gX8_ofHanded_X8_leaves rfl rfl rfl cd_X8_leaves ⟨Nat.le_of_ble_eq_true rfl, Nat.le_of_ble_eq_true rfl⟩) hP hD hK hS hA [0, 1] [] [0, 1] (by decide) (by decide) (by decide) (by decide) rfl rfl rfl rfl rfl rfl hl.1 rfl (Nat.le_of_ble_eq_true rfl) dX8_ofHanded_42 ⟨Nat.zero_le _, Nat.zero_le _⟩ (fun H locs hP hD hS => ?_)
      refine lv_aload_n hx hb dX8_ofHanded_45 rfl (lv_at hl 1 rfl) ?_
      refine lv_aload_n hx hb dX8_ofHanded_46 rfl (lv_at hl 1 rfl) ?_
      obtain ⟨r_15, hg, h⟩ := bd_some h
      refine mtVi (As := []) (rest := [.ref aM]) (ci := 7) (wr := []) (w2 := [(aM, .inr (7, [.ref aM_s, .ref aM_image, .ref aM_read, .ref aM_saved, .ref aM_kept, .ref aM_sort, .ref aM_size, .ref aM_element, .ref aM_keptKind, .ref aM_keptFigure, .int M_hasImage, .int M_thrown, .int M_pos, .int M_base, .int M_end, .int M_number, .int M_told, .ref aM_numbers, .ref aM_used, .ref aM_way, .ref aM_found, .int M_wayRow, .int M_wayTo, .int M_ways, .int M_endsBy, .int M_foundSize, .int M_foundWorth, .int M_foundCut, .ref aM_isOne, .ref aM_isTwo, .int r_15.2, .int M_aside, .int M_byRow, .int M_byAt, .int r_1.1, .int (-4), .int M_slatesBy])), (aM_s, .inl (cI, 99, .inl r_14))]) ⟨hx, hb, hml, hown, hts⟩ (k_X8_handed l dC dI cI cZ cS N aM aM_s aM_image aM_read aM_saved aM_kept aM_sort aM_size aM_element aM_keptKind aM_keptFigure aM_numbers aM_used aM_way aM_found aM_isOne aM_isTwo _ r_14 M_hasImage M_thrown M_pos M_base M_end M_number M_told M_wayRow M_wayTo M_ways M_endsBy M_foundSize M_foundWorth M_foundCut r_1.2 M_aside M_byRow M_byAt r_1.1 (-4) M_slatesBy r_15 hg) (cwV 0 hts gX8_ofHanded_X8_handed rfl rfl rfl cd_X8_handed ⟨Nat.le_of_ble_eq_true rfl, Nat.le_of_ble_eq_true rfl⟩) hP hD hK hS hA [0, 1] [] [0, 1] (by decide) (by decide) (by decide) (by decide) rfl rfl rfl rfl rfl rfl hl.1 rfl (Nat.le_of_ble_eq_true rfl) dX8_ofHanded_47 ⟨Nat.zero_le _, Nat.zero_le _⟩ (fun H locs hP hD hS => ?_)
      refine va_put (D := (dC, dI)) (ci := 7) (v := .int r_15.1) (ty := .int) (C := RX8) (T := TX8) (N := 37) hx hb hts (fun _ h => List.mem_cons_of_mem _ (List.mem_append_right _ h)) tyX8 tyX8_ok nmX8 hown hK hP hD hS 0 rfl rfl 35 (by decide) (hts (.fieldLink RX8 274 "SlateRowsModel" "two" "I") (by decide +kernel)) (fun _ h9 => h9) rfl (by decide +kernel) rfl rfl (Nat.le_of_ble_eq_true rfl) dX8_ofHanded_50 (fun H locs hP hD hS => ?_)
      have hP : va_P (dC, dI) vwCl [(aM, .inr (7, [.ref aM_s, .ref aM_image, .ref aM_read, .ref aM_saved, .ref aM_kept, .ref aM_sort, .ref aM_size, .ref aM_element, .ref aM_keptKind, .ref aM_keptFigure, .int M_hasImage, .int M_thrown, .int M_pos, .int M_base, .int M_end, .int M_number, .int M_told, .ref aM_numbers, .ref aM_used, .ref aM_way, .ref aM_found, .int M_wayRow, .int M_wayTo, .int M_ways, .int M_endsBy, .int M_foundSize, .int M_foundWorth, .int M_foundCut, .ref aM_isOne, .ref aM_isTwo, .int r_15.2, .int M_aside, .int M_byRow, .int M_byAt, .int r_1.1, .int r_15.1, .int M_slatesBy])), (aM_s, .inl (cI, 99, .inl r_14))] H := hP
      have hD : va_D A [(aM, .inr (7, [.ref aM_s, .ref aM_image, .ref aM_read, .ref aM_saved, .ref aM_kept, .ref aM_sort, .ref aM_size, .ref aM_element, .ref aM_keptKind, .ref aM_keptFigure, .int M_hasImage, .int M_thrown, .int M_pos, .int M_base, .int M_end, .int M_number, .int M_told, .ref aM_numbers, .ref aM_used, .ref aM_way, .ref aM_found, .int M_wayRow, .int M_wayTo, .int M_ways, .int M_endsBy, .int M_foundSize, .int M_foundWorth, .int M_foundCut, .ref aM_isOne, .ref aM_isTwo, .int r_15.2, .int M_aside, .int M_byRow, .int M_byAt, .int r_1.1, .int r_15.1, .int M_slatesBy])), (aM_s, .inl (cI, 99, .inl r_14))] := hD
      refine lv_aload_n hx hb dX8_ofHanded_53 rfl (lv_at hl 1 rfl) ?_
      refine lv_aload_n hx hb dX8_ofHanded_54 rfl (lv_at hl 1 rfl) ?_
      refine va_get (D := (dC, dI)) (ci := 7) (v := .int r_1.1) (C := RX8) (T := TX8) (N := 37) hx hb hts (fun _ h => List.mem_cons_of_mem _ (List.mem_append_right _ h)) hown hK hP 0 rfl rfl 34 (by decide) (hts (.fieldLink RX8 271 "SlateRowsModel" "one" "I") (by decide +kernel)) (fun _ h9 => h9) rfl dX8_ofHanded_55 ?_
      refine lv_iconst (v := (-1)) hx hb dX8_ofHanded_58 (by decide) ?_
      obtain ⟨r_16, hg, h⟩ := bd_some h
      refine mtVv (As := [.int r_1.1, .int (-1)]) (rest := []) (ci := 7) (wr := []) (w2 := [(aM, .inr (7, [.ref aM_s, .ref aM_image, .ref aM_read, .ref aM_saved, .ref aM_kept, .ref aM_sort, .ref aM_size, .ref aM_element, .ref aM_keptKind, .ref aM_keptFigure, .int M_hasImage, .int M_thrown, .int M_pos, .int M_base, .int M_end, .int M_number, .int M_told, .ref aM_numbers, .ref aM_used, .ref aM_way, .ref aM_found, .int M_wayRow, .int M_wayTo, .int M_ways, .int M_endsBy, .int M_foundSize, .int M_foundWorth, .int M_foundCut, .ref aM_isOne, .ref aM_isTwo, .int r_15.2, .int M_aside, .int M_byRow, .int M_byAt, .int r_1.1, .int r_15.1, .int M_slatesBy])), (aM_s, .inl (cI, 99, .inl r_16))]) ⟨hx, hb, hml, hown, hts⟩ (k_X8_leaves l dC dI cI cZ cS N aM aM_s [.ref aM_s, .ref aM_image, .ref aM_read, .ref aM_saved, .ref aM_kept, .ref aM_sort, .ref aM_size, .ref aM_element, .ref aM_keptKind, .ref aM_keptFigure, .int M_hasImage, .int M_thrown, .int M_pos, .int M_base, .int M_end, .int M_number, .int M_told, .ref aM_numbers, .ref aM_used, .ref aM_way, .ref aM_found, .int M_wayRow, .int M_wayTo, .int M_ways, .int M_endsBy, .int M_foundSize, .int M_foundWorth, .int M_foundCut, .ref aM_isOne, .ref aM_isTwo, .int r_15.2, .int M_aside, .int M_byRow, .int M_byAt, .int r_1.1, .int r_15.1, .int M_slatesBy] _ r_14 r_1.1 (-1) rfl r_16 hg) (cwV 2 hts gX8_ofHanded_X8_leaves rfl rfl rfl cd_X8_leaves ⟨Nat.le_of_ble_eq_true rfl, Nat.le_of_ble_eq_true rfl⟩) hP hD hK hS hA [0, 1] [] [0, 1] (by decide) (by decide) (by decide) (by decide) rfl rfl rfl rfl rfl rfl hl.1 rfl (Nat.le_of_ble_eq_true rfl) dX8_ofHanded_59 ⟨Nat.zero_le _, Nat.zero_le _⟩ (fun H locs hP hD hS => ?_)
      refine lv_aload_n hx hb dX8_ofHanded_62 rfl (lv_at hl 1 rfl) ?_
      refine va_get (D := (dC, dI)) (ci := 7) (v := .int r_15.1) (C := RX8) (T := TX8) (N := 37) hx hb hts (fun _ h => List.mem_cons_of_mem _ (List.mem_append_right _ h)) hown hK hP 0 rfl rfl 35 (by decide) (hts (.fieldLink RX8 274 "SlateRowsModel" "two" "I") (by decide +kernel)) (fun _ h9 => h9) rfl dX8_ofHanded_63 ?_
      refine lv_if_lt (tgt := 85) hx hb dX8_ofHanded_66 (by decide) (fun c_17 => ?_) (fun c_17 => ?_)
      · have h := it_p c_17 h
        refine lv_iconst (v := 0) hx hb dX8_ofHanded_85 (by decide) ?_
        refine lv_istore_n (lv' := [(3, .int 0), (2, .int (b2i r_2)), (0, .ref aM), (1, .int x1)]) hx hb dX8_ofHanded_86 rfl hl (by decide) rfl (fun ls hl => ?_)
        refine lv_iload_n hx hb dX8_ofHanded_87 rfl (lv_at hl 1 rfl) ?_
        refine lv_if_eq (tgt := 121) hx hb dX8_ofHanded_88 (by decide) (fun c_18 => ?_) (fun c_18 => ?_)
        · have h := it_p c_18 h
          refine lv_iload_n hx hb dX8_ofHanded_121 rfl (lv_at hl 0 rfl) ?_
          refine lv_if_eq (tgt := 132) hx hb dX8_ofHanded_122 (by decide) (fun c_19 => ?_) (fun c_19 => ?_)
          · skip
            refine lv_bipush (v := (-4)) hx hb dX8_ofHanded_132 (by decide) ?_
            have h := Option.some.inj h
            exact W.iret hx hb hr (fun t ht hW => ⟨⟨_, (), rfl, by rw [← h], by (try rw [← h]); rw [ht]; exact hP, va_K.moved hW.alike hK, by (try rw [← h]); exact hD⟩, hS.F ht⟩) hS.2.2 dX8_ofHanded_134
          · exact absurd (by decide) c_19
        · have h := it_n c_18 h
          refine lv_iload_n hx hb dX8_ofHanded_91 rfl (lv_at hl 0 rfl) ?_
          refine lv_if_eq (tgt := 114) hx hb dX8_ofHanded_92 (by decide) (fun c_20 => ?_) (fun c_20 => ?_)
          · skip
            refine lv_aload_n hx hb dX8_ofHanded_114 rfl (lv_at hl 2 rfl) ?_
            refine va_get (D := (dC, dI)) (ci := 7) (v := .int r_1.1) (C := RX8) (T := TX8) (N := 37) hx hb hts (fun _ h => List.mem_cons_of_mem _ (List.mem_append_right _ h)) hown hK hP 0 rfl rfl 34 (by decide) (hts (.fieldLink RX8 271 "SlateRowsModel" "one" "I") (by decide +kernel)) (fun _ h9 => h9) rfl dX8_ofHanded_115 ?_
            refine lv_goto (tgt := 134) hx hb dX8_ofHanded_118 (by decide) ?_
            have h := Option.some.inj h
            exact W.iret hx hb hr (fun t ht hW => ⟨⟨_, (), rfl, by rw [← h], by (try rw [← h]); rw [ht]; exact hP, va_K.moved hW.alike hK, by (try rw [← h]); exact hD⟩, hS.F ht⟩) hS.2.2 dX8_ofHanded_134
          · exact absurd (by decide) c_20
      · have h := it_n c_17 h
        refine lv_aload_n hx hb dX8_ofHanded_69 rfl (lv_at hl 1 rfl) ?_
        refine lv_aload_n hx hb dX8_ofHanded_70 rfl (lv_at hl 1 rfl) ?_
        refine va_get (D := (dC, dI)) (ci := 7) (v := .int r_15.1) (C := RX8) (T := TX8) (N := 37) hx hb hts (fun _ h => List.mem_cons_of_mem _ (List.mem_append_right _ h)) hown hK hP 0 rfl rfl 35 (by decide) (hts (.fieldLink RX8 274 "SlateRowsModel" "two" "I") (by decide +kernel)) (fun _ h9 => h9) rfl dX8_ofHanded_71 ?_
        refine lv_iconst (v := 0) hx hb dX8_ofHanded_74 (by decide) ?_
        obtain ⟨r_21, hg, h⟩ := bd_some h
        refine rdV (As := [.int r_15.1, .int 0]) (rest := []) (ci := 7) ⟨hx, hb, hml, hown, hts⟩ (k_X8_canLay l dC dI cI cZ cS N aM aM_s [.ref aM_s, .ref aM_image, .ref aM_read, .ref aM_saved, .ref aM_kept, .ref aM_sort, .ref aM_size, .ref aM_element, .ref aM_keptKind, .ref aM_keptFigure, .int M_hasImage, .int M_thrown, .int M_pos, .int M_base, .int M_end, .int M_number, .int M_told, .ref aM_numbers, .ref aM_used, .ref aM_way, .ref aM_found, .int M_wayRow, .int M_wayTo, .int M_ways, .int M_endsBy, .int M_foundSize, .int M_foundWorth, .int M_foundCut, .ref aM_isOne, .ref aM_isTwo, .int r_15.2, .int M_aside, .int M_byRow, .int M_byAt, .int r_1.1, .int r_15.1, .int M_slatesBy] r_16 M_byRow M_byAt r_15.1 0 rfl rfl rfl r_21 hg) (cwV 2 hts gX8_ofHanded_X8_canLay rfl rfl rfl cd_X8_canLay ⟨Nat.le_of_ble_eq_true rfl, Nat.le_of_ble_eq_true rfl⟩) hP hD hK [0, 1] (by decide) rfl rfl rfl rfl hl.1 rfl (Nat.le_of_ble_eq_true rfl) dX8_ofHanded_75 ⟨Nat.zero_le _, Nat.zero_le _⟩ ?_
        refine lv_if_eq (tgt := 85) hx hb dX8_ofHanded_78 (by decide) (fun c_22 => ?_) (fun c_22 => ?_)
        · have h := it_p c_22 h
          refine lv_iconst (v := 0) hx hb dX8_ofHanded_85 (by decide) ?_
          refine lv_istore_n (lv' := [(3, .int 0), (2, .int (b2i r_2)), (0, .ref aM), (1, .int x1)]) hx hb dX8_ofHanded_86 rfl hl (by decide) rfl (fun ls hl => ?_)
          refine lv_iload_n hx hb dX8_ofHanded_87 rfl (lv_at hl 1 rfl) ?_
          refine lv_if_eq (tgt := 121) hx hb dX8_ofHanded_88 (by decide) (fun c_23 => ?_) (fun c_23 => ?_)
          · have h := it_p c_23 h
            refine lv_iload_n hx hb dX8_ofHanded_121 rfl (lv_at hl 0 rfl) ?_
            refine lv_if_eq (tgt := 132) hx hb dX8_ofHanded_122 (by decide) (fun c_24 => ?_) (fun c_24 => ?_)
            · skip
              refine lv_bipush (v := (-4)) hx hb dX8_ofHanded_132 (by decide) ?_
              have h := Option.some.inj h
              exact W.iret hx hb hr (fun t ht hW => ⟨⟨_, (), rfl, by rw [← h], by (try rw [← h]); rw [ht]; exact hP, va_K.moved hW.alike hK, by (try rw [← h]); exact hD⟩, hS.F ht⟩) hS.2.2 dX8_ofHanded_134
            · exact absurd (by decide) c_24
          · have h := it_n c_23 h
            refine lv_iload_n hx hb dX8_ofHanded_91 rfl (lv_at hl 0 rfl) ?_
            refine lv_if_eq (tgt := 114) hx hb dX8_ofHanded_92 (by decide) (fun c_25 => ?_) (fun c_25 => ?_)
            · skip
              refine lv_aload_n hx hb dX8_ofHanded_114 rfl (lv_at hl 2 rfl) ?_
              refine va_get (D := (dC, dI)) (ci := 7) (v := .int r_1.1) (C := RX8) (T := TX8) (N := 37) hx hb hts (fun _ h => List.mem_cons_of_mem _ (List.mem_append_right _ h)) hown hK hP 0 rfl rfl 34 (by decide) (hts (.fieldLink RX8 271 "SlateRowsModel" "one" "I") (by decide +kernel)) (fun _ h9 => h9) rfl dX8_ofHanded_115 ?_
              refine lv_goto (tgt := 134) hx hb dX8_ofHanded_118 (by decide) ?_
              have h := Option.some.inj h
              exact W.iret hx hb hr (fun t ht hW => ⟨⟨_, (), rfl, by rw [← h], by (try rw [← h]); rw [ht]; exact hP, va_K.moved hW.alike hK, by (try rw [← h]); exact hD⟩, hS.F ht⟩) hS.2.2 dX8_ofHanded_134
            · exact absurd (by decide) c_25
        · have h := it_n c_22 h
          refine lv_iconst (v := 1) hx hb dX8_ofHanded_81 (by decide) ?_
          refine lv_goto (tgt := 86) hx hb dX8_ofHanded_82 (by decide) ?_
          refine lv_istore_n (lv' := [(3, .int 1), (2, .int (b2i r_2)), (0, .ref aM), (1, .int x1)]) hx hb dX8_ofHanded_86 rfl hl (by decide) rfl (fun ls hl => ?_)
          refine lv_iload_n hx hb dX8_ofHanded_87 rfl (lv_at hl 1 rfl) ?_
          refine lv_if_eq (tgt := 121) hx hb dX8_ofHanded_88 (by decide) (fun c_26 => ?_) (fun c_26 => ?_)
          · have h := it_p c_26 h
            refine lv_iload_n hx hb dX8_ofHanded_121 rfl (lv_at hl 0 rfl) ?_
            refine lv_if_eq (tgt := 132) hx hb dX8_ofHanded_122 (by decide) (fun c_27 => ?_) (fun c_27 => ?_)
            · exact absurd c_27 (by decide)
            · skip
              refine lv_aload_n hx hb dX8_ofHanded_125 rfl (lv_at hl 2 rfl) ?_
              refine va_get (D := (dC, dI)) (ci := 7) (v := .int r_15.1) (C := RX8) (T := TX8) (N := 37) hx hb hts (fun _ h => List.mem_cons_of_mem _ (List.mem_append_right _ h)) hown hK hP 0 rfl rfl 35 (by decide) (hts (.fieldLink RX8 274 "SlateRowsModel" "two" "I") (by decide +kernel)) (fun _ h9 => h9) rfl dX8_ofHanded_126 ?_
              refine lv_goto (tgt := 134) hx hb dX8_ofHanded_129 (by decide) ?_
              have h := Option.some.inj h
              exact W.iret hx hb hr (fun t ht hW => ⟨⟨_, (), rfl, by rw [← h], by (try rw [← h]); rw [ht]; exact hP, va_K.moved hW.alike hK, by (try rw [← h]); exact hD⟩, hS.F ht⟩) hS.2.2 dX8_ofHanded_134
          · have h := it_n c_26 h
            refine lv_iload_n hx hb dX8_ofHanded_91 rfl (lv_at hl 0 rfl) ?_
            refine lv_if_eq (tgt := 114) hx hb dX8_ofHanded_92 (by decide) (fun c_28 => ?_) (fun c_28 => ?_)
            · exact absurd c_28 (by decide)
            · skip
              refine lv_aload_n hx hb dX8_ofHanded_95 rfl (lv_at hl 2 rfl) ?_
              refine lv_aload_n hx hb dX8_ofHanded_96 rfl (lv_at hl 2 rfl) ?_
              refine va_get (D := (dC, dI)) (ci := 7) (v := .int r_1.1) (C := RX8) (T := TX8) (N := 37) hx hb hts (fun _ h => List.mem_cons_of_mem _ (List.mem_append_right _ h)) hown hK hP 0 rfl rfl 34 (by decide) (hts (.fieldLink RX8 271 "SlateRowsModel" "one" "I") (by decide +kernel)) (fun _ h9 => h9) rfl dX8_ofHanded_97 ?_
              obtain ⟨r_29, hg, h⟩ := bd_some h
              refine rdV (As := [.int r_1.1]) (rest := []) (ci := 7) ⟨hx, hb, hml, hown, hts⟩ (k_X8_inches l dC dI cI cZ cS N aM aM_s [.ref aM_s, .ref aM_image, .ref aM_read, .ref aM_saved, .ref aM_kept, .ref aM_sort, .ref aM_size, .ref aM_element, .ref aM_keptKind, .ref aM_keptFigure, .int M_hasImage, .int M_thrown, .int M_pos, .int M_base, .int M_end, .int M_number, .int M_told, .ref aM_numbers, .ref aM_used, .ref aM_way, .ref aM_found, .int M_wayRow, .int M_wayTo, .int M_ways, .int M_endsBy, .int M_foundSize, .int M_foundWorth, .int M_foundCut, .ref aM_isOne, .ref aM_isTwo, .int r_15.2, .int M_aside, .int M_byRow, .int M_byAt, .int r_1.1, .int r_15.1, .int M_slatesBy] r_16 r_1.1 rfl r_29 hg) (cwV 1 hts gX8_ofHanded_X8_inches rfl rfl rfl cd_X8_inches ⟨Nat.le_of_ble_eq_true rfl, Nat.le_of_ble_eq_true rfl⟩) hP hD hK [0, 1] (by decide) rfl rfl rfl rfl hl.1 rfl (Nat.le_of_ble_eq_true rfl) dX8_ofHanded_100 ⟨Nat.zero_le _, Nat.zero_le _⟩ ?_
              refine lv_aload_n hx hb dX8_ofHanded_103 rfl (lv_at hl 2 rfl) ?_
              refine lv_aload_n hx hb dX8_ofHanded_104 rfl (lv_at hl 2 rfl) ?_
              refine va_get (D := (dC, dI)) (ci := 7) (v := .int r_15.1) (C := RX8) (T := TX8) (N := 37) hx hb hts (fun _ h => List.mem_cons_of_mem _ (List.mem_append_right _ h)) hown hK hP 0 rfl rfl 35 (by decide) (hts (.fieldLink RX8 274 "SlateRowsModel" "two" "I") (by decide +kernel)) (fun _ h9 => h9) rfl dX8_ofHanded_105 ?_
              obtain ⟨r_30, hg, h⟩ := bd_some h
              refine rdV (As := [.int r_15.1]) (rest := [.int r_29]) (ci := 7) ⟨hx, hb, hml, hown, hts⟩ (k_X8_inches l dC dI cI cZ cS N aM aM_s [.ref aM_s, .ref aM_image, .ref aM_read, .ref aM_saved, .ref aM_kept, .ref aM_sort, .ref aM_size, .ref aM_element, .ref aM_keptKind, .ref aM_keptFigure, .int M_hasImage, .int M_thrown, .int M_pos, .int M_base, .int M_end, .int M_number, .int M_told, .ref aM_numbers, .ref aM_used, .ref aM_way, .ref aM_found, .int M_wayRow, .int M_wayTo, .int M_ways, .int M_endsBy, .int M_foundSize, .int M_foundWorth, .int M_foundCut, .ref aM_isOne, .ref aM_isTwo, .int r_15.2, .int M_aside, .int M_byRow, .int M_byAt, .int r_1.1, .int r_15.1, .int M_slatesBy] r_16 r_15.1 rfl r_30 hg) (cwV 1 hts gX8_ofHanded_X8_inches rfl rfl rfl cd_X8_inches ⟨Nat.le_of_ble_eq_true rfl, Nat.le_of_ble_eq_true rfl⟩) hP hD hK [0, 1] (by decide) rfl rfl rfl rfl hl.1 rfl (Nat.le_of_ble_eq_true rfl) dX8_ofHanded_108 ⟨Nat.zero_le _, Nat.zero_le _⟩ ?_
              refine lv_icmp_lt (tgt := 121) hx hb dX8_ofHanded_111 (by decide) (fun c_31 => ?_) (fun c_31 => ?_)
              · have h := it_p c_31 h
                refine lv_iload_n hx hb dX8_ofHanded_121 rfl (lv_at hl 0 rfl) ?_
                refine lv_if_eq (tgt := 132) hx hb dX8_ofHanded_122 (by decide) (fun c_32 => ?_) (fun c_32 => ?_)
                · exact absurd c_32 (by decide)
                · skip
                  refine lv_aload_n hx hb dX8_ofHanded_125 rfl (lv_at hl 2 rfl) ?_
                  refine va_get (D := (dC, dI)) (ci := 7) (v := .int r_15.1) (C := RX8) (T := TX8) (N := 37) hx hb hts (fun _ h => List.mem_cons_of_mem _ (List.mem_append_right _ h)) hown hK hP 0 rfl rfl 35 (by decide) (hts (.fieldLink RX8 274 "SlateRowsModel" "two" "I") (by decide +kernel)) (fun _ h9 => h9) rfl dX8_ofHanded_126 ?_
                  refine lv_goto (tgt := 134) hx hb dX8_ofHanded_129 (by decide) ?_
                  have h := Option.some.inj h
                  exact W.iret hx hb hr (fun t ht hW => ⟨⟨_, (), rfl, by rw [← h], by (try rw [← h]); rw [ht]; exact hP, va_K.moved hW.alike hK, by (try rw [← h]); exact hD⟩, hS.F ht⟩) hS.2.2 dX8_ofHanded_134
              · have h := it_n c_31 h
                refine lv_aload_n hx hb dX8_ofHanded_114 rfl (lv_at hl 2 rfl) ?_
                refine va_get (D := (dC, dI)) (ci := 7) (v := .int r_1.1) (C := RX8) (T := TX8) (N := 37) hx hb hts (fun _ h => List.mem_cons_of_mem _ (List.mem_append_right _ h)) hown hK hP 0 rfl rfl 34 (by decide) (hts (.fieldLink RX8 271 "SlateRowsModel" "one" "I") (by decide +kernel)) (fun _ h9 => h9) rfl dX8_ofHanded_115 ?_
                refine lv_goto (tgt := 134) hx hb dX8_ofHanded_118 (by decide) ?_
                have h := Option.some.inj h
                exact W.iret hx hb hr (fun t ht hW => ⟨⟨_, (), rfl, by rw [← h], by (try rw [← h]); rw [ht]; exact hP, va_K.moved hW.alike hK, by (try rw [← h]); exact hD⟩, hS.F ht⟩) hS.2.2 dX8_ofHanded_134
