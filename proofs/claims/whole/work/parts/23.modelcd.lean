theorem cd_X8_wrongLaying : yX8_wrongLaying.cls = RX8 ∧ yX8_wrongLaying.cls ≠ "java/lang/invoke/MethodHandle" ∧ yX8_wrongLaying.cls ≠ "java/lang/invoke/VarHandle" ∧ (parseMethodDescriptor yX8_wrongLaying.desc).map (fun d => d.parameters.length) = some 1 := by decide +kernel
theorem cd_X8_by : yX8_by.cls = RX8 ∧ yX8_by.cls ≠ "java/lang/invoke/MethodHandle" ∧ yX8_by.cls ≠ "java/lang/invoke/VarHandle" ∧ (parseMethodDescriptor yX8_by.desc).map (fun d => d.parameters.length) = some 4 := by decide +kernel
theorem cd_X8_image : yX8_image.cls = RX8 ∧ yX8_image.cls ≠ "java/lang/invoke/MethodHandle" ∧ yX8_image.cls ≠ "java/lang/invoke/VarHandle" ∧ (parseMethodDescriptor yX8_image.desc).map (fun d => d.parameters.length) = some 0 := by decide +kernel
def f_X8_wrongLaying (N : Nat) (M_kept : Nat → Int32) (x1 : Int32) : Option (Int32) :=
  (f_X8_isShelf N x1).bind fun r_1 => if (b2i r_1) = 0 then (some ((-1))) else (ck (gi x1 8) (if (M_kept x1.toNatClampNeg) = 0 then (some ((-11))) else (ck (gi x1 8) (if (M_kept x1.toNatClampNeg) = 1 then (some (0)) else (some ((-12)))))))
set_option maxHeartbeats 4000000 in
set_option maxRecDepth 100000 in
theorem k_X8_wrongLaying (l : Launch) (dC : Nat → ClassId) (dI : Nat → Nat → Nat) (cI cZ cS : ClassId) (N : Nat) (aM aM_kept : Nat) (fs_M : List Value) (M_kept : Nat → Int32) (x1 : Int32) (hf_M_kept : fs_M[4]? = some (.ref aM_kept)) (res : Int32) (h : f_X8_wrongLaying N M_kept x1 = some res) : Met l yX8_wrongLaying wsX8_wrongLaying ({ frames := 2, cells := 0, slots := 0, locals := 45 }) (va_Pc [.ref aM, .int x1] (wd (dC, dI) cI cZ cS [(aM, .inr (7, fs_M)), (aM_kept, .inl (cI, 8, .inl M_kept))])) (vp_Si (fun r => r = res)) 0 0 (fun _ => False) := by
  refine Met.ofW (cc := cX8_wrongLaying) (maxL := 2) (ret := (some .int)) (by decide) rfl ?_
  intro p e s m args below meth c s₁ B hml hv
  obtain ⟨rfl, hP, hK, hD⟩ := hv
  have hx := B.exec
  have hb := B.bytes
  have hr := B.returns
  have hts := atoms_spec (ws := wsX8_wrongLaying) B.pre
  have hown : s.vm.findClass RX8 = some m.cls := findClass_of_methodNamed B.named
  have hlocks := B.notSynchronized
  have hl := lv_entry ([.ref aM, .int x1]) (n := 2) (Nat.le_of_ble_eq_true rfl)
  rw [lg_entry_eq]
  generalize (lg_sl ([.ref aM, .int x1]) ++ List.replicate (2 - (lg_sl ([.ref aM, .int x1])).length) Slot.unset).toArray = ls at hl ⊢
  have hl : lv_has ls 2 [(0, .ref aM), (1, .int x1)] := hl
  unfold f_X8_wrongLaying at h
  refine lv_iload_n hx hb dX8_wrongLaying_0 rfl (lv_at hl 1 rfl) ?_
  obtain ⟨r_1, hg, h⟩ := bd_some h
  refine rdS (As := [.int x1]) (rest := []) ⟨hx, hb, hml, hown, hts⟩ (k_X8_isShelf l dC dI cI cZ cS N x1 r_1 hg) (va_cwS 1 hts gX8_wrongLaying_X8_isShelf rfl rfl rfl cd_X8_isShelf ⟨Nat.le_of_ble_eq_true rfl, Nat.le_of_ble_eq_true rfl⟩) hP hD hK [] (by decide) rfl rfl hl.1 rfl (Nat.le_of_ble_eq_true rfl) dX8_wrongLaying_1 ⟨Nat.zero_le _, Nat.zero_le _⟩ ?_
  refine lv_if_ne (tgt := 11) hx hb dX8_wrongLaying_4 (by decide) (fun c_2 => ?_) (fun c_2 => ?_)
  · have h := it_n c_2 h
    refine lv_aload_n hx hb dX8_wrongLaying_11 rfl (lv_at hl 0 rfl) ?_
    refine va_get (D := (dC, dI)) (ci := 7) (v := .ref aM_kept) (C := RX8) (T := TX8) (N := 37) hx hb hts (fun _ h => List.mem_cons_of_mem _ (List.mem_append_right _ h)) hown hK hP 0 rfl rfl 4 (by decide) (hts (.fieldLink RX8 22 "SlateRowsModel" "kept" "[I") (by decide +kernel)) (fun _ h9 => h9) hf_M_kept dX8_wrongLaying_12 ?_
    refine lv_iload_n hx hb dX8_wrongLaying_15 rfl (lv_at hl 1 rfl) ?_
    obtain ⟨hi, h⟩ := ck_some h
    refine va_iald hx hb hK hP 1 0 rfl rfl (gi_in hi) dX8_wrongLaying_16 ?_
    refine lv_if_ne (tgt := 25) hx hb dX8_wrongLaying_17 (by decide) (fun c_3 => ?_) (fun c_3 => ?_)
    · have h := it_n c_3 h
      refine lv_aload_n hx hb dX8_wrongLaying_25 rfl (lv_at hl 0 rfl) ?_
      refine va_get (D := (dC, dI)) (ci := 7) (v := .ref aM_kept) (C := RX8) (T := TX8) (N := 37) hx hb hts (fun _ h => List.mem_cons_of_mem _ (List.mem_append_right _ h)) hown hK hP 0 rfl rfl 4 (by decide) (hts (.fieldLink RX8 22 "SlateRowsModel" "kept" "[I") (by decide +kernel)) (fun _ h9 => h9) hf_M_kept dX8_wrongLaying_26 ?_
      refine lv_iload_n hx hb dX8_wrongLaying_29 rfl (lv_at hl 1 rfl) ?_
      obtain ⟨hi, h⟩ := ck_some h
      refine va_iald hx hb hK hP 1 0 rfl rfl (gi_in hi) dX8_wrongLaying_30 ?_
      refine lv_iconst (v := 1) hx hb dX8_wrongLaying_31 (by decide) ?_
      refine lv_icmp_ne (tgt := 39) hx hb dX8_wrongLaying_32 (by decide) (fun c_4 => ?_) (fun c_4 => ?_)
      · have h := it_n c_4 h
        refine lv_bipush (v := (-12)) hx hb dX8_wrongLaying_39 (by decide) ?_
        exact W.iret hx hb hr (fun t ht hW => ⟨_, rfl, Option.some.inj h, ht⟩) (fun q hq => by cases hq) dX8_wrongLaying_41
      · have h := it_p c_4 h
        refine lv_iconst (v := 0) hx hb dX8_wrongLaying_35 (by decide) ?_
        refine lv_goto (tgt := 41) hx hb dX8_wrongLaying_36 (by decide) ?_
        exact W.iret hx hb hr (fun t ht hW => ⟨_, rfl, Option.some.inj h, ht⟩) (fun q hq => by cases hq) dX8_wrongLaying_41
    · have h := it_p c_3 h
      refine lv_bipush (v := (-11)) hx hb dX8_wrongLaying_20 (by decide) ?_
      refine lv_goto (tgt := 41) hx hb dX8_wrongLaying_22 (by decide) ?_
      exact W.iret hx hb hr (fun t ht hW => ⟨_, rfl, Option.some.inj h, ht⟩) (fun q hq => by cases hq) dX8_wrongLaying_41
  · have h := it_p c_2 h
    refine lv_iconst (v := (-1)) hx hb dX8_wrongLaying_7 (by decide) ?_
    refine lv_goto (tgt := 41) hx hb dX8_wrongLaying_8 (by decide) ?_
    exact W.iret hx hb hr (fun t ht hW => ⟨_, rfl, Option.some.inj h, ht⟩) (fun q hq => by cases hq) dX8_wrongLaying_41
def f_X8_by_L117 (N : Nat) (M_saved : Nat → Int32) (M_kept : Nat → Int32) (M_keptKind : Nat → Int32) (M_keptFigure : Nat → Int32) (M_z : Int32) (M_aside : Int32) (M_byRow : Int32) (M_byAt : Int32) (M_one : Int32) (M_two : Int32) (M_slatesBy : Int32) (x1 : Int32) (x4 : Int32) (x6 : Int32) : Nat → Int32 → (Nat → Int32) → Option (Int32 × (Nat → Int32) × (Nat → Int32) × Int32 × Int32 × Int32 × Int32 × Int32 × Int32 × Int32)
  | 0, _, _ => none
  | n + 1, v7, M_s =>
    if 99 ≤ v7 then (if x6 = 0 then (some ((-4), M_s, M_saved, M_z, M_aside, M_byRow, M_byAt, M_one, M_two, M_slatesBy)) else (if x4 = 0 then (some (M_slatesBy, M_s, M_saved, M_z, M_aside, M_byRow, M_byAt, M_one, M_two, M_slatesBy)) else (if x4 = 1 then ((f_X8_lengthOf N M_s x1).bind fun r_17 => some ((M_byAt - r_17), M_s, M_saved, M_z, M_aside, M_byRow, M_byAt, M_one, M_two, M_slatesBy)) else (some (M_aside, M_s, M_saved, M_z, M_aside, M_byRow, M_byAt, M_one, M_two, M_slatesBy))))) else (ck (gi v7 99) (ck (gi v7 99) (f_X8_by_L117 N M_saved M_kept M_keptKind M_keptFigure M_z M_aside M_byRow M_byAt M_one M_two M_slatesBy x1 x4 x6 n (v7 + 1) (upd M_s v7.toNatClampNeg (M_saved v7.toNatClampNeg)))))
def f_X8_by_L59 (N : Nat) (M_s : Nat → Int32) (M_kept : Nat → Int32) (M_keptKind : Nat → Int32) (M_keptFigure : Nat → Int32) (M_z : Int32) (M_aside : Int32) (M_byRow : Int32) (M_byAt : Int32) (M_one : Int32) (M_two : Int32) (M_slatesBy : Int32) (x1 : Int32) (x2 : Int32) (x3 : Int32) (x4 : Int32) : Nat → Int32 → (Nat → Int32) → Option (Int32 × (Nat → Int32) × (Nat → Int32) × Int32 × Int32 × Int32 × Int32 × Int32 × Int32 × Int32)
  | 0, _, _ => none
  | n + 1, v6, M_saved =>
    if 99 ≤ v6 then (ck (gi x2 8) (ck (gi x2 8) ((f_X8_lays N M_s x3 M_aside x1 M_byAt M_one M_two M_slatesBy (M_keptKind x2.toNatClampNeg) (M_keptFigure x2.toNatClampNeg)).bind fun r_12 => f_X8_by_L117 N M_saved M_kept M_keptKind M_keptFigure r_12.2.2.1 r_12.2.2.2.1 x1 r_12.2.2.2.2.1 r_12.2.2.2.2.2.1 r_12.2.2.2.2.2.2.1 r_12.2.2.2.2.2.2.2 x1 x4 (b2i r_12.1) N 0 r_12.2.1))) else (ck (gi v6 99) (ck (gi v6 99) (f_X8_by_L59 N M_s M_kept M_keptKind M_keptFigure M_z M_aside M_byRow M_byAt M_one M_two M_slatesBy x1 x2 x3 x4 n (v6 + 1) (upd M_saved v6.toNatClampNeg (M_s v6.toNatClampNeg)))))
def f_X8_by (N : Nat) (M_s : Nat → Int32) (M_saved : Nat → Int32) (M_kept : Nat → Int32) (M_keptKind : Nat → Int32) (M_keptFigure : Nat → Int32) (M_z : Int32) (M_aside : Int32) (M_byRow : Int32) (M_byAt : Int32) (M_one : Int32) (M_two : Int32) (M_slatesBy : Int32) (x1 : Int32) (x2 : Int32) (x3 : Int32) (x4 : Int32) : Option (Int32 × (Nat → Int32) × (Nat → Int32) × Int32 × Int32 × Int32 × Int32 × Int32 × Int32 × Int32) :=
  (f_X8_isRow N M_s x1).bind fun r_1 => if (b2i r_1) = 0 then (some ((-1), M_s, M_saved, M_z, M_aside, M_byRow, M_byAt, M_one, M_two, M_slatesBy)) else ((f_X8_isShelf N x2).bind fun r_3 => if (b2i r_3) = 0 then (some ((-1), M_s, M_saved, M_z, M_aside, M_byRow, M_byAt, M_one, M_two, M_slatesBy)) else ((f_X8_isIn N x4.toInt64 0 2).bind fun r_5 => if (b2i r_5) = 0 then (some ((-1), M_s, M_saved, M_z, M_aside, M_byRow, M_byAt, M_one, M_two, M_slatesBy)) else ((f_X8_isLaid N M_s x1).bind fun r_7 => if (b2i r_7) = 0 then ((f_X8_wrongLaying N M_kept x2).bind fun r_9 => if r_9 = 0 then (f_X8_by_L59 N M_s M_kept M_keptKind M_keptFigure M_z M_aside M_byRow M_byAt M_one M_two M_slatesBy x1 x2 x3 x4 N 0 M_saved) else (some (r_9, M_s, M_saved, M_z, M_aside, M_byRow, M_byAt, M_one, M_two, M_slatesBy))) else (some ((-3), M_s, M_saved, M_z, M_aside, M_byRow, M_byAt, M_one, M_two, M_slatesBy)))))
set_option maxHeartbeats 4000000 in
set_option maxRecDepth 100000 in
theorem k_X8_by (l : Launch) (dC : Nat → ClassId) (dI : Nat → Nat → Nat) (cI cZ cS : ClassId) (N : Nat) (aM aM_s aM_saved aM_kept aM_keptKind aM_keptFigure aM_image aM_read aM_sort aM_size aM_element aM_numbers aM_used aM_way aM_found aM_isOne aM_isTwo : Nat) (sz : Nat) (M_s : Nat → Int32) (M_saved : Nat → Int32) (M_kept : Nat → Int32) (M_keptKind : Nat → Int32) (M_keptFigure : Nat → Int32) (M_hasImage : Int32) (M_thrown : Int32) (M_pos : Int32) (M_base : Int32) (M_end : Int32) (M_number : Int32) (M_told : Int32) (M_wayRow : Int32) (M_wayTo : Int32) (M_ways : Int32) (M_endsBy : Int32) (M_foundSize : Int32) (M_foundWorth : Int32) (M_foundCut : Int32) (M_z : Int32) (M_aside : Int32) (M_byRow : Int32) (M_byAt : Int32) (M_one : Int32) (M_two : Int32) (M_slatesBy : Int32) (x1 : Int32) (x2 : Int32) (x3 : Int32) (x4 : Int32) (res : Int32 × (Nat → Int32) × (Nat → Int32) × Int32 × Int32 × Int32 × Int32 × Int32 × Int32 × Int32) (h : f_X8_by N M_s M_saved M_kept M_keptKind M_keptFigure M_z M_aside M_byRow M_byAt M_one M_two M_slatesBy x1 x2 x3 x4 = some res) : Met l yX8_by wsX8_by ({ frames := 6, cells := 0, slots := 0, locals := 140 }) (va_Pc [.ref aM, .int x1, .int x2, .int x3, .int x4] (preW (dC, dI) cI cZ cS [(aM, .inr (7, [.ref aM_s, .ref aM_image, .ref aM_read, .ref aM_saved, .ref aM_kept, .ref aM_sort, .ref aM_size, .ref aM_element, .ref aM_keptKind, .ref aM_keptFigure, .int M_hasImage, .int M_thrown, .int M_pos, .int M_base, .int M_end, .int M_number, .int M_told, .ref aM_numbers, .ref aM_used, .ref aM_way, .ref aM_found, .int M_wayRow, .int M_wayTo, .int M_ways, .int M_endsBy, .int M_foundSize, .int M_foundWorth, .int M_foundCut, .ref aM_isOne, .ref aM_isTwo, .int M_z, .int M_aside, .int M_byRow, .int M_byAt, .int M_one, .int M_two, .int M_slatesBy])), (aM_s, .inl (cI, 99, .inl M_s)), (aM_saved, .inl (cI, 99, .inl M_saved)), (aM_kept, .inl (cI, 8, .inl M_kept)), (aM_keptKind, .inl (cI, 8, .inl M_keptKind)), (aM_keptFigure, .inl (cI, 8, .inl M_keptFigure))] sz)) (va_Qi (fun (r : Int32) (_ : Unit) => r = res.1) (fun _ => qW (dC, dI) cI cZ cS (va_A [(aM, .inr (7, [.ref aM_s, .ref aM_image, .ref aM_read, .ref aM_saved, .ref aM_kept, .ref aM_sort, .ref aM_size, .ref aM_element, .ref aM_keptKind, .ref aM_keptFigure, .int M_hasImage, .int M_thrown, .int M_pos, .int M_base, .int M_end, .int M_number, .int M_told, .ref aM_numbers, .ref aM_used, .ref aM_way, .ref aM_found, .int M_wayRow, .int M_wayTo, .int M_ways, .int M_endsBy, .int M_foundSize, .int M_foundWorth, .int M_foundCut, .ref aM_isOne, .ref aM_isTwo, .int M_z, .int M_aside, .int M_byRow, .int M_byAt, .int M_one, .int M_two, .int M_slatesBy])), (aM_s, .inl (cI, 99, .inl M_s)), (aM_saved, .inl (cI, 99, .inl M_saved)), (aM_kept, .inl (cI, 8, .inl M_kept)), (aM_keptKind, .inl (cI, 8, .inl M_keptKind)), (aM_keptFigure, .inl (cI, 8, .inl M_keptFigure))] sz) [(aM, .inr (7, [.ref aM_s, .ref aM_image, .ref aM_read, .ref aM_saved, .ref aM_kept, .ref aM_sort, .ref aM_size, .ref aM_element, .ref aM_keptKind, .ref aM_keptFigure, .int M_hasImage, .int M_thrown, .int M_pos, .int M_base, .int M_end, .int M_number, .int M_told, .ref aM_numbers, .ref aM_used, .ref aM_way, .ref aM_found, .int M_wayRow, .int M_wayTo, .int M_ways, .int M_endsBy, .int M_foundSize, .int M_foundWorth, .int M_foundCut, .ref aM_isOne, .ref aM_isTwo, .int res.2.2.2.1, .int res.2.2.2.2.1, .int res.2.2.2.2.2.1, .int res.2.2.2.2.2.2.1, .int res.2.2.2.2.2.2.2.1, .int res.2.2.2.2.2.2.2.2.1, .int res.2.2.2.2.2.2.2.2.2])), (aM_s, .inl (cI, 99, .inl res.2.1)), (aM_saved, .inl (cI, 99, .inl res.2.2.1)), (aM_kept, .inl (cI, 8, .inl M_kept)), (aM_keptKind, .inl (cI, 8, .inl M_keptKind)), (aM_keptFigure, .inl (cI, 8, .inl M_keptFigure))]) (va_A [(aM, .inr (7, [.ref aM_s, .ref aM_image, .ref aM_read, .ref aM_saved, .ref aM_kept, .ref aM_sort, .ref aM_size, .ref aM_element, .ref aM_keptKind, .ref aM_keptFigure, .int M_hasImage, .int M_thrown, .int M_pos, .int M_base, .int M_end, .int M_number, .int M_told, .ref aM_numbers, .ref aM_used, .ref aM_way, .ref aM_found, .int M_wayRow, .int M_wayTo, .int M_ways, .int M_endsBy, .int M_foundSize, .int M_foundWorth, .int M_foundCut, .ref aM_isOne, .ref aM_isTwo, .int M_z, .int M_aside, .int M_byRow, .int M_byAt, .int M_one, .int M_two, .int M_slatesBy])), (aM_s, .inl (cI, 99, .inl M_s)), (aM_saved, .inl (cI, 99, .inl M_saved)), (aM_kept, .inl (cI, 8, .inl M_kept)), (aM_keptKind, .inl (cI, 8, .inl M_keptKind)), (aM_keptFigure, .inl (cI, 8, .inl M_keptFigure))] sz)) 0 0 (va_A [(aM, .inr (7, [.ref aM_s, .ref aM_image, .ref aM_read, .ref aM_saved, .ref aM_kept, .ref aM_sort, .ref aM_size, .ref aM_element, .ref aM_keptKind, .ref aM_keptFigure, .int M_hasImage, .int M_thrown, .int M_pos, .int M_base, .int M_end, .int M_number, .int M_told, .ref aM_numbers, .ref aM_used, .ref aM_way, .ref aM_found, .int M_wayRow, .int M_wayTo, .int M_ways, .int M_endsBy, .int M_foundSize, .int M_foundWorth, .int M_foundCut, .ref aM_isOne, .ref aM_isTwo, .int M_z, .int M_aside, .int M_byRow, .int M_byAt, .int M_one, .int M_two, .int M_slatesBy])), (aM_s, .inl (cI, 99, .inl M_s)), (aM_saved, .inl (cI, 99, .inl M_saved)), (aM_kept, .inl (cI, 8, .inl M_kept)), (aM_keptKind, .inl (cI, 8, .inl M_keptKind)), (aM_keptFigure, .inl (cI, 8, .inl M_keptFigure))] sz) := by
  refine Met.ofW (cc := cX8_by) (maxL := 8) (ret := (some .int)) (by decide) rfl ?_
  intro p e s m args below meth c s₁ B hml hv
  obtain ⟨rfl, hsz, hP, hK, hD0⟩ := hv
  have hx := B.exec
  have hb := B.bytes
  have hr := B.returns
  have hts := atoms_spec (ws := wsX8_by) B.pre
  have hown : s.vm.findClass RX8 = some m.cls := findClass_of_methodNamed B.named
  have hlocks := B.notSynchronized
  subst hsz
  have hD := hD0.self (sz := s.heap.size)
  generalize hAe : va_A [(aM, .inr (7, [.ref aM_s, .ref aM_image, .ref aM_read, .ref aM_saved, .ref aM_kept, .ref aM_sort, .ref aM_size, .ref aM_element, .ref aM_keptKind, .ref aM_keptFigure, .int M_hasImage, .int M_thrown, .int M_pos, .int M_base, .int M_end, .int M_number, .int M_told, .ref aM_numbers, .ref aM_used, .ref aM_way, .ref aM_found, .int M_wayRow, .int M_wayTo, .int M_ways, .int M_endsBy, .int M_foundSize, .int M_foundWorth, .int M_foundCut, .ref aM_isOne, .ref aM_isTwo, .int M_z, .int M_aside, .int M_byRow, .int M_byAt, .int M_one, .int M_two, .int M_slatesBy])), (aM_s, .inl (cI, 99, .inl M_s)), (aM_saved, .inl (cI, 99, .inl M_saved)), (aM_kept, .inl (cI, 8, .inl M_kept)), (aM_keptKind, .inl (cI, 8, .inl M_keptKind)), (aM_keptFigure, .inl (cI, 8, .inl M_keptFigure))] s.heap.size = A at hD ⊢
  have hA : ∀ q : Nat, s.heap.size ≤ q → A q := fun q h => by rw [← hAe]; exact Or.inr h
  have hS : va_S A s.heap s.heap [] := va_S.rf
  have hl := lv_entry ([.ref aM, .int x1, .int x2, .int x3, .int x4]) (n := 8) (Nat.le_of_ble_eq_true rfl)
  rw [lg_entry_eq]
  generalize (lg_sl ([.ref aM, .int x1, .int x2, .int x3, .int x4]) ++ List.replicate (8 - (lg_sl ([.ref aM, .int x1, .int x2, .int x3, .int x4])).length) Slot.unset).toArray = ls at hl ⊢
  have hl : lv_has ls 8 [(0, .ref aM), (1, .int x1), (2, .int x2), (3, .int x3), (4, .int x4)] := hl
  unfold f_X8_by at h
  refine lv_aload_n hx hb dX8_by_0 rfl (lv_at hl 0 rfl) ?_
  refine lv_iload_n hx hb dX8_by_1 rfl (lv_at hl 1 rfl) ?_
  obtain ⟨r_1, hg, h⟩ := bd_some h
  refine rdV (As := [.int x1]) (rest := []) (ci := 7) ⟨hx, hb, hml, hown, hts⟩ (k_X8_isRow l dC dI cI cZ cS N aM aM_s [.ref aM_s, .ref aM_image, .ref aM_read, .ref aM_saved, .ref aM_kept, .ref aM_sort, .ref aM_size, .ref aM_element, .ref aM_keptKind, .ref aM_keptFigure, .int M_hasImage, .int M_thrown, .int M_pos, .int M_base, .int M_end, .int M_number, .int M_told, .ref aM_numbers, .ref aM_used, .ref aM_way, .ref aM_found, .int M_wayRow, .int M_wayTo, .int M_ways, .int M_endsBy, .int M_foundSize, .int M_foundWorth, .int M_foundCut, .ref aM_isOne, .ref aM_isTwo, .int M_z, .int M_aside, .int M_byRow, .int M_byAt, .int M_one, .int M_two, .int M_slatesBy] M_s x1 rfl r_1 hg) (cwV 1 hts gX8_by_X8_isRow rfl rfl rfl cd_X8_isRow ⟨Nat.le_of_ble_eq_true rfl, Nat.le_of_ble_eq_true rfl⟩) hP hD hK [0, 1] (by decide) rfl rfl rfl rfl hl.1 rfl (Nat.le_of_ble_eq_true rfl) dX8_by_2 ⟨Nat.zero_le _, Nat.zero_le _⟩ ?_
  refine lv_if_eq (tgt := 28) hx hb dX8_by_5 (by decide) (fun c_2 => ?_) (fun c_2 => ?_)
  · have h := it_p c_2 h
    refine lv_iconst (v := (-1)) hx hb dX8_by_28 (by decide) ?_
    have h := Option.some.inj h
    exact W.iret hx hb hr (fun t ht hW => ⟨⟨_, (), rfl, by rw [← h], by (try rw [← h]); rw [ht]; exact hP, va_K.moved hW.alike hK, by (try rw [← h]); exact hD⟩, hS.F ht⟩) hS.2.2 dX8_by_29
  · have h := it_n c_2 h
    refine lv_iload_n hx hb dX8_by_8 rfl (lv_at hl 2 rfl) ?_
    obtain ⟨r_3, hg, h⟩ := bd_some h
    refine rdS (As := [.int x2]) (rest := []) ⟨hx, hb, hml, hown, hts⟩ (k_X8_isShelf l dC dI cI cZ cS N x2 r_3 hg) (va_cwS 1 hts gX8_by_X8_isShelf rfl rfl rfl cd_X8_isShelf ⟨Nat.le_of_ble_eq_true rfl, Nat.le_of_ble_eq_true rfl⟩) hP hD hK [] (by decide) rfl rfl hl.1 rfl (Nat.le_of_ble_eq_true rfl) dX8_by_9 ⟨Nat.zero_le _, Nat.zero_le _⟩ ?_
    refine lv_if_eq (tgt := 28) hx hb dX8_by_12 (by decide) (fun c_4 => ?_) (fun c_4 => ?_)
    · have h := it_p c_4 h
      refine lv_iconst (v := (-1)) hx hb dX8_by_28 (by decide) ?_
      have h := Option.some.inj h
      exact W.iret hx hb hr (fun t ht hW => ⟨⟨_, (), rfl, by rw [← h], by (try rw [← h]); rw [ht]; exact hP, va_K.moved hW.alike hK, by (try rw [← h]); exact hD⟩, hS.F ht⟩) hS.2.2 dX8_by_29
    · have h := it_n c_4 h
      refine lv_iload hx hb dX8_by_15 (lv_at hl 4 rfl) ?_
      refine lv_i2l hx hb dX8_by_17 rfl ?_
      refine lv_lconst (v := 0) hx hb dX8_by_18 (by decide) ?_
      refine lv_ldc2 (v := 2) hx hb hown (hts (.constantLong RX8 128 (2)) (by decide +kernel)) dX8_by_19 ?_
      obtain ⟨r_5, hg, h⟩ := bd_some h
      refine rdS (As := [.long x4.toInt64, .long 0, .long 2]) (rest := []) ⟨hx, hb, hml, hown, hts⟩ (k_X8_isIn l dC dI cI cZ cS N x4.toInt64 0 2 r_5 hg) (va_cwS 3 hts gX8_by_X8_isIn rfl rfl rfl cd_X8_isIn ⟨Nat.le_of_ble_eq_true rfl, Nat.le_of_ble_eq_true rfl⟩) hP hD hK [] (by decide) rfl rfl hl.1 rfl (Nat.le_of_ble_eq_true rfl) dX8_by_22 ⟨Nat.zero_le _, Nat.zero_le _⟩ ?_
      refine lv_if_ne (tgt := 30) hx hb dX8_by_25 (by decide) (fun c_6 => ?_) (fun c_6 => ?_)
      · have h := it_n c_6 h
        refine lv_aload_n hx hb dX8_by_30 rfl (lv_at hl 0 rfl) ?_
        refine lv_iload_n hx hb dX8_by_31 rfl (lv_at hl 1 rfl) ?_
        obtain ⟨r_7, hg, h⟩ := bd_some h
        refine rdV (As := [.int x1]) (rest := []) (ci := 7) ⟨hx, hb, hml, hown, hts⟩ (k_X8_isLaid l dC dI cI cZ cS N aM aM_s [.ref aM_s, .ref aM_image, .ref aM_read, .ref aM_saved, .ref aM_kept, .ref aM_sort, .ref aM_size, .ref aM_element, .ref aM_keptKind, .ref aM_keptFigure, .int M_hasImage, .int M_thrown, .int M_pos, .int M_base, .int M_end, .int M_number, .int M_told, .ref aM_numbers, .ref aM_used, .ref aM_way, .ref aM_found, .int M_wayRow, .int M_wayTo, .int M_ways, .int M_endsBy, .int M_foundSize, .int M_foundWorth, .int M_foundCut, .ref aM_isOne, .ref aM_isTwo, .int M_z, .int M_aside, .int M_byRow, .int M_byAt, .int M_one, .int M_two, .int M_slatesBy] M_s x1 rfl r_7 hg) (cwV 1 hts gX8_by_X8_isLaid rfl rfl rfl cd_X8_isLaid ⟨Nat.le_of_ble_eq_true rfl, Nat.le_of_ble_eq_true rfl⟩) hP hD hK [0, 1] (by decide) rfl rfl rfl rfl hl.1 rfl (Nat.le_of_ble_eq_true rfl) dX8_by_32 ⟨Nat.zero_le _, Nat.zero_le _⟩ ?_
        refine lv_if_eq (tgt := 41) hx hb dX8_by_35 (by decide) (fun c_8 => ?_) (fun c_8 => ?_)
        · have h := it_p c_8 h
          refine lv_aload_n hx hb dX8_by_41 rfl (lv_at hl 0 rfl) ?_
          refine lv_iload_n hx hb dX8_by_42 rfl (lv_at hl 2 rfl) ?_
          obtain ⟨r_9, hg, h⟩ := bd_some h
          refine rdV (As := [.int x2]) (rest := []) (ci := 7) ⟨hx, hb, hml, hown, hts⟩ (k_X8_wrongLaying l dC dI cI cZ cS N aM aM_kept [.ref aM_s, .ref aM_image, .ref aM_read, .ref aM_saved, .ref aM_kept, .ref aM_sort, .ref aM_size, .ref aM_element, .ref aM_keptKind, .ref aM_keptFigure, .int M_hasImage, .int M_thrown, .int M_pos, .int M_base, .int M_end, .int M_number, .int M_told, .ref aM_numbers, .ref aM_used, .ref aM_way, .ref aM_found, .int M_wayRow, .int M_wayTo, .int M_ways, .int M_endsBy, .int M_foundSize, .int M_foundWorth, .int M_foundCut, .ref aM_isOne, .ref aM_isTwo, .int M_z, .int M_aside, .int M_byRow, .int M_byAt, .int M_one, .int M_two, .int M_slatesBy] M_kept x2 rfl r_9 hg) (cwV 1 hts gX8_by_X8_wrongLaying rfl rfl rfl cd_X8_wrongLaying ⟨Nat.le_of_ble_eq_true rfl, Nat.le_of_ble_eq_true rfl⟩) hP hD hK [0, 3] (by decide) rfl rfl rfl rfl hl.1 rfl (Nat.le_of_ble_eq_true rfl) dX8_by_43 ⟨Nat.zero_le _, Nat.zero_le _⟩ ?_
          refine lv_istore (lv' := [(5, .int r_9), (0, .ref aM), (1, .int x1), (2, .int x2), (3, .int x3), (4, .int x4)]) hx hb dX8_by_46 hl (by decide) rfl (fun ls hl => ?_)
          refine lv_iload hx hb dX8_by_48 (lv_at hl 0 rfl) ?_
          refine lv_if_eq (tgt := 56) hx hb dX8_by_50 (by decide) (fun c_10 => ?_) (fun c_10 => ?_)
          · have h := it_p c_10 h
            refine lv_iconst (v := 0) hx hb dX8_by_56 (by decide) ?_
            refine lv_istore (lv' := [(6, .int 0), (5, .int r_9), (0, .ref aM), (1, .int x1), (2, .int x2), (3, .int x3), (4, .int x4)]) hx hb dX8_by_57 hl (by decide) rfl (fun ls hl => ?_)
            have L59_25 : ∀ (n_26 : Nat) (v6_27 : Int32) (M_saved_28 : Nat → Int32) (ls : Array Slot) (H : Heap) (locs : List Loc), f_X8_by_L59 N M_s M_kept M_keptKind M_keptFigure M_z M_aside M_byRow M_byAt M_one M_two M_slatesBy x1 x2 x3 x4 n_26 v6_27 M_saved_28 = some res → lv_has ls 8 [(0, .ref aM), (1, .int x1), (2, .int x2), (3, .int x3), (4, .int x4), (6, .int v6_27)] → va_P (dC, dI) vwCl [(aM, .inr (7, [.ref aM_s, .ref aM_image, .ref aM_read, .ref aM_saved, .ref aM_kept, .ref aM_sort, .ref aM_size, .ref aM_element, .ref aM_keptKind, .ref aM_keptFigure, .int M_hasImage, .int M_thrown, .int M_pos, .int M_base, .int M_end, .int M_number, .int M_told, .ref aM_numbers, .ref aM_used, .ref aM_way, .ref aM_found, .int M_wayRow, .int M_wayTo, .int M_ways, .int M_endsBy, .int M_foundSize, .int M_foundWorth, .int M_foundCut, .ref aM_isOne, .ref aM_isTwo, .int M_z, .int M_aside, .int M_byRow, .int M_byAt, .int M_one, .int M_two, .int M_slatesBy])), (aM_s, .inl (cI, 99, .inl M_s)), (aM_saved, .inl (cI, 99, .inl M_saved_28)), (aM_kept, .inl (cI, 8, .inl M_kept)), (aM_keptKind, .inl (cI, 8, .inl M_keptKind)), (aM_keptFigure, .inl (cI, 8, .inl M_keptFigure))] H → va_D A [(aM, .inr (7, [.ref aM_s, .ref aM_image, .ref aM_read, .ref aM_saved, .ref aM_kept, .ref aM_sort, .ref aM_size, .ref aM_element, .ref aM_keptKind, .ref aM_keptFigure, .int M_hasImage, .int M_thrown, .int M_pos, .int M_base, .int M_end, .int M_number, .int M_told, .ref aM_numbers, .ref aM_used, .ref aM_way, .ref aM_found, .int M_wayRow, .int M_wayTo, .int M_ways, .int M_endsBy, .int M_foundSize, .int M_foundWorth, .int M_foundCut, .ref aM_isOne, .ref aM_isTwo, .int M_z, .int M_aside, .int M_byRow, .int M_byAt, .int M_one, .int M_two, .int M_slatesBy])), (aM_s, .inl (cI, 99, .inl M_s)), (aM_saved, .inl (cI, 99, .inl M_saved_28)), (aM_kept, .inl (cI, 8, .inl M_kept)), (aM_keptKind, .inl (cI, 8, .inl M_keptKind)), (aM_keptFigure, .inl (cI, 8, .inl M_keptFigure))] → va_S A s.heap H locs → W p l e (headSpec wsX8_by ({ frames := 6, cells := 0, slots := 0, locals := 140 })).room s m ([.ref aM, .int x1, .int x2, .int x3, .int x4] : List Value).toArray below meth c H locs 0 0 (MQ below (va_Qi (fun (r : Int32) (_ : Unit) => r = res.1) (fun _ => qW (dC, dI) cI cZ cS A [(aM, .inr (7, [.ref aM_s, .ref aM_image, .ref aM_read, .ref aM_saved, .ref aM_kept, .ref aM_sort, .ref aM_size, .ref aM_element, .ref aM_keptKind, .ref aM_keptFigure, .int M_hasImage, .int M_thrown, .int M_pos, .int M_base, .int M_end, .int M_number, .int M_told, .ref aM_numbers, .ref aM_used, .ref aM_way, .ref aM_found, .int M_wayRow, .int M_wayTo, .int M_ways, .int M_endsBy, .int M_foundSize, .int M_foundWorth, .int M_foundCut, .ref aM_isOne, .ref aM_isTwo, .int res.2.2.2.1, .int res.2.2.2.2.1, .int res.2.2.2.2.2.1, .int res.2.2.2.2.2.2.1, .int res.2.2.2.2.2.2.2.1, .int res.2.2.2.2.2.2.2.2.1, .int res.2.2.2.2.2.2.2.2.2])), (aM_s, .inl (cI, 99, .inl res.2.1)), (aM_saved, .inl (cI, 99, .inl res.2.2.1)), (aM_kept, .inl (cI, 8, .inl M_kept)), (aM_keptKind, .inl (cI, 8, .inl M_keptKind)), (aM_keptFigure, .inl (cI, 8, .inl M_keptFigure))]) A) ([.ref aM, .int x1, .int x2, .int x3, .int x4] : List Value).toArray s 0 0 A) (F0 m 59 ls []) := by
              intro n_26
              induction n_26 with
              | zero =>
                intro v6_27 M_saved_28 ls H locs h
                simp only [f_X8_by_L59] at h
                try exact absurd h (by simp)
              | succ n_26 ihn_26 =>
                intro v6_27 M_saved_28 ls H locs h hl hP hD hS
                rw [f_X8_by_L59] at h
                refine lv_iload hx hb dX8_by_59 (lv_at hl 5 rfl) ?_
                refine lv_bipush (v := 99) hx hb dX8_by_61 (by decide) ?_
                refine lv_icmp_ge (tgt := 86) hx hb dX8_by_63 (by decide) (fun c_29 => ?_) (fun c_29 => ?_)
                · have h := it_p c_29 h
                  refine lv_aload_n hx hb dX8_by_86 rfl (lv_at hl 0 rfl) ?_
                  refine lv_iload_n hx hb dX8_by_87 rfl (lv_at hl 3 rfl) ?_
                  refine va_put (D := (dC, dI)) (ci := 7) (v := .int x3) (ty := .int) (C := RX8) (T := TX8) (N := 37) hx hb hts (fun _ h => List.mem_cons_of_mem _ (List.mem_append_right _ h)) tyX8 tyX8_ok nmX8 hown hK hP hD hS 0 rfl rfl 30 (by decide) (hts (.fieldLink RX8 252 "SlateRowsModel" "z" "I") (by decide +kernel)) (fun _ h9 => h9) rfl (by decide +kernel) rfl rfl (Nat.le_of_ble_eq_true rfl) dX8_by_88 (fun H locs hP hD hS => ?_)
                  have hP : va_P (dC, dI) vwCl [(aM, .inr (7, [.ref aM_s, .ref aM_image, .ref aM_read, .ref aM_saved, .ref aM_kept, .ref aM_sort, .ref aM_size, .ref aM_element, .ref aM_keptKind, .ref aM_keptFigure, .int M_hasImage, .int M_thrown, .int M_pos, .int M_base, .int M_end, .int M_number, .int M_told, .ref aM_numbers, .ref aM_used, .ref aM_way, .ref aM_found, .int M_wayRow, .int M_wayTo, .int M_ways, .int M_endsBy, .int M_foundSize, .int M_foundWorth, .int M_foundCut, .ref aM_isOne, .ref aM_isTwo, .int x3, .int M_aside, .int M_byRow, .int M_byAt, .int M_one, .int M_two, .int M_slatesBy])), (aM_s, .inl (cI, 99, .inl M_s)), (aM_saved, .inl (cI, 99, .inl M_saved_28)), (aM_kept, .inl (cI, 8, .inl M_kept)), (aM_keptKind, .inl (cI, 8, .inl M_keptKind)), (aM_keptFigure, .inl (cI, 8, .inl M_keptFigure))] H := hP
                  have hD : va_D A [(aM, .inr (7, [.ref aM_s, .ref aM_image, .ref aM_read, .ref aM_saved, .ref aM_kept, .ref aM_sort, .ref aM_size, .ref aM_element, .ref aM_keptKind, .ref aM_keptFigure, .int M_hasImage, .int M_thrown, .int M_pos, .int M_base, .int M_end, .int M_number, .int M_told, .ref aM_numbers, .ref aM_used, .ref aM_way, .ref aM_found, .int M_wayRow, .int M_wayTo, .int M_ways, .int M_endsBy, .int M_foundSize, .int M_foundWorth, .int M_foundCut, .ref aM_isOne, .ref aM_isTwo, .int x3, .int M_aside, .int M_byRow, .int M_byAt, .int M_one, .int M_two, .int M_slatesBy])), (aM_s, .inl (cI, 99, .inl M_s)), (aM_saved, .inl (cI, 99, .inl M_saved_28)), (aM_kept, .inl (cI, 8, .inl M_kept)), (aM_keptKind, .inl (cI, 8, .inl M_keptKind)), (aM_keptFigure, .inl (cI, 8, .inl M_keptFigure))] := hD
                  refine lv_aload_n hx hb dX8_by_91 rfl (lv_at hl 0 rfl) ?_
                  refine lv_iload_n hx hb dX8_by_92 rfl (lv_at hl 1 rfl) ?_
                  refine va_put (D := (dC, dI)) (ci := 7) (v := .int x1) (ty := .int) (C := RX8) (T := TX8) (N := 37) hx hb hts (fun _ h => List.mem_cons_of_mem _ (List.mem_append_right _ h)) tyX8 tyX8_ok nmX8 hown hK hP hD hS 0 rfl rfl 32 (by decide) (hts (.fieldLink RX8 249 "SlateRowsModel" "byRow" "I") (by decide +kernel)) (fun _ h9 => h9) rfl (by decide +kernel) rfl rfl (Nat.le_of_ble_eq_true rfl) dX8_by_93 (fun H locs hP hD hS => ?_)
                  have hP : va_P (dC, dI) vwCl [(aM, .inr (7, [.ref aM_s, .ref aM_image, .ref aM_read, .ref aM_saved, .ref aM_kept, .ref aM_sort, .ref aM_size, .ref aM_element, .ref aM_keptKind, .ref aM_keptFigure, .int M_hasImage, .int M_thrown, .int M_pos, .int M_base, .int M_end, .int M_number, .int M_told, .ref aM_numbers, .ref aM_used, .ref aM_way, .ref aM_found, .int M_wayRow, .int M_wayTo, .int M_ways, .int M_endsBy, .int M_foundSize, .int M_foundWorth, .int M_foundCut, .ref aM_isOne, .ref aM_isTwo, .int x3, .int M_aside, .int x1, .int M_byAt, .int M_one, .int M_two, .int M_slatesBy])), (aM_s, .inl (cI, 99, .inl M_s)), (aM_saved, .inl (cI, 99, .inl M_saved_28)), (aM_kept, .inl (cI, 8, .inl M_kept)), (aM_keptKind, .inl (cI, 8, .inl M_keptKind)), (aM_keptFigure, .inl (cI, 8, .inl M_keptFigure))] H := hP
                  have hD : va_D A [(aM, .inr (7, [.ref aM_s, .ref aM_image, .ref aM_read, .ref aM_saved, .ref aM_kept, .ref aM_sort, .ref aM_size, .ref aM_element, .ref aM_keptKind, .ref aM_keptFigure, .int M_hasImage, .int M_thrown, .int M_pos, .int M_base, .int M_end, .int M_number, .int M_told, .ref aM_numbers, .ref aM_used, .ref aM_way, .ref aM_found, .int M_wayRow, .int M_wayTo, .int M_ways, .int M_endsBy, .int M_foundSize, .int M_foundWorth, .int M_foundCut, .ref aM_isOne, .ref aM_isTwo, .int x3, .int M_aside, .int x1, .int M_byAt, .int M_one, .int M_two, .int M_slatesBy])), (aM_s, .inl (cI, 99, .inl M_s)), (aM_saved, .inl (cI, 99, .inl M_saved_28)), (aM_kept, .inl (cI, 8, .inl M_kept)), (aM_keptKind, .inl (cI, 8, .inl M_keptKind)), (aM_keptFigure, .inl (cI, 8, .inl M_keptFigure))] := hD
                  refine lv_aload_n hx hb dX8_by_96 rfl (lv_at hl 0 rfl) ?_
                  refine lv_aload_n hx hb dX8_by_97 rfl (lv_at hl 0 rfl) ?_
                  refine va_get (D := (dC, dI)) (ci := 7) (v := .ref aM_keptKind) (C := RX8) (T := TX8) (N := 37) hx hb hts (fun _ h => List.mem_cons_of_mem _ (List.mem_append_right _ h)) hown hK hP 0 rfl rfl 8 (by decide) (hts (.fieldLink RX8 34 "SlateRowsModel" "keptKind" "[I") (by decide +kernel)) (fun _ h9 => h9) rfl dX8_by_98 ?_
                  refine lv_iload_n hx hb dX8_by_101 rfl (lv_at hl 2 rfl) ?_
                  obtain ⟨hi, h⟩ := ck_some h
                  refine va_iald hx hb hK hP 4 0 rfl rfl (gi_in hi) dX8_by_102 ?_
                  refine lv_aload_n hx hb dX8_by_103 rfl (lv_at hl 0 rfl) ?_
                  refine va_get (D := (dC, dI)) (ci := 7) (v := .ref aM_keptFigure) (C := RX8) (T := TX8) (N := 37) hx hb hts (fun _ h => List.mem_cons_of_mem _ (List.mem_append_right _ h)) hown hK hP 0 rfl rfl 9 (by decide) (hts (.fieldLink RX8 37 "SlateRowsModel" "keptFigure" "[I") (by decide +kernel)) (fun _ h9 => h9) rfl dX8_by_104 ?_
                  refine lv_iload_n hx hb dX8_by_107 rfl (lv_at hl 2 rfl) ?_
                  obtain ⟨hi, h⟩ := ck_some h
                  refine va_iald hx hb hK hP 5 0 rfl rfl (gi_in hi) dX8_by_108 ?_
                  obtain ⟨r_30, hg, h⟩ := bd_some h
                  refine mtVi (As := [.int (M_keptKind x2.toNatClampNeg), .int (M_keptFigure x2.toNatClampNeg)]) (rest := []) (ci := 7) (wr := [(aM_saved, .inl (cI, 99, .inl M_saved_28)), (aM_kept, .inl (cI, 8, .inl M_kept)), (aM_keptKind, .inl (cI, 8, .inl M_keptKind)), (aM_keptFigure, .inl (cI, 8, .inl M_keptFigure))]) (w2 := [(aM, .inr (7, [.ref aM_s, .ref aM_image, .ref aM_read, .ref aM_saved, .ref aM_kept, .ref aM_sort, .ref aM_size, .ref aM_element, .ref aM_keptKind, .ref aM_keptFigure, .int M_hasImage, .int M_thrown, .int M_pos, .int M_base, .int M_end, .int M_number, .int M_told, .ref aM_numbers, .ref aM_used, .ref aM_way, .ref aM_found, .int M_wayRow, .int M_wayTo, .int M_ways, .int M_endsBy, .int M_foundSize, .int M_foundWorth, .int M_foundCut, .ref aM_isOne, .ref aM_isTwo, .int r_30.2.2.1, .int r_30.2.2.2.1, .int x1, .int r_30.2.2.2.2.1, .int r_30.2.2.2.2.2.1, .int r_30.2.2.2.2.2.2.1, .int r_30.2.2.2.2.2.2.2])), (aM_s, .inl (cI, 99, .inl r_30.2.1)), (aM_saved, .inl (cI, 99, .inl M_saved_28)), (aM_kept, .inl (cI, 8, .inl M_kept)), (aM_keptKind, .inl (cI, 8, .inl M_keptKind)), (aM_keptFigure, .inl (cI, 8, .inl M_keptFigure))]) ⟨hx, hb, hml, hown, hts⟩ (k_X8_lays l dC dI cI cZ cS N aM aM_s aM_image aM_read aM_saved aM_kept aM_sort aM_size aM_element aM_keptKind aM_keptFigure aM_numbers aM_used aM_way aM_found aM_isOne aM_isTwo _ M_s M_hasImage M_thrown M_pos M_base M_end M_number M_told M_wayRow M_wayTo M_ways M_endsBy M_foundSize M_foundWorth M_foundCut x3 M_aside x1 M_byAt M_one M_two M_slatesBy (M_keptKind x2.toNatClampNeg) (M_keptFigure x2.toNatClampNeg) r_30 hg) (cwV 2 hts gX8_by_X8_lays rfl rfl rfl cd_X8_lays ⟨Nat.le_of_ble_eq_true rfl, Nat.le_of_ble_eq_true rfl⟩) hP hD hK hS hA [0, 1] [2, 3, 4, 5] [4, 5, 0, 1, 2, 3] (by decide) (by decide) (by decide) (by decide) rfl rfl rfl rfl rfl rfl hl.1 rfl (Nat.le_of_ble_eq_true rfl) dX8_by_109 ⟨Nat.zero_le _, Nat.zero_le _⟩ (fun H locs hP hD hS => ?_)
                  refine lv_istore (lv' := [(6, .int (b2i r_30.1)), (0, .ref aM), (1, .int x1), (2, .int x2), (3, .int x3), (4, .int x4)]) hx hb dX8_by_112 hl (by decide) rfl (fun ls hl => ?_)
                  refine lv_iconst (v := 0) hx hb dX8_by_114 (by decide) ?_
                  refine lv_istore (lv' := [(7, .int 0), (6, .int (b2i r_30.1)), (0, .ref aM), (1, .int x1), (2, .int x2), (3, .int x3), (4, .int x4)]) hx hb dX8_by_115 hl (by decide) rfl (fun ls hl => ?_)
                  have L117_30 : ∀ (n_31 : Nat) (v7_32 : Int32) (M_s_33 : Nat → Int32) (ls : Array Slot) (H : Heap) (locs : List Loc), f_X8_by_L117 N M_saved_28 M_kept M_keptKind M_keptFigure r_30.2.2.1 r_30.2.2.2.1 x1 r_30.2.2.2.2.1 r_30.2.2.2.2.2.1 r_30.2.2.2.2.2.2.1 r_30.2.2.2.2.2.2.2 x1 x4 (b2i r_30.1) n_31 v7_32 M_s_33 = some res → lv_has ls 8 [(0, .ref aM), (1, .int x1), (4, .int x4), (6, .int (b2i r_30.1)), (7, .int v7_32)] → va_P (dC, dI) vwCl [(aM, .inr (7, [.ref aM_s, .ref aM_image, .ref aM_read, .ref aM_saved, .ref aM_kept, .ref aM_sort, .ref aM_size, .ref aM_element, .ref aM_keptKind, .ref aM_keptFigure, .int M_hasImage, .int M_thrown, .int M_pos, .int M_base, .int M_end, .int M_number, .int M_told, .ref aM_numbers, .ref aM_used, .ref aM_way, .ref aM_found, .int M_wayRow, .int M_wayTo, .int M_ways, .int M_endsBy, .int M_foundSize, .int M_foundWorth, .int M_foundCut, .ref aM_isOne, .ref aM_isTwo, .int r_30.2.2.1, .int r_30.2.2.2.1, .int x1, .int r_30.2.2.2.2.1, .int r_30.2.2.2.2.2.1, .int r_30.2.2.2.2.2.2.1, .int r_30.2.2.2.2.2.2.2])), (aM_s, .inl (cI, 99, .inl M_s_33)), (aM_saved, .inl (cI, 99, .inl M_saved_28)), (aM_kept, .inl (cI, 8, .inl M_kept)), (aM_keptKind, .inl (cI, 8, .inl M_keptKind)), (aM_keptFigure, .inl (cI, 8, .inl M_keptFigure))] H → va_D A [(aM, .inr (7, [.ref aM_s, .ref aM_image, .ref aM_read, .ref aM_saved, .ref aM_kept, .ref aM_sort, .ref aM_size, .ref aM_element, .ref aM_keptKind, .ref aM_keptFigure, .int M_hasImage, .int M_thrown, .int M_pos, .int M_base, .int M_end, .int M_number, .int M_told, .ref aM_numbers, .ref aM_used, .ref aM_way, .ref aM_found, .int M_wayRow, .int M_wayTo, .int M_ways, .int M_endsBy, .int M_foundSize, .int M_foundWorth, .int M_foundCut, .ref aM_isOne, .ref aM_isTwo, .int r_30.2.2.1, .int r_30.2.2.2.1, .int x1, .int r_30.2.2.2.2.1, .int r_30.2.2.2.2.2.1, .int r_30.2.2.2.2.2.2.1, .int r_30.2.2.2.2.2.2.2])), (aM_s, .inl (cI, 99, .inl M_s_33)), (aM_saved, .inl (cI, 99, .inl M_saved_28)), (aM_kept, .inl (cI, 8, .inl M_kept)), (aM_keptKind, .inl (cI, 8, .inl M_keptKind)), (aM_keptFigure, .inl (cI, 8, .inl M_keptFigure))] → va_S A s.heap H locs → W p l e (headSpec wsX8_by ({ frames := 6, cells := 0, slots := 0, locals := 140 })).room s m ([.ref aM, .int x1, .int x2, .int x3, .int x4] : List Value).toArray below meth c H locs 0 0 (MQ below (va_Qi (fun (r : Int32) (_ : Unit) => r = res.1) (fun _ => qW (dC, dI) cI cZ cS A [(aM, .inr (7, [.ref aM_s, .ref aM_image, .ref aM_read, .ref aM_saved, .ref aM_kept, .ref aM_sort, .ref aM_size, .ref aM_element, .ref aM_keptKind, .ref aM_keptFigure, .int M_hasImage, .int M_thrown, .int M_pos, .int M_base, .int M_end, .int M_number, .int M_told, .ref aM_numbers, .ref aM_used, .ref aM_way, .ref aM_found, .int M_wayRow, .int M_wayTo, .int M_ways, .int M_endsBy, .int M_foundSize, .int M_foundWorth, .int M_foundCut, .ref aM_isOne, .ref aM_isTwo, .int res.2.2.2.1, .int res.2.2.2.2.1, .int res.2.2.2.2.2.1, .int res.2.2.2.2.2.2.1, .int res.2.2.2.2.2.2.2.1, .int res.2.2.2.2.2.2.2.2.1, .int res.2.2.2.2.2.2.2.2.2])), (aM_s, .inl (cI, 99, .inl res.2.1)), (aM_saved, .inl (cI, 99, .inl res.2.2.1)), (aM_kept, .inl (cI, 8, .inl M_kept)), (aM_keptKind, .inl (cI, 8, .inl M_keptKind)), (aM_keptFigure, .inl (cI, 8, .inl M_keptFigure))]) A) ([.ref aM, .int x1, .int x2, .int x3, .int x4] : List Value).toArray s 0 0 A) (F0 m 117 ls []) := by
                    intro n_31
                    induction n_31 with
                    | zero =>
                      intro v7_32 M_s_33 ls H locs h
                      simp only [f_X8_by_L117] at h
                      try exact absurd h (by simp)
                    | succ n_31 ihn_31 =>
                      intro v7_32 M_s_33 ls H locs h hl hP hD hS
                      rw [f_X8_by_L117] at h
                      refine lv_iload hx hb dX8_by_117 (lv_at hl 4 rfl) ?_
                      refine lv_bipush (v := 99) hx hb dX8_by_119 (by decide) ?_
                      refine lv_icmp_ge (tgt := 144) hx hb dX8_by_121 (by decide) (fun c_34 => ?_) (fun c_34 => ?_)
                      · have h := it_p c_34 h
                        refine lv_iload hx hb dX8_by_144 (lv_at hl 3 rfl) ?_
                        refine lv_if_ne (tgt := 154) hx hb dX8_by_146 (by decide) (fun c_35 => ?_) (fun c_35 => ?_)
                        · have h := it_n c_35 h
                          refine lv_iload hx hb dX8_by_154 (lv_at hl 2 rfl) ?_
                          refine lv_if_ne (tgt := 166) hx hb dX8_by_156 (by decide) (fun c_36 => ?_) (fun c_36 => ?_)
                          · have h := it_n c_36 h
                            refine lv_iload hx hb dX8_by_166 (lv_at hl 2 rfl) ?_
                            refine lv_iconst (v := 1) hx hb dX8_by_168 (by decide) ?_
                            refine lv_icmp_ne (tgt := 185) hx hb dX8_by_169 (by decide) (fun c_37 => ?_) (fun c_37 => ?_)
                            · have h := it_n c_37 h
                              refine lv_aload_n hx hb dX8_by_185 rfl (lv_at hl 0 rfl) ?_
                              refine va_get (D := (dC, dI)) (ci := 7) (v := .int r_30.2.2.2.1) (C := RX8) (T := TX8) (N := 37) hx hb hts (fun _ h => List.mem_cons_of_mem _ (List.mem_append_right _ h)) hown hK hP 0 rfl rfl 31 (by decide) (hts (.fieldLink RX8 277 "SlateRowsModel" "aside" "I") (by decide +kernel)) (fun _ h9 => h9) rfl dX8_by_186 ?_
                              have h := Option.some.inj h
                              exact W.iret hx hb hr (fun t ht hW => ⟨⟨_, (), rfl, by rw [← h], by (try rw [← h]); rw [ht]; exact hP, va_K.moved hW.alike hK, by (try rw [← h]); exact hD⟩, hS.F ht⟩) hS.2.2 dX8_by_189
                            · have h := it_p c_37 h
                              refine lv_aload_n hx hb dX8_by_172 rfl (lv_at hl 0 rfl) ?_
                              refine va_get (D := (dC, dI)) (ci := 7) (v := .int r_30.2.2.2.2.1) (C := RX8) (T := TX8) (N := 37) hx hb hts (fun _ h => List.mem_cons_of_mem _ (List.mem_append_right _ h)) hown hK hP 0 rfl rfl 33 (by decide) (hts (.fieldLink RX8 246 "SlateRowsModel" "byAt" "I") (by decide +kernel)) (fun _ h9 => h9) rfl dX8_by_173 ?_
                              refine lv_aload_n hx hb dX8_by_176 rfl (lv_at hl 0 rfl) ?_
                              refine lv_iload_n hx hb dX8_by_177 rfl (lv_at hl 1 rfl) ?_
                              obtain ⟨r_38, hg, h⟩ := bd_some h
                              refine rdV (As := [.int x1]) (rest := [.int r_30.2.2.2.2.1]) (ci := 7) ⟨hx, hb, hml, hown, hts⟩ (k_X8_lengthOf l dC dI cI cZ cS N aM aM_s [.ref aM_s, .ref aM_image, .ref aM_read, .ref aM_saved, .ref aM_kept, .ref aM_sort, .ref aM_size, .ref aM_element, .ref aM_keptKind, .ref aM_keptFigure, .int M_hasImage, .int M_thrown, .int M_pos, .int M_base, .int M_end, .int M_number, .int M_told, .ref aM_numbers, .ref aM_used, .ref aM_way, .ref aM_found, .int M_wayRow, .int M_wayTo, .int M_ways, .int M_endsBy, .int M_foundSize, .int M_foundWorth, .int M_foundCut, .ref aM_isOne, .ref aM_isTwo, .int r_30.2.2.1, .int r_30.2.2.2.1, .int x1, .int r_30.2.2.2.2.1, .int r_30.2.2.2.2.2.1, .int r_30.2.2.2.2.2.2.1, .int r_30.2.2.2.2.2.2.2] M_s_33 x1 rfl r_38 hg) (cwV 1 hts gX8_by_X8_lengthOf rfl rfl rfl cd_X8_lengthOf ⟨Nat.le_of_ble_eq_true rfl, Nat.le_of_ble_eq_true rfl⟩) hP hD hK [0, 1] (by decide) rfl rfl rfl rfl hl.1 rfl (Nat.le_of_ble_eq_true rfl) dX8_by_178 ⟨Nat.zero_le _, Nat.zero_le _⟩ ?_
                              refine lv_isub hx hb dX8_by_181 ?_
                              refine lv_goto (tgt := 189) hx hb dX8_by_182 (by decide) ?_
                              have h := Option.some.inj h
                              exact W.iret hx hb hr (fun t ht hW => ⟨⟨_, (), rfl, by rw [← h], by (try rw [← h]); rw [ht]; exact hP, va_K.moved hW.alike hK, by (try rw [← h]); exact hD⟩, hS.F ht⟩) hS.2.2 dX8_by_189
                          · have h := it_p c_36 h
                            refine lv_aload_n hx hb dX8_by_159 rfl (lv_at hl 0 rfl) ?_
                            refine va_get (D := (dC, dI)) (ci := 7) (v := .int r_30.2.2.2.2.2.2.2) (C := RX8) (T := TX8) (N := 37) hx hb hts (fun _ h => List.mem_cons_of_mem _ (List.mem_append_right _ h)) hown hK hP 0 rfl rfl 36 (by decide) (hts (.fieldLink RX8 280 "SlateRowsModel" "slatesBy" "I") (by decide +kernel)) (fun _ h9 => h9) rfl dX8_by_160 ?_
                            refine lv_goto (tgt := 189) hx hb dX8_by_163 (by decide) ?_
                            have h := Option.some.inj h
                            exact W.iret hx hb hr (fun t ht hW => ⟨⟨_, (), rfl, by rw [← h], by (try rw [← h]); rw [ht]; exact hP, va_K.moved hW.alike hK, by (try rw [← h]); exact hD⟩, hS.F ht⟩) hS.2.2 dX8_by_189
                        · have h := it_p c_35 h
                          refine lv_bipush (v := (-4)) hx hb dX8_by_149 (by decide) ?_
                          refine lv_goto (tgt := 189) hx hb dX8_by_151 (by decide) ?_
                          have h := Option.some.inj h
                          exact W.iret hx hb hr (fun t ht hW => ⟨⟨_, (), rfl, by rw [← h], by (try rw [← h]); rw [ht]; exact hP, va_K.moved hW.alike hK, by (try rw [← h]); exact hD⟩, hS.F ht⟩) hS.2.2 dX8_by_189
                      · have h := it_n c_34 h
                        refine lv_aload_n hx hb dX8_by_124 rfl (lv_at hl 0 rfl) ?_
                        refine va_get (D := (dC, dI)) (ci := 7) (v := .ref aM_s) (C := RX8) (T := TX8) (N := 37) hx hb hts (fun _ h => List.mem_cons_of_mem _ (List.mem_append_right _ h)) hown hK hP 0 rfl rfl 0 (by decide) (hts (.fieldLink RX8 9 "SlateRowsModel" "s" "[I") (by decide +kernel)) (fun _ h9 => h9) rfl dX8_by_125 ?_
                        refine lv_iload hx hb dX8_by_128 (lv_at hl 4 rfl) ?_
                        refine lv_aload_n hx hb dX8_by_130 rfl (lv_at hl 0 rfl) ?_
                        refine va_get (D := (dC, dI)) (ci := 7) (v := .ref aM_saved) (C := RX8) (T := TX8) (N := 37) hx hb hts (fun _ h => List.mem_cons_of_mem _ (List.mem_append_right _ h)) hown hK hP 0 rfl rfl 3 (by decide) (hts (.fieldLink RX8 19 "SlateRowsModel" "saved" "[I") (by decide +kernel)) (fun _ h9 => h9) rfl dX8_by_131 ?_
                        refine lv_iload hx hb dX8_by_134 (lv_at hl 4 rfl) ?_
                        obtain ⟨hi, h⟩ := ck_some h
                        refine va_iald hx hb hK hP 2 0 rfl rfl (gi_in hi) dX8_by_136 ?_
                        obtain ⟨hi, h⟩ := ck_some h
                        refine va_iast hx hb hK hP hD hS 1 0 rfl rfl (gi_in hi) dX8_by_137 (fun H locs hP hD hS => ?_)
                        have hP : va_P (dC, dI) vwCl [(aM, .inr (7, [.ref aM_s, .ref aM_image, .ref aM_read, .ref aM_saved, .ref aM_kept, .ref aM_sort, .ref aM_size, .ref aM_element, .ref aM_keptKind, .ref aM_keptFigure, .int M_hasImage, .int M_thrown, .int M_pos, .int M_base, .int M_end, .int M_number, .int M_told, .ref aM_numbers, .ref aM_used, .ref aM_way, .ref aM_found, .int M_wayRow, .int M_wayTo, .int M_ways, .int M_endsBy, .int M_foundSize, .int M_foundWorth, .int M_foundCut, .ref aM_isOne, .ref aM_isTwo, .int r_30.2.2.1, .int r_30.2.2.2.1, .int x1, .int r_30.2.2.2.2.1, .int r_30.2.2.2.2.2.1, .int r_30.2.2.2.2.2.2.1, .int r_30.2.2.2.2.2.2.2])), (aM_s, .inl (cI, 99, .inl (upd M_s_33 v7_32.toNatClampNeg (M_saved_28 v7_32.toNatClampNeg)))), (aM_saved, .inl (cI, 99, .inl M_saved_28)), (aM_kept, .inl (cI, 8, .inl M_kept)), (aM_keptKind, .inl (cI, 8, .inl M_keptKind)), (aM_keptFigure, .inl (cI, 8, .inl M_keptFigure))] H := hP
                        have hD : va_D A [(aM, .inr (7, [.ref aM_s, .ref aM_image, .ref aM_read, .ref aM_saved, .ref aM_kept, .ref aM_sort, .ref aM_size, .ref aM_element, .ref aM_keptKind, .ref aM_keptFigure, .int M_hasImage, .int M_thrown, .int M_pos, .int M_base, .int M_end, .int M_number, .int M_told, .ref aM_numbers, .ref aM_used, .ref aM_way, .ref aM_found, .int M_wayRow, .int M_wayTo, .int M_ways, .int M_endsBy, .int M_foundSize, .int M_foundWorth, .int M_foundCut, .ref aM_isOne, .ref aM_isTwo, .int r_30.2.2.1, .int r_30.2.2.2.1, .int x1, .int r_30.2.2.2.2.1, .int r_30.2.2.2.2.2.1, .int r_30.2.2.2.2.2.2.1, .int r_30.2.2.2.2.2.2.2])), (aM_s, .inl (cI, 99, .inl (upd M_s_33 v7_32.toNatClampNeg (M_saved_28 v7_32.toNatClampNeg)))), (aM_saved, .inl (cI, 99, .inl M_saved_28)), (aM_kept, .inl (cI, 8, .inl M_kept)), (aM_keptKind, .inl (cI, 8, .inl M_keptKind)), (aM_keptFigure, .inl (cI, 8, .inl M_keptFigure))] := hD
                        refine lv_iinc (v := (v7_32 + 1)) (lv' := [(7, .int (v7_32 + 1)), (0, .ref aM), (1, .int x1), (4, .int x4), (6, .int (b2i r_30.1))]) hx hb dX8_by_138 hl (k := 4) rfl rfl (by decide) rfl (fun ls hl => ?_)
                        refine lv_goto (tgt := 117) hx hb dX8_by_141 (by decide) ?_
                        exact ihn_31 (v7_32 + 1) (upd M_s_33 v7_32.toNatClampNeg (M_saved_28 v7_32.toNatClampNeg)) ls _ _ h (lv_sub hl [1, 2, 3, 4, 0] rfl) hP hD hS
                  exact L117_30 N 0 r_30.2.1 ls _ _ h (lv_sub hl [2, 3, 6, 1, 0] rfl) hP hD hS
                · have h := it_n c_29 h
                  refine lv_aload_n hx hb dX8_by_66 rfl (lv_at hl 0 rfl) ?_
                  refine va_get (D := (dC, dI)) (ci := 7) (v := .ref aM_saved) (C := RX8) (T := TX8) (N := 37) hx hb hts (fun _ h => List.mem_cons_of_mem _ (List.mem_append_right _ h)) hown hK hP 0 rfl rfl 3 (by decide) (hts (.fieldLink RX8 19 "SlateRowsModel" "saved" "[I") (by decide +kernel)) (fun _ h9 => h9) rfl dX8_by_67 ?_
                  refine lv_iload hx hb dX8_by_70 (lv_at hl 5 rfl) ?_
                  refine lv_aload_n hx hb dX8_by_72 rfl (lv_at hl 0 rfl) ?_
                  refine va_get (D := (dC, dI)) (ci := 7) (v := .ref aM_s) (C := RX8) (T := TX8) (N := 37) hx hb hts (fun _ h => List.mem_cons_of_mem _ (List.mem_append_right _ h)) hown hK hP 0 rfl rfl 0 (by decide) (hts (.fieldLink RX8 9 "SlateRowsModel" "s" "[I") (by decide +kernel)) (fun _ h9 => h9) rfl dX8_by_73 ?_
                  refine lv_iload hx hb dX8_by_76 (lv_at hl 5 rfl) ?_
                  obtain ⟨hi, h⟩ := ck_some h
                  refine va_iald hx hb hK hP 1 0 rfl rfl (gi_in hi) dX8_by_78 ?_
                  obtain ⟨hi, h⟩ := ck_some h
                  refine va_iast hx hb hK hP hD hS 2 0 rfl rfl (gi_in hi) dX8_by_79 (fun H locs hP hD hS => ?_)
                  have hP : va_P (dC, dI) vwCl [(aM, .inr (7, [.ref aM_s, .ref aM_image, .ref aM_read, .ref aM_saved, .ref aM_kept, .ref aM_sort, .ref aM_size, .ref aM_element, .ref aM_keptKind, .ref aM_keptFigure, .int M_hasImage, .int M_thrown, .int M_pos, .int M_base, .int M_end, .int M_number, .int M_told, .ref aM_numbers, .ref aM_used, .ref aM_way, .ref aM_found, .int M_wayRow, .int M_wayTo, .int M_ways, .int M_endsBy, .int M_foundSize, .int M_foundWorth, .int M_foundCut, .ref aM_isOne, .ref aM_isTwo, .int M_z, .int M_aside, .int M_byRow, .int M_byAt, .int M_one, .int M_two, .int M_slatesBy])), (aM_s, .inl (cI, 99, .inl M_s)), (aM_saved, .inl (cI, 99, .inl (upd M_saved_28 v6_27.toNatClampNeg (M_s v6_27.toNatClampNeg)))), (aM_kept, .inl (cI, 8, .inl M_kept)), (aM_keptKind, .inl (cI, 8, .inl M_keptKind)), (aM_keptFigure, .inl (cI, 8, .inl M_keptFigure))] H := hP
                  have hD : va_D A [(aM, .inr (7, [.ref aM_s, .ref aM_image, .ref aM_read, .ref aM_saved, .ref aM_kept, .ref aM_sort, .ref aM_size, .ref aM_element, .ref aM_keptKind, .ref aM_keptFigure, .int M_hasImage, .int M_thrown, .int M_pos, .int M_base, .int M_end, .int M_number, .int M_told, .ref aM_numbers, .ref aM_used, .ref aM_way, .ref aM_found, .int M_wayRow, .int M_wayTo, .int M_ways, .int M_endsBy, .int M_foundSize, .int M_foundWorth, .int M_foundCut, .ref aM_isOne, .ref aM_isTwo, .int M_z, .int M_aside, .int M_byRow, .int M_byAt, .int M_one, .int M_two, .int M_slatesBy])), (aM_s, .inl (cI, 99, .inl M_s)), (aM_saved, .inl (cI, 99, .inl (upd M_saved_28 v6_27.toNatClampNeg (M_s v6_27.toNatClampNeg)))), (aM_kept, .inl (cI, 8, .inl M_kept)), (aM_keptKind, .inl (cI, 8, .inl M_keptKind)), (aM_keptFigure, .inl (cI, 8, .inl M_keptFigure))] := hD
                  refine lv_iinc (v := (v6_27 + 1)) (lv' := [(6, .int (v6_27 + 1)), (0, .ref aM), (1, .int x1), (2, .int x2), (3, .int x3), (4, .int x4)]) hx hb dX8_by_80 hl (k := 5) rfl rfl (by decide) rfl (fun ls hl => ?_)
                  refine lv_goto (tgt := 59) hx hb dX8_by_83 (by decide) ?_
                  exact ihn_26 (v6_27 + 1) (upd M_saved_28 v6_27.toNatClampNeg (M_s v6_27.toNatClampNeg)) ls _ _ h (lv_sub hl [1, 2, 3, 4, 5, 0] rfl) hP hD hS
            exact L59_25 N 0 M_saved ls _ _ h (lv_sub hl [2, 3, 4, 5, 6, 0] rfl) hP hD hS
          · have h := it_n c_10 h
            refine lv_iload hx hb dX8_by_53 (lv_at hl 0 rfl) ?_
            have h := Option.some.inj h
            exact W.iret hx hb hr (fun t ht hW => ⟨⟨_, (), rfl, by rw [← h], by (try rw [← h]); rw [ht]; exact hP, va_K.moved hW.alike hK, by (try rw [← h]); exact hD⟩, hS.F ht⟩) hS.2.2 dX8_by_55
        · have h := it_n c_8 h
          refine lv_bipush (v := (-3)) hx hb dX8_by_38 (by decide) ?_
          have h := Option.some.inj h
          exact W.iret hx hb hr (fun t ht hW => ⟨⟨_, (), rfl, by rw [← h], by (try rw [← h]); rw [ht]; exact hP, va_K.moved hW.alike hK, by (try rw [← h]); exact hD⟩, hS.F ht⟩) hS.2.2 dX8_by_40
      · have h := it_p c_6 h
        refine lv_iconst (v := (-1)) hx hb dX8_by_28 (by decide) ?_
        have h := Option.some.inj h
        exact W.iret hx hb hr (fun t ht hW => ⟨⟨_, (), rfl, by rw [← h], by (try rw [← h]); rw [ht]; exact hP, va_K.moved hW.alike hK, by (try rw [← h]); exact hD⟩, hS.F ht⟩) hS.2.2 dX8_by_29
def f_X8_image_L2 (N : Nat) (M_s : Nat → Int32) (M_hasImage : Int32) : Nat → Int32 → (Nat → Int32) → Option (Int32 × (Nat → Int32) × Int32)
  | 0, _, _ => none
  | n + 1, v1, M_image =>
    if 99 ≤ v1 then (ck (gi 2 99) (some ((M_s (2 : Int32).toNatClampNeg), M_image, 1))) else (ck (gi v1 99) (ck (gi v1 99) (f_X8_image_L2 N M_s M_hasImage n (v1 + 1) (upd M_image v1.toNatClampNeg (M_s v1.toNatClampNeg)))))
def f_X8_image (N : Nat) (M_s : Nat → Int32) (M_image : Nat → Int32) (M_hasImage : Int32) : Option (Int32 × (Nat → Int32) × Int32) :=
  f_X8_image_L2 N M_s M_hasImage N 0 M_image
set_option maxHeartbeats 4000000 in
set_option maxRecDepth 100000 in
theorem k_X8_image (l : Launch) (dC : Nat → ClassId) (dI : Nat → Nat → Nat) (cI cZ cS : ClassId) (N : Nat) (aM aM_s aM_image aM_read aM_saved aM_kept aM_sort aM_size aM_element aM_keptKind aM_keptFigure aM_numbers aM_used aM_way aM_found aM_isOne aM_isTwo : Nat) (sz : Nat) (M_s : Nat → Int32) (M_image : Nat → Int32) (M_hasImage : Int32) (M_thrown : Int32) (M_pos : Int32) (M_base : Int32) (M_end : Int32) (M_number : Int32) (M_told : Int32) (M_wayRow : Int32) (M_wayTo : Int32) (M_ways : Int32) (M_endsBy : Int32) (M_foundSize : Int32) (M_foundWorth : Int32) (M_foundCut : Int32) (M_z : Int32) (M_aside : Int32) (M_byRow : Int32) (M_byAt : Int32) (M_one : Int32) (M_two : Int32) (M_slatesBy : Int32) (res : Int32 × (Nat → Int32) × Int32) (h : f_X8_image N M_s M_image M_hasImage = some res) : Met l yX8_image wsX8_image ({ frames := 0, cells := 0, slots := 0, locals := 0 }) (va_Pc [.ref aM] (preW (dC, dI) cI cZ cS [(aM, .inr (7, [.ref aM_s, .ref aM_image, .ref aM_read, .ref aM_saved, .ref aM_kept, .ref aM_sort, .ref aM_size, .ref aM_element, .ref aM_keptKind, .ref aM_keptFigure, .int M_hasImage, .int M_thrown, .int M_pos, .int M_base, .int M_end, .int M_number, .int M_told, .ref aM_numbers, .ref aM_used, .ref aM_way, .ref aM_found, .int M_wayRow, .int M_wayTo, .int M_ways, .int M_endsBy, .int M_foundSize, .int M_foundWorth, .int M_foundCut, .ref aM_isOne, .ref aM_isTwo, .int M_z, .int M_aside, .int M_byRow, .int M_byAt, .int M_one, .int M_two, .int M_slatesBy])), (aM_s, .inl (cI, 99, .inl M_s)), (aM_image, .inl (cI, 99, .inl M_image))] sz)) (va_Qi (fun (r : Int32) (_ : Unit) => r = res.1) (fun _ => qW (dC, dI) cI cZ cS (va_A [(aM, .inr (7, [.ref aM_s, .ref aM_image, .ref aM_read, .ref aM_saved, .ref aM_kept, .ref aM_sort, .ref aM_size, .ref aM_element, .ref aM_keptKind, .ref aM_keptFigure, .int M_hasImage, .int M_thrown, .int M_pos, .int M_base, .int M_end, .int M_number, .int M_told, .ref aM_numbers, .ref aM_used, .ref aM_way, .ref aM_found, .int M_wayRow, .int M_wayTo, .int M_ways, .int M_endsBy, .int M_foundSize, .int M_foundWorth, .int M_foundCut, .ref aM_isOne, .ref aM_isTwo, .int M_z, .int M_aside, .int M_byRow, .int M_byAt, .int M_one, .int M_two, .int M_slatesBy])), (aM_s, .inl (cI, 99, .inl M_s)), (aM_image, .inl (cI, 99, .inl M_image))] sz) [(aM, .inr (7, [.ref aM_s, .ref aM_image, .ref aM_read, .ref aM_saved, .ref aM_kept, .ref aM_sort, .ref aM_size, .ref aM_element, .ref aM_keptKind, .ref aM_keptFigure, .int res.2.2, .int M_thrown, .int M_pos, .int M_base, .int M_end, .int M_number, .int M_told, .ref aM_numbers, .ref aM_used, .ref aM_way, .ref aM_found, .int M_wayRow, .int M_wayTo, .int M_ways, .int M_endsBy, .int M_foundSize, .int M_foundWorth, .int M_foundCut, .ref aM_isOne, .ref aM_isTwo, .int M_z, .int M_aside, .int M_byRow, .int M_byAt, .int M_one, .int M_two, .int M_slatesBy])), (aM_s, .inl (cI, 99, .inl M_s)), (aM_image, .inl (cI, 99, .inl res.2.1))]) (va_A [(aM, .inr (7, [.ref aM_s, .ref aM_image, .ref aM_read, .ref aM_saved, .ref aM_kept, .ref aM_sort, .ref aM_size, .ref aM_element, .ref aM_keptKind, .ref aM_keptFigure, .int M_hasImage, .int M_thrown, .int M_pos, .int M_base, .int M_end, .int M_number, .int M_told, .ref aM_numbers, .ref aM_used, .ref aM_way, .ref aM_found, .int M_wayRow, .int M_wayTo, .int M_ways, .int M_endsBy, .int M_foundSize, .int M_foundWorth, .int M_foundCut, .ref aM_isOne, .ref aM_isTwo, .int M_z, .int M_aside, .int M_byRow, .int M_byAt, .int M_one, .int M_two, .int M_slatesBy])), (aM_s, .inl (cI, 99, .inl M_s)), (aM_image, .inl (cI, 99, .inl M_image))] sz)) 0 0 (va_A [(aM, .inr (7, [.ref aM_s, .ref aM_image, .ref aM_read, .ref aM_saved, .ref aM_kept, .ref aM_sort, .ref aM_size, .ref aM_element, .ref aM_keptKind, .ref aM_keptFigure, .int M_hasImage, .int M_thrown, .int M_pos, .int M_base, .int M_end, .int M_number, .int M_told, .ref aM_numbers, .ref aM_used, .ref aM_way, .ref aM_found, .int M_wayRow, .int M_wayTo, .int M_ways, .int M_endsBy, .int M_foundSize, .int M_foundWorth, .int M_foundCut, .ref aM_isOne, .ref aM_isTwo, .int M_z, .int M_aside, .int M_byRow, .int M_byAt, .int M_one, .int M_two, .int M_slatesBy])), (aM_s, .inl (cI, 99, .inl M_s)), (aM_image, .inl (cI, 99, .inl M_image))] sz) := by
  refine Met.ofW (cc := cX8_image) (maxL := 2) (ret := (some .int)) (by decide) rfl ?_
  intro p e s m args below meth c s₁ B hml hv
  obtain ⟨rfl, hsz, hP, hK, hD0⟩ := hv
  have hx := B.exec
  have hb := B.bytes
  have hr := B.returns
  have hts := atoms_spec (ws := wsX8_image) B.pre
  have hown : s.vm.findClass RX8 = some m.cls := findClass_of_methodNamed B.named
  have hlocks := B.notSynchronized
  subst hsz
  have hD := hD0.self (sz := s.heap.size)
  generalize hAe : va_A [(aM, .inr (7, [.ref aM_s, .ref aM_image, .ref aM_read, .ref aM_saved, .ref aM_kept, .ref aM_sort, .ref aM_size, .ref aM_element, .ref aM_keptKind, .ref aM_keptFigure, .int M_hasImage, .int M_thrown, .int M_pos, .int M_base, .int M_end, .int M_number, .int M_told, .ref aM_numbers, .ref aM_used, .ref aM_way, .ref aM_found, .int M_wayRow, .int M_wayTo, .int M_ways, .int M_endsBy, .int M_foundSize, .int M_foundWorth, .int M_foundCut, .ref aM_isOne, .ref aM_isTwo, .int M_z, .int M_aside, .int M_byRow, .int M_byAt, .int M_one, .int M_two, .int M_slatesBy])), (aM_s, .inl (cI, 99, .inl M_s)), (aM_image, .inl (cI, 99, .inl M_image))] s.heap.size = A at hD ⊢
  have hA : ∀ q : Nat, s.heap.size ≤ q → A q := fun q h => by rw [← hAe]; exact Or.inr h
  have hS : va_S A s.heap s.heap [] := va_S.rf
  have hl := lv_entry ([.ref aM]) (n := 2) (Nat.le_of_ble_eq_true rfl)
  rw [lg_entry_eq]
  generalize (lg_sl ([.ref aM]) ++ List.replicate (2 - (lg_sl ([.ref aM])).length) Slot.unset).toArray = ls at hl ⊢
  have hl : lv_has ls 2 [(0, .ref aM)] := hl
  unfold f_X8_image at h
  refine lv_iconst (v := 0) hx hb dX8_image_0 (by decide) ?_
  refine lv_istore_n (lv' := [(1, .int 0), (0, .ref aM)]) hx hb dX8_image_1 rfl hl (by decide) rfl (fun ls hl => ?_)
  have L2_1 : ∀ (n_2 : Nat) (v1_3 : Int32) (M_image_4 : Nat → Int32) (ls : Array Slot) (H : Heap) (locs : List Loc), f_X8_image_L2 N M_s M_hasImage n_2 v1_3 M_image_4 = some res → lv_has ls 2 [(0, .ref aM), (1, .int v1_3)] → va_P (dC, dI) vwCl [(aM, .inr (7, [.ref aM_s, .ref aM_image, .ref aM_read, .ref aM_saved, .ref aM_kept, .ref aM_sort, .ref aM_size, .ref aM_element, .ref aM_keptKind, .ref aM_keptFigure, .int M_hasImage, .int M_thrown, .int M_pos, .int M_base, .int M_end, .int M_number, .int M_told, .ref aM_numbers, .ref aM_used, .ref aM_way, .ref aM_found, .int M_wayRow, .int M_wayTo, .int M_ways, .int M_endsBy, .int M_foundSize, .int M_foundWorth, .int M_foundCut, .ref aM_isOne, .ref aM_isTwo, .int M_z, .int M_aside, .int M_byRow, .int M_byAt, .int M_one, .int M_two, .int M_slatesBy])), (aM_s, .inl (cI, 99, .inl M_s)), (aM_image, .inl (cI, 99, .inl M_image_4))] H → va_D A [(aM, .inr (7, [.ref aM_s, .ref aM_image, .ref aM_read, .ref aM_saved, .ref aM_kept, .ref aM_sort, .ref aM_size, .ref aM_element, .ref aM_keptKind, .ref aM_keptFigure, .int M_hasImage, .int M_thrown, .int M_pos, .int M_base, .int M_end, .int M_number, .int M_told, .ref aM_numbers, .ref aM_used, .ref aM_way, .ref aM_found, .int M_wayRow, .int M_wayTo, .int M_ways, .int M_endsBy, .int M_foundSize, .int M_foundWorth, .int M_foundCut, .ref aM_isOne, .ref aM_isTwo, .int M_z, .int M_aside, .int M_byRow, .int M_byAt, .int M_one, .int M_two, .int M_slatesBy])), (aM_s, .inl (cI, 99, .inl M_s)), (aM_image, .inl (cI, 99, .inl M_image_4))] → va_S A s.heap H locs → W p l e (headSpec wsX8_image ({ frames := 0, cells := 0, slots := 0, locals := 0 })).room s m ([.ref aM] : List Value).toArray below meth c H locs 0 0 (MQ below (va_Qi (fun (r : Int32) (_ : Unit) => r = res.1) (fun _ => qW (dC, dI) cI cZ cS A [(aM, .inr (7, [.ref aM_s, .ref aM_image, .ref aM_read, .ref aM_saved, .ref aM_kept, .ref aM_sort, .ref aM_size, .ref aM_element, .ref aM_keptKind, .ref aM_keptFigure, .int res.2.2, .int M_thrown, .int M_pos, .int M_base, .int M_end, .int M_number, .int M_told, .ref aM_numbers, .ref aM_used, .ref aM_way, .ref aM_found, .int M_wayRow, .int M_wayTo, .int M_ways, .int M_endsBy, .int M_foundSize, .int M_foundWorth, .int M_foundCut, .ref aM_isOne, .ref aM_isTwo, .int M_z, .int M_aside, .int M_byRow, .int M_byAt, .int M_one, .int M_two, .int M_slatesBy])), (aM_s, .inl (cI, 99, .inl M_s)), (aM_image, .inl (cI, 99, .inl res.2.1))]) A) ([.ref aM] : List Value).toArray s 0 0 A) (F0 m 2 ls []) := by
    intro n_2
    induction n_2 with
    | zero =>
      intro v1_3 M_image_4 ls H locs h
      simp only [f_X8_image_L2] at h
      try exact absurd h (by simp)
    | succ n_2 ihn_2 =>
      intro v1_3 M_image_4 ls H locs h hl hP hD hS
      rw [f_X8_image_L2] at h
      refine lv_iload_n hx hb dX8_image_2 rfl (lv_at hl 1 rfl) ?_
      refine lv_bipush (v := 99) hx hb dX8_image_3 (by decide) ?_
      refine lv_icmp_ge (tgt := 26) hx hb dX8_image_5 (by decide) (fun c_5 => ?_) (fun c_5 => ?_)
      · have h := it_p c_5 h
        refine lv_aload_n hx hb dX8_image_26 rfl (lv_at hl 0 rfl) ?_
        refine lv_iconst (v := 1) hx hb dX8_image_27 (by decide) ?_
        refine va_put (D := (dC, dI)) (ci := 7) (v := .int 1) (ty := .boolean) (C := RX8) (T := TX8) (N := 37) hx hb hts (fun _ h => List.mem_cons_of_mem _ (List.mem_append_right _ h)) tyX8 tyX8_ok nmX8 hown hK hP hD hS 0 rfl rfl 10 (by decide) (hts (.fieldLink RX8 296 "SlateRowsModel" "hasImage" "Z") (by decide +kernel)) (fun _ h9 => h9) rfl (by decide +kernel) rfl rfl (Nat.le_of_ble_eq_true rfl) dX8_image_28 (fun H locs hP hD hS => ?_)
        have hP : va_P (dC, dI) vwCl [(aM, .inr (7, [.ref aM_s, .ref aM_image, .ref aM_read, .ref aM_saved, .ref aM_kept, .ref aM_sort, .ref aM_size, .ref aM_element, .ref aM_keptKind, .ref aM_keptFigure, .int 1, .int M_thrown, .int M_pos, .int M_base, .int M_end, .int M_number, .int M_told, .ref aM_numbers, .ref aM_used, .ref aM_way, .ref aM_found, .int M_wayRow, .int M_wayTo, .int M_ways, .int M_endsBy, .int M_foundSize, .int M_foundWorth, .int M_foundCut, .ref aM_isOne, .ref aM_isTwo, .int M_z, .int M_aside, .int M_byRow, .int M_byAt, .int M_one, .int M_two, .int M_slatesBy])), (aM_s, .inl (cI, 99, .inl M_s)), (aM_image, .inl (cI, 99, .inl M_image_4))] H := hP
        have hD : va_D A [(aM, .inr (7, [.ref aM_s, .ref aM_image, .ref aM_read, .ref aM_saved, .ref aM_kept, .ref aM_sort, .ref aM_size, .ref aM_element, .ref aM_keptKind, .ref aM_keptFigure, .int 1, .int M_thrown, .int M_pos, .int M_base, .int M_end, .int M_number, .int M_told, .ref aM_numbers, .ref aM_used, .ref aM_way, .ref aM_found, .int M_wayRow, .int M_wayTo, .int M_ways, .int M_endsBy, .int M_foundSize, .int M_foundWorth, .int M_foundCut, .ref aM_isOne, .ref aM_isTwo, .int M_z, .int M_aside, .int M_byRow, .int M_byAt, .int M_one, .int M_two, .int M_slatesBy])), (aM_s, .inl (cI, 99, .inl M_s)), (aM_image, .inl (cI, 99, .inl M_image_4))] := hD
        refine lv_aload_n hx hb dX8_image_31 rfl (lv_at hl 0 rfl) ?_
        refine va_get (D := (dC, dI)) (ci := 7) (v := .ref aM_s) (C := RX8) (T := TX8) (N := 37) hx hb hts (fun _ h => List.mem_cons_of_mem _ (List.mem_append_right _ h)) hown hK hP 0 rfl rfl 0 (by decide) (hts (.fieldLink RX8 9 "SlateRowsModel" "s" "[I") (by decide +kernel)) (fun _ h9 => h9) rfl dX8_image_32 ?_
        refine lv_iconst (v := 2) hx hb dX8_image_35 (by decide) ?_
        obtain ⟨hi, h⟩ := ck_some h
        refine va_iald hx hb hK hP 1 0 rfl rfl (gi_in hi) dX8_image_36 ?_
        have h := Option.some.inj h
        exact W.iret hx hb hr (fun t ht hW => ⟨⟨_, (), rfl, by rw [← h], by (try rw [← h]); rw [ht]; exact hP, va_K.moved hW.alike hK, by (try rw [← h]); exact hD⟩, hS.F ht⟩) hS.2.2 dX8_image_37
      · have h := it_n c_5 h
        refine lv_aload_n hx hb dX8_image_8 rfl (lv_at hl 0 rfl) ?_
        refine va_get (D := (dC, dI)) (ci := 7) (v := .ref aM_image) (C := RX8) (T := TX8) (N := 37) hx hb hts (fun _ h => List.mem_cons_of_mem _ (List.mem_append_right _ h)) hown hK hP 0 rfl rfl 1 (by decide) (hts (.fieldLink RX8 13 "SlateRowsModel" "image" "[I") (by decide +kernel)) (fun _ h9 => h9) rfl dX8_image_9 ?_
        refine lv_iload_n hx hb dX8_image_12 rfl (lv_at hl 1 rfl) ?_
        refine lv_aload_n hx hb dX8_image_13 rfl (lv_at hl 0 rfl) ?_
        refine va_get (D := (dC, dI)) (ci := 7) (v := .ref aM_s) (C := RX8) (T := TX8) (N := 37) hx hb hts (fun _ h => List.mem_cons_of_mem _ (List.mem_append_right _ h)) hown hK hP 0 rfl rfl 0 (by decide) (hts (.fieldLink RX8 9 "SlateRowsModel" "s" "[I") (by decide +kernel)) (fun _ h9 => h9) rfl dX8_image_14 ?_
        refine lv_iload_n hx hb dX8_image_17 rfl (lv_at hl 1 rfl) ?_
        obtain ⟨hi, h⟩ := ck_some h
        refine va_iald hx hb hK hP 1 0 rfl rfl (gi_in hi) dX8_image_18 ?_
        obtain ⟨hi, h⟩ := ck_some h
        refine va_iast hx hb hK hP hD hS 2 0 rfl rfl (gi_in hi) dX8_image_19 (fun H locs hP hD hS => ?_)
        have hP : va_P (dC, dI) vwCl [(aM, .inr (7, [.ref aM_s, .ref aM_image, .ref aM_read, .ref aM_saved, .ref aM_kept, .ref aM_sort, .ref aM_size, .ref aM_element, .ref aM_keptKind, .ref aM_keptFigure, .int M_hasImage, .int M_thrown, .int M_pos, .int M_base, .int M_end, .int M_number, .int M_told, .ref aM_numbers, .ref aM_used, .ref aM_way, .ref aM_found, .int M_wayRow, .int M_wayTo, .int M_ways, .int M_endsBy, .int M_foundSize, .int M_foundWorth, .int M_foundCut, .ref aM_isOne, .ref aM_isTwo, .int M_z, .int M_aside, .int M_byRow, .int M_byAt, .int M_one, .int M_two, .int M_slatesBy])), (aM_s, .inl (cI, 99, .inl M_s)), (aM_image, .inl (cI, 99, .inl (upd M_image_4 v1_3.toNatClampNeg (M_s v1_3.toNatClampNeg))))] H := hP
        have hD : va_D A [(aM, .inr (7, [.ref aM_s, .ref aM_image, .ref aM_read, .ref aM_saved, .ref aM_kept, .ref aM_sort, .ref aM_size, .ref aM_element, .ref aM_keptKind, .ref aM_keptFigure, .int M_hasImage, .int M_thrown, .int M_pos, .int M_base, .int M_end, .int M_number, .int M_told, .ref aM_numbers, .ref aM_used, .ref aM_way, .ref aM_found, .int M_wayRow, .int M_wayTo, .int M_ways, .int M_endsBy, .int M_foundSize, .int M_foundWorth, .int M_foundCut, .ref aM_isOne, .ref aM_isTwo, .int M_z, .int M_aside, .int M_byRow, .int M_byAt, .int M_one, .int M_two, .int M_slatesBy])), (aM_s, .inl (cI, 99, .inl M_s)), (aM_image, .inl (cI, 99, .inl (upd M_image_4 v1_3.toNatClampNeg (M_s v1_3.toNatClampNeg))))] := hD
        refine lv_iinc (v := (v1_3 + 1)) (lv' := [(1, .int (v1_3 + 1)), (0, .ref aM)]) hx hb dX8_image_20 hl (k := 1) rfl rfl (by decide) rfl (fun ls hl => ?_)
        refine lv_goto (tgt := 2) hx hb dX8_image_23 (by decide) ?_
        exact ihn_2 (v1_3 + 1) (upd M_image_4 v1_3.toNatClampNeg (M_s v1_3.toNatClampNeg)) ls _ _ h (lv_sub hl [1, 0] rfl) hP hD hS
  exact L2_1 N 0 M_image ls _ _ h (lv_sub hl [1, 0] rfl) hP hD hS
