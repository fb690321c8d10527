theorem cd_X8_toss : yX8_toss.cls = RX8 ∧ yX8_toss.cls ≠ "java/lang/invoke/MethodHandle" ∧ yX8_toss.cls ≠ "java/lang/invoke/VarHandle" ∧ (parseMethodDescriptor yX8_toss.desc).map (fun d => d.parameters.length) = some 1 := by decide +kernel
def f_X8_toss (N : Nat) (M_kept : Nat → Int32) (M_keptKind : Nat → Int32) (M_keptFigure : Nat → Int32) (x1 : Int32) : Option (Int32) :=
  (f_X8_wrongLaying N M_kept x1).bind fun r_1 => if r_1 = 0 then (ck (gi x1 8) (ck (gi x1 8) (if (M_keptKind x1.toNatClampNeg) = 4 then (some ((-15))) else (if (M_keptFigure x1.toNatClampNeg) = 0 then (some ((-15))) else (if (M_keptKind x1.toNatClampNeg) = 2 then (some ((100 + (M_keptFigure x1.toNatClampNeg)))) else (if (M_keptKind x1.toNatClampNeg) = 5 then (some ((100 + (M_keptFigure x1.toNatClampNeg)))) else (if (M_keptKind x1.toNatClampNeg) = 6 then ((f_X8_toilOf N M_keptKind M_keptFigure x1).bind fun r_8 => some ((200 + r_8))) else (some ((M_keptFigure x1.toNatClampNeg)))))))))) else (some (r_1))
set_option maxHeartbeats 4000000 in
set_option maxRecDepth 100000 in
theorem k_X8_toss (l : Launch) (dC : Nat → ClassId) (dI : Nat → Nat → Nat) (cI cZ cS : ClassId) (N : Nat) (aM aM_kept aM_keptKind aM_keptFigure : Nat) (fs_M : List Value) (M_kept : Nat → Int32) (M_keptKind : Nat → Int32) (M_keptFigure : Nat → Int32) (x1 : Int32) (hf_M_kept : fs_M[4]? = some (.ref aM_kept)) (hf_M_keptKind : fs_M[8]? = some (.ref aM_keptKind)) (hf_M_keptFigure : fs_M[9]? = some (.ref aM_keptFigure)) (res : Int32) (h : f_X8_toss N M_kept M_keptKind M_keptFigure x1 = some res) : Met l yX8_toss wsX8_toss ({ frames := 3, cells := 0, slots := 0, locals := 66 }) (va_Pc [.ref aM, .int x1] (wd (dC, dI) cI cZ cS [(aM, .inr (7, fs_M)), (aM_kept, .inl (cI, 8, .inl M_kept)), (aM_keptKind, .inl (cI, 8, .inl M_keptKind)), (aM_keptFigure, .inl (cI, 8, .inl M_keptFigure))])) (vp_Si (fun r => r = res)) 0 0 (fun _ => False) := by
  refine Met.ofW (cc := cX8_toss) (maxL := 5) (ret := (some .int)) (by decide) rfl ?_
  intro p e s m args below meth c s₁ B hml hv
  obtain ⟨rfl, hP, hK, hD⟩ := hv
  have hx := B.exec
  have hb := B.bytes
  have hr := B.returns
  have hts := atoms_spec (ws := wsX8_toss) B.pre
  have hown : s.vm.findClass RX8 = some m.cls := findClass_of_methodNamed B.named
  have hlocks := B.notSynchronized
  have hl := lv_entry ([.ref aM, .int x1]) (n := 5) (Nat.le_of_ble_eq_true rfl)
  rw [lg_entry_eq]
  generalize (lg_sl ([.ref aM, .int x1]) ++ List.replicate (5 - (lg_sl ([.ref aM, .int x1])).length) Slot.unset).toArray = ls at hl ⊢
  have hl : lv_has ls 5 [(0, .ref aM), (1, .int x1)] := hl
  unfold f_X8_toss at h
  refine lv_aload_n hx hb dX8_toss_0 rfl (lv_at hl 0 rfl) ?_
  refine lv_iload_n hx hb dX8_toss_1 rfl (lv_at hl 1 rfl) ?_
  obtain ⟨r_1, hg, h⟩ := bd_some h
  refine rdV (As := [.int x1]) (rest := []) (ci := 7) ⟨hx, hb, hml, hown, hts⟩ (k_X8_wrongLaying l dC dI cI cZ cS N aM aM_kept fs_M M_kept x1 hf_M_kept r_1 hg) (cwV 1 hts gX8_toss_X8_wrongLaying rfl rfl rfl cd_X8_wrongLaying ⟨Nat.le_of_ble_eq_true rfl, Nat.le_of_ble_eq_true rfl⟩) hP hD hK [0, 1] (by decide) rfl rfl rfl rfl hl.1 rfl (Nat.le_of_ble_eq_true rfl) dX8_toss_2 ⟨Nat.zero_le _, Nat.zero_le _⟩ ?_
  refine lv_istore_n (lv' := [(2, .int r_1), (0, .ref aM), (1, .int x1)]) hx hb dX8_toss_5 rfl hl (by decide) rfl (fun ls hl => ?_)
  refine lv_iload_n hx hb dX8_toss_6 rfl (lv_at hl 0 rfl) ?_
  refine lv_if_eq (tgt := 12) hx hb dX8_toss_7 (by decide) (fun c_2 => ?_) (fun c_2 => ?_)
  · have h := it_p c_2 h
    refine lv_aload_n hx hb dX8_toss_12 rfl (lv_at hl 1 rfl) ?_
    refine va_get (D := (dC, dI)) (ci := 7) (v := .ref aM_keptFigure) (C := RX8) (T := TX8) (N := 37) hx hb hts (fun _ h => List.mem_cons_of_mem _ (List.mem_append_right _ h)) hown hK hP 0 rfl rfl 9 (by decide) (hts (.fieldLink RX8 37 "SlateRowsModel" "keptFigure" "[I") (by decide +kernel)) (fun _ h9 => h9) hf_M_keptFigure dX8_toss_13 ?_
    refine lv_iload_n hx hb dX8_toss_16 rfl (lv_at hl 2 rfl) ?_
    obtain ⟨hi, h⟩ := ck_some h
    refine va_iald hx hb hK hP 3 0 rfl rfl (gi_in hi) dX8_toss_17 ?_
    refine lv_istore_n (lv' := [(3, .int (M_keptFigure x1.toNatClampNeg)), (2, .int r_1), (0, .ref aM), (1, .int x1)]) hx hb dX8_toss_18 rfl hl (by decide) rfl (fun ls hl => ?_)
    refine lv_aload_n hx hb dX8_toss_19 rfl (lv_at hl 2 rfl) ?_
    refine va_get (D := (dC, dI)) (ci := 7) (v := .ref aM_keptKind) (C := RX8) (T := TX8) (N := 37) hx hb hts (fun _ h => List.mem_cons_of_mem _ (List.mem_append_right _ h)) hown hK hP 0 rfl rfl 8 (by decide) (hts (.fieldLink RX8 34 "SlateRowsModel" "keptKind" "[I") (by decide +kernel)) (fun _ h9 => h9) hf_M_keptKind dX8_toss_20 ?_
    refine lv_iload_n hx hb dX8_toss_23 rfl (lv_at hl 3 rfl) ?_
    obtain ⟨hi, h⟩ := ck_some h
    refine va_iald hx hb hK hP 2 0 rfl rfl (gi_in hi) dX8_toss_24 ?_
    refine lv_istore (lv' := [(4, .int (M_keptKind x1.toNatClampNeg)), (3, .int (M_keptFigure x1.toNatClampNeg)), (2, .int r_1), (0, .ref aM), (1, .int x1)]) hx hb dX8_toss_25 hl (by decide) rfl (fun ls hl => ?_)
    refine lv_iload hx hb dX8_toss_27 (lv_at hl 0 rfl) ?_
    refine lv_iconst (v := 4) hx hb dX8_toss_29 (by decide) ?_
    refine lv_icmp_eq (tgt := 37) hx hb dX8_toss_30 (by decide) (fun c_3 => ?_) (fun c_3 => ?_)
    · have h := it_p c_3 h
      refine lv_bipush (v := (-15)) hx hb dX8_toss_37 (by decide) ?_
      refine lv_goto (tgt := 81) hx hb dX8_toss_39 (by decide) ?_
      exact W.iret hx hb hr (fun t ht hW => ⟨_, rfl, Option.some.inj h, ht⟩) (fun q hq => by cases hq) dX8_toss_81
    · have h := it_n c_3 h
      refine lv_iload_n hx hb dX8_toss_33 rfl (lv_at hl 1 rfl) ?_
      refine lv_if_ne (tgt := 42) hx hb dX8_toss_34 (by decide) (fun c_4 => ?_) (fun c_4 => ?_)
      · have h := it_n c_4 h
        refine lv_iload hx hb dX8_toss_42 (lv_at hl 0 rfl) ?_
        refine lv_iconst (v := 2) hx hb dX8_toss_44 (by decide) ?_
        refine lv_icmp_eq (tgt := 54) hx hb dX8_toss_45 (by decide) (fun c_5 => ?_) (fun c_5 => ?_)
        · have h := it_p c_5 h
          refine lv_bipush (v := 100) hx hb dX8_toss_54 (by decide) ?_
          refine lv_iload_n hx hb dX8_toss_56 rfl (lv_at hl 1 rfl) ?_
          refine lv_iadd hx hb dX8_toss_57 ?_
          refine lv_goto (tgt := 81) hx hb dX8_toss_58 (by decide) ?_
          exact W.iret hx hb hr (fun t ht hW => ⟨_, rfl, Option.some.inj h, ht⟩) (fun q hq => by cases hq) dX8_toss_81
        · have h := it_n c_5 h
          refine lv_iload hx hb dX8_toss_48 (lv_at hl 0 rfl) ?_
          refine lv_iconst (v := 5) hx hb dX8_toss_50 (by decide) ?_
          refine lv_icmp_ne (tgt := 61) hx hb dX8_toss_51 (by decide) (fun c_6 => ?_) (fun c_6 => ?_)
          · have h := it_n c_6 h
            refine lv_iload hx hb dX8_toss_61 (lv_at hl 0 rfl) ?_
            refine lv_bipush (v := 6) hx hb dX8_toss_63 (by decide) ?_
            refine lv_icmp_ne (tgt := 80) hx hb dX8_toss_65 (by decide) (fun c_7 => ?_) (fun c_7 => ?_)
            · have h := it_n c_7 h
              refine lv_iload_n hx hb dX8_toss_80 rfl (lv_at hl 1 rfl) ?_
              exact W.iret hx hb hr (fun t ht hW => ⟨_, rfl, Option.some.inj h, ht⟩) (fun q hq => by cases hq) dX8_toss_81
            · have h := it_p c_7 h
              refine lv_sipush (v := 200) hx hb dX8_toss_68 (by decide) ?_
              refine lv_aload_n hx hb dX8_toss_71 rfl (lv_at hl 3 rfl) ?_
              refine lv_iload_n hx hb dX8_toss_72 rfl (lv_at hl 4 rfl) ?_
              obtain ⟨r_8, hg, h⟩ := bd_some h
              refine rdV (As := [.int x1]) (rest := [.int 200]) (ci := 7) ⟨hx, hb, hml, hown, hts⟩ (k_X8_toilOf l dC dI cI cZ cS N aM aM_keptKind aM_keptFigure fs_M M_keptKind M_keptFigure x1 hf_M_keptKind hf_M_keptFigure r_8 hg) (cwV 1 hts gX8_toss_X8_toilOf rfl rfl rfl cd_X8_toilOf ⟨Nat.le_of_ble_eq_true rfl, Nat.le_of_ble_eq_true rfl⟩) hP hD hK [0, 2, 3] (by decide) rfl rfl rfl rfl hl.1 rfl (Nat.le_of_ble_eq_true rfl) dX8_toss_73 ⟨Nat.zero_le _, Nat.zero_le _⟩ ?_
              refine lv_iadd hx hb dX8_toss_76 ?_
              refine lv_goto (tgt := 81) hx hb dX8_toss_77 (by decide) ?_
              exact W.iret hx hb hr (fun t ht hW => ⟨_, rfl, Option.some.inj h, ht⟩) (fun q hq => by cases hq) dX8_toss_81
          · have h := it_p c_6 h
            refine lv_bipush (v := 100) hx hb dX8_toss_54 (by decide) ?_
            refine lv_iload_n hx hb dX8_toss_56 rfl (lv_at hl 1 rfl) ?_
            refine lv_iadd hx hb dX8_toss_57 ?_
            refine lv_goto (tgt := 81) hx hb dX8_toss_58 (by decide) ?_
            exact W.iret hx hb hr (fun t ht hW => ⟨_, rfl, Option.some.inj h, ht⟩) (fun q hq => by cases hq) dX8_toss_81
      · have h := it_p c_4 h
        refine lv_bipush (v := (-15)) hx hb dX8_toss_37 (by decide) ?_
        refine lv_goto (tgt := 81) hx hb dX8_toss_39 (by decide) ?_
        exact W.iret hx hb hr (fun t ht hW => ⟨_, rfl, Option.some.inj h, ht⟩) (fun q hq => by cases hq) dX8_toss_81
  · have h := it_n c_2 h
    refine lv_iload_n hx hb dX8_toss_10 rfl (lv_at hl 0 rfl) ?_
    exact W.iret hx hb hr (fun t ht hW => ⟨_, rfl, Option.some.inj h, ht⟩) (fun q hq => by cases hq) dX8_toss_11
