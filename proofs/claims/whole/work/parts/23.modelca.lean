theorem cd_X8_heapSize : yX8_heapSize.cls = RX8 ∧ yX8_heapSize.cls ≠ "java/lang/invoke/MethodHandle" ∧ yX8_heapSize.cls ≠ "java/lang/invoke/VarHandle" ∧ (parseMethodDescriptor yX8_heapSize.desc).map (fun d => d.parameters.length) = some 0 := by decide +kernel
theorem cd_X8_canLay : yX8_canLay.cls = RX8 ∧ yX8_canLay.cls ≠ "java/lang/invoke/MethodHandle" ∧ yX8_canLay.cls ≠ "java/lang/invoke/VarHandle" ∧ (parseMethodDescriptor yX8_canLay.desc).map (fun d => d.parameters.length) = some 2 := by decide +kernel
theorem cd_X8_handed : yX8_handed.cls = RX8 ∧ yX8_handed.cls ≠ "java/lang/invoke/MethodHandle" ∧ yX8_handed.cls ≠ "java/lang/invoke/VarHandle" ∧ (parseMethodDescriptor yX8_handed.desc).map (fun d => d.parameters.length) = some 0 := by decide +kernel
theorem cd_X8_isBetter : yX8_isBetter.cls = RX8 ∧ yX8_isBetter.cls ≠ "java/lang/invoke/MethodHandle" ∧ yX8_isBetter.cls ≠ "java/lang/invoke/VarHandle" ∧ (parseMethodDescriptor yX8_isBetter.desc).map (fun d => d.parameters.length) = some 4 := by decide +kernel
theorem cd_X8_chosen : yX8_chosen.cls = RX8 ∧ yX8_chosen.cls ≠ "java/lang/invoke/MethodHandle" ∧ yX8_chosen.cls ≠ "java/lang/invoke/VarHandle" ∧ (parseMethodDescriptor yX8_chosen.desc).map (fun d => d.parameters.length) = some 2 := by decide +kernel
def f_X8_heapSize_L4 (N : Nat) (M_s : Nat → Int32) : Nat → Int32 → Int32 → Option (Int32)
  | 0, _, _ => none
  | n + 1, v1, v2 =>
    ck (gi 1 99) (if (M_s (1 : Int32).toNatClampNeg) ≤ v2 then (some (v1)) else ((f_X8_many N M_s v2).bind fun r_2 => f_X8_heapSize_L4 N M_s n (v1 + r_2) (v2 + 1)))
def f_X8_heapSize (N : Nat) (M_s : Nat → Int32) : Option (Int32) :=
  f_X8_heapSize_L4 N M_s N 0 0
set_option maxHeartbeats 4000000 in
set_option maxRecDepth 100000 in
theorem k_X8_heapSize (l : Launch) (dC : Nat → ClassId) (dI : Nat → Nat → Nat) (cI cZ cS : ClassId) (N : Nat) (aM aM_s : Nat) (fs_M : List Value) (M_s : Nat → Int32) (hf_M_s : fs_M[0]? = some (.ref aM_s)) (res : Int32) (h : f_X8_heapSize N M_s = some res) : Met l yX8_heapSize wsX8_heapSize ({ frames := 1, cells := 0, slots := 0, locals := 21 }) (va_Pc [.ref aM] (wd (dC, dI) cI cZ cS [(aM, .inr (7, fs_M)), (aM_s, .inl (cI, 99, .inl M_s))])) (vp_Si (fun r => r = res)) 0 0 (fun _ => False) := by
  refine Met.ofW (cc := cX8_heapSize) (maxL := 3) (ret := (some .int)) (by decide) rfl ?_
  intro p e s m args below meth c s₁ B hml hv
  obtain ⟨rfl, hP, hK, hD⟩ := hv
  have hx := B.exec
  have hb := B.bytes
  have hr := B.returns
  have hts := atoms_spec (ws := wsX8_heapSize) B.pre
  have hown : s.vm.findClass RX8 = some m.cls := findClass_of_methodNamed B.named
  have hlocks := B.notSynchronized
  have hl := lv_entry ([.ref aM]) (n := 3) (Nat.le_of_ble_eq_true rfl)
  rw [lg_entry_eq]
  generalize (lg_sl ([.ref aM]) ++ List.replicate (3 - (lg_sl ([.ref aM])).length) Slot.unset).toArray = ls at hl ⊢
  have hl : lv_has ls 3 [(0, .ref aM)] := hl
  unfold f_X8_heapSize at h
  refine lv_iconst (v := 0) hx hb dX8_heapSize_0 (by decide) ?_
  refine lv_istore_n (lv' := [(1, .int 0), (0, .ref aM)]) hx hb dX8_heapSize_1 rfl hl (by decide) rfl (fun ls hl => ?_)
  refine lv_iconst (v := 0) hx hb dX8_heapSize_2 (by decide) ?_
  refine lv_istore_n (lv' := [(2, .int 0), (1, .int 0), (0, .ref aM)]) hx hb dX8_heapSize_3 rfl hl (by decide) rfl (fun ls hl => ?_)
  have L4_2 : ∀ (n_3 : Nat) (v1_4 : Int32) (v2_5 : Int32)  (ls : Array Slot), f_X8_heapSize_L4 N M_s n_3 v1_4 v2_5 = some res → lv_has ls 3 [(0, .ref aM), (1, .int v1_4), (2, .int v2_5)] → W p l e (headSpec wsX8_heapSize ({ frames := 1, cells := 0, slots := 0, locals := 21 })).room s m ([.ref aM] : List Value).toArray below meth c s.heap [] 0 0 (MQ below (vp_Si (fun r => r = res)) ([.ref aM] : List Value).toArray s 0 0 (fun _ => False)) (F0 m 4 ls []) := by
    intro n_3
    induction n_3 with
    | zero =>
      intro v1_4 v2_5 ls h
      simp only [f_X8_heapSize_L4] at h
      try exact absurd h (by simp)
    | succ n_3 ihn_3 =>
      intro v1_4 v2_5 ls h hl
      rw [f_X8_heapSize_L4] at h
      refine lv_iload_n hx hb dX8_heapSize_4 rfl (lv_at hl 2 rfl) ?_
      refine lv_aload_n hx hb dX8_heapSize_5 rfl (lv_at hl 0 rfl) ?_
      refine va_get (D := (dC, dI)) (ci := 7) (v := .ref aM_s) (C := RX8) (T := TX8) (N := 37) hx hb hts (fun _ h => List.mem_cons_of_mem _ (List.mem_append_right _ h)) hown hK hP 0 rfl rfl 0 (by decide) (hts (.fieldLink RX8 9 "SlateRowsModel" "s" "[I") (by decide +kernel)) (fun _ h9 => h9) hf_M_s dX8_heapSize_6 ?_
      refine lv_iconst (v := 1) hx hb dX8_heapSize_9 (by decide) ?_
      obtain ⟨hi, h⟩ := ck_some h
      refine va_iald hx hb hK hP 1 0 rfl rfl (gi_in hi) dX8_heapSize_10 ?_
      refine lv_icmp_ge (tgt := 28) hx hb dX8_heapSize_11 (by decide) (fun c_6 => ?_) (fun c_6 => ?_)
      · have h := it_p c_6 h
        refine lv_iload_n hx hb dX8_heapSize_28 rfl (lv_at hl 1 rfl) ?_
        exact W.iret hx hb hr (fun t ht hW => ⟨_, rfl, Option.some.inj h, ht⟩) (fun q hq => by cases hq) dX8_heapSize_29
      · have h := it_n c_6 h
        refine lv_iload_n hx hb dX8_heapSize_14 rfl (lv_at hl 1 rfl) ?_
        refine lv_aload_n hx hb dX8_heapSize_15 rfl (lv_at hl 0 rfl) ?_
        refine lv_iload_n hx hb dX8_heapSize_16 rfl (lv_at hl 2 rfl) ?_
        obtain ⟨r_7, hg, h⟩ := bd_some h
        refine rdV (As := [.int v2_5]) (rest := [.int v1_4]) (ci := 7) ⟨hx, hb, hml, hown, hts⟩ (k_X8_many l dC dI cI cZ cS N aM aM_s fs_M M_s v2_5 hf_M_s r_7 hg) (cwV 1 hts gX8_heapSize_X8_many rfl rfl rfl cd_X8_many ⟨Nat.le_of_ble_eq_true rfl, Nat.le_of_ble_eq_true rfl⟩) hP hD hK [0, 1] (by decide) rfl rfl rfl rfl hl.1 rfl (Nat.le_of_ble_eq_true rfl) dX8_heapSize_17 ⟨Nat.zero_le _, Nat.zero_le _⟩ ?_
        refine lv_iadd hx hb dX8_heapSize_20 ?_
        refine lv_istore_n (lv' := [(1, .int (v1_4 + r_7)), (0, .ref aM), (2, .int v2_5)]) hx hb dX8_heapSize_21 rfl hl (by decide) rfl (fun ls hl => ?_)
        refine lv_iinc (v := (v2_5 + 1)) (lv' := [(2, .int (v2_5 + 1)), (1, .int (v1_4 + r_7)), (0, .ref aM)]) hx hb dX8_heapSize_22 hl (k := 2) rfl rfl (by decide) rfl (fun ls hl => ?_)
        refine lv_goto (tgt := 4) hx hb dX8_heapSize_25 (by decide) ?_
        exact ihn_3 (v1_4 + r_7) (v2_5 + 1) ls h (lv_sub hl [2, 1, 0] rfl)
  exact L4_2 N 0 0 ls h (lv_sub hl [2, 1, 0] rfl)
def f_X8_canLay (N : Nat) (M_s : Nat → Int32) (M_byRow : Int32) (M_byAt : Int32) (x1 : Int32) (x2 : Int32) : Option (Bool) :=
  (f_X8_inches N M_s x1).bind fun r_1 => (f_X8_many N M_s x1).bind fun r_2 => if r_2 = 0 then (some (false)) else ((f_X8_lengthOf N M_s M_byRow).bind fun r_4 => if r_4 ≤ (M_byAt + r_1) then ((f_X8_lengthOf N M_s M_byRow).bind fun r_6 => if (M_byAt + r_1) = r_6 then (some (true)) else (if x2 = 0 then (some (false)) else (some (true)))) else ((f_X8_mayBe N M_s M_byRow (M_byAt + r_1)).bind fun r_9 => some (r_9)))
set_option maxHeartbeats 4000000 in
set_option maxRecDepth 100000 in
theorem k_X8_canLay (l : Launch) (dC : Nat → ClassId) (dI : Nat → Nat → Nat) (cI cZ cS : ClassId) (N : Nat) (aM aM_s : Nat) (fs_M : List Value) (M_s : Nat → Int32) (M_byRow : Int32) (M_byAt : Int32) (x1 : Int32) (x2 : Int32) (hf_M_s : fs_M[0]? = some (.ref aM_s)) (hf_M_byRow : fs_M[32]? = some (.int M_byRow)) (hf_M_byAt : fs_M[33]? = some (.int M_byAt)) (res : Bool) (h : f_X8_canLay N M_s M_byRow M_byAt x1 x2 = some res) : Met l yX8_canLay wsX8_canLay ({ frames := 3, cells := 0, slots := 0, locals := 70 }) (va_Pc [.ref aM, .int x1, .int x2] (wd (dC, dI) cI cZ cS [(aM, .inr (7, fs_M)), (aM_s, .inl (cI, 99, .inl M_s))])) (vp_Si (fun r => r = b2i res)) 0 0 (fun _ => False) := by
  refine Met.ofW (cc := cX8_canLay) (maxL := 4) (ret := (some .boolean)) (by decide) rfl ?_
  intro p e s m args below meth c s₁ B hml hv
  obtain ⟨rfl, hP, hK, hD⟩ := hv
  have hx := B.exec
  have hb := B.bytes
  have hr := B.returns
  have hts := atoms_spec (ws := wsX8_canLay) B.pre
  have hown : s.vm.findClass RX8 = some m.cls := findClass_of_methodNamed B.named
  have hlocks := B.notSynchronized
  have hl := lv_entry ([.ref aM, .int x1, .int x2]) (n := 4) (Nat.le_of_ble_eq_true rfl)
  rw [lg_entry_eq]
  generalize (lg_sl ([.ref aM, .int x1, .int x2]) ++ List.replicate (4 - (lg_sl ([.ref aM, .int x1, .int x2])).length) Slot.unset).toArray = ls at hl ⊢
  have hl : lv_has ls 4 [(0, .ref aM), (1, .int x1), (2, .int x2)] := hl
  unfold f_X8_canLay at h
  refine lv_aload_n hx hb dX8_canLay_0 rfl (lv_at hl 0 rfl) ?_
  refine va_get (D := (dC, dI)) (ci := 7) (v := .int M_byAt) (C := RX8) (T := TX8) (N := 37) hx hb hts (fun _ h => List.mem_cons_of_mem _ (List.mem_append_right _ h)) hown hK hP 0 rfl rfl 33 (by decide) (hts (.fieldLink RX8 246 "SlateRowsModel" "byAt" "I") (by decide +kernel)) (fun _ h9 => h9) hf_M_byAt dX8_canLay_1 ?_
  refine lv_aload_n hx hb dX8_canLay_4 rfl (lv_at hl 0 rfl) ?_
  refine lv_iload_n hx hb dX8_canLay_5 rfl (lv_at hl 1 rfl) ?_
  obtain ⟨r_1, hg, h⟩ := bd_some h
  refine rdV (As := [.int x1]) (rest := [.int M_byAt]) (ci := 7) ⟨hx, hb, hml, hown, hts⟩ (k_X8_inches l dC dI cI cZ cS N aM aM_s fs_M M_s x1 hf_M_s r_1 hg) (cwV 1 hts gX8_canLay_X8_inches rfl rfl rfl cd_X8_inches ⟨Nat.le_of_ble_eq_true rfl, Nat.le_of_ble_eq_true rfl⟩) hP hD hK [0, 1] (by decide) rfl rfl rfl rfl hl.1 rfl (Nat.le_of_ble_eq_true rfl) dX8_canLay_6 ⟨Nat.zero_le _, Nat.zero_le _⟩ ?_
  refine lv_iadd hx hb dX8_canLay_9 ?_
  refine lv_istore_n (lv' := [(3, .int (M_byAt + r_1)), (0, .ref aM), (1, .int x1), (2, .int x2)]) hx hb dX8_canLay_10 rfl hl (by decide) rfl (fun ls hl => ?_)
  refine lv_aload_n hx hb dX8_canLay_11 rfl (lv_at hl 1 rfl) ?_
  refine lv_iload_n hx hb dX8_canLay_12 rfl (lv_at hl 2 rfl) ?_
  obtain ⟨r_2, hg, h⟩ := bd_some h
  refine rdV (As := [.int x1]) (rest := []) (ci := 7) ⟨hx, hb, hml, hown, hts⟩ (k_X8_many l dC dI cI cZ cS N aM aM_s fs_M M_s x1 hf_M_s r_2 hg) (cwV 1 hts gX8_canLay_X8_many rfl rfl rfl cd_X8_many ⟨Nat.le_of_ble_eq_true rfl, Nat.le_of_ble_eq_true rfl⟩) hP hD hK [0, 1] (by decide) rfl rfl rfl rfl hl.1 rfl (Nat.le_of_ble_eq_true rfl) dX8_canLay_13 ⟨Nat.zero_le _, Nat.zero_le _⟩ ?_
  refine lv_if_ne (tgt := 21) hx hb dX8_canLay_16 (by decide) (fun c_3 => ?_) (fun c_3 => ?_)
  · have h := it_n c_3 h
    refine lv_iload_n hx hb dX8_canLay_21 rfl (lv_at hl 0 rfl) ?_
    refine lv_aload_n hx hb dX8_canLay_22 rfl (lv_at hl 1 rfl) ?_
    refine lv_aload_n hx hb dX8_canLay_23 rfl (lv_at hl 1 rfl) ?_
    refine va_get (D := (dC, dI)) (ci := 7) (v := .int M_byRow) (C := RX8) (T := TX8) (N := 37) hx hb hts (fun _ h => List.mem_cons_of_mem _ (List.mem_append_right _ h)) hown hK hP 0 rfl rfl 32 (by decide) (hts (.fieldLink RX8 249 "SlateRowsModel" "byRow" "I") (by decide +kernel)) (fun _ h9 => h9) hf_M_byRow dX8_canLay_24 ?_
    obtain ⟨r_4, hg, h⟩ := bd_some h
    refine rdV (As := [.int M_byRow]) (rest := [.int (M_byAt + r_1)]) (ci := 7) ⟨hx, hb, hml, hown, hts⟩ (k_X8_lengthOf l dC dI cI cZ cS N aM aM_s fs_M M_s M_byRow hf_M_s r_4 hg) (cwV 1 hts gX8_canLay_X8_lengthOf rfl rfl rfl cd_X8_lengthOf ⟨Nat.le_of_ble_eq_true rfl, Nat.le_of_ble_eq_true rfl⟩) hP hD hK [0, 1] (by decide) rfl rfl rfl rfl hl.1 rfl (Nat.le_of_ble_eq_true rfl) dX8_canLay_27 ⟨Nat.zero_le _, Nat.zero_le _⟩ ?_
    refine lv_icmp_ge (tgt := 45) hx hb dX8_canLay_30 (by decide) (fun c_5 => ?_) (fun c_5 => ?_)
    · have h := it_p c_5 h
      refine lv_iload_n hx hb dX8_canLay_45 rfl (lv_at hl 0 rfl) ?_
      refine lv_aload_n hx hb dX8_canLay_46 rfl (lv_at hl 1 rfl) ?_
      refine lv_aload_n hx hb dX8_canLay_47 rfl (lv_at hl 1 rfl) ?_
      refine va_get (D := (dC, dI)) (ci := 7) (v := .int M_byRow) (C := RX8) (T := TX8) (N := 37) hx hb hts (fun _ h => List.mem_cons_of_mem _ (List.mem_append_right _ h)) hown hK hP 0 rfl rfl 32 (by decide) (hts (.fieldLink RX8 249 "SlateRowsModel" "byRow" "I") (by decide +kernel)) (fun _ h9 => h9) hf_M_byRow dX8_canLay_48 ?_
      obtain ⟨r_6, hg, h⟩ := bd_some h
      refine rdV (As := [.int M_byRow]) (rest := [.int (M_byAt + r_1)]) (ci := 7) ⟨hx, hb, hml, hown, hts⟩ (k_X8_lengthOf l dC dI cI cZ cS N aM aM_s fs_M M_s M_byRow hf_M_s r_6 hg) (cwV 1 hts gX8_canLay_X8_lengthOf rfl rfl rfl cd_X8_lengthOf ⟨Nat.le_of_ble_eq_true rfl, Nat.le_of_ble_eq_true rfl⟩) hP hD hK [0, 1] (by decide) rfl rfl rfl rfl hl.1 rfl (Nat.le_of_ble_eq_true rfl) dX8_canLay_51 ⟨Nat.zero_le _, Nat.zero_le _⟩ ?_
      refine lv_icmp_eq (tgt := 61) hx hb dX8_canLay_54 (by decide) (fun c_7 => ?_) (fun c_7 => ?_)
      · have h := it_p c_7 h
        refine lv_iconst (v := 1) hx hb dX8_canLay_61 (by decide) ?_
        refine lv_goto (tgt := 66) hx hb dX8_canLay_62 (by decide) ?_
        exact W.zret (v := b2i true) hx hb hr (b2i_nar _) (fun t ht hW => ⟨b2i true, rfl, congrArg b2i (Option.some.inj h), ht⟩) (fun q hq => by cases hq) dX8_canLay_66
      · have h := it_n c_7 h
        refine lv_iload_n hx hb dX8_canLay_57 rfl (lv_at hl 3 rfl) ?_
        refine lv_if_eq (tgt := 65) hx hb dX8_canLay_58 (by decide) (fun c_8 => ?_) (fun c_8 => ?_)
        · have h := it_p c_8 h
          refine lv_iconst (v := 0) hx hb dX8_canLay_65 (by decide) ?_
          exact W.zret (v := b2i false) hx hb hr (b2i_nar _) (fun t ht hW => ⟨b2i false, rfl, congrArg b2i (Option.some.inj h), ht⟩) (fun q hq => by cases hq) dX8_canLay_66
        · have h := it_n c_8 h
          refine lv_iconst (v := 1) hx hb dX8_canLay_61 (by decide) ?_
          refine lv_goto (tgt := 66) hx hb dX8_canLay_62 (by decide) ?_
          exact W.zret (v := b2i true) hx hb hr (b2i_nar _) (fun t ht hW => ⟨b2i true, rfl, congrArg b2i (Option.some.inj h), ht⟩) (fun q hq => by cases hq) dX8_canLay_66
    · have h := it_n c_5 h
      refine lv_aload_n hx hb dX8_canLay_33 rfl (lv_at hl 1 rfl) ?_
      refine lv_aload_n hx hb dX8_canLay_34 rfl (lv_at hl 1 rfl) ?_
      refine va_get (D := (dC, dI)) (ci := 7) (v := .int M_byRow) (C := RX8) (T := TX8) (N := 37) hx hb hts (fun _ h => List.mem_cons_of_mem _ (List.mem_append_right _ h)) hown hK hP 0 rfl rfl 32 (by decide) (hts (.fieldLink RX8 249 "SlateRowsModel" "byRow" "I") (by decide +kernel)) (fun _ h9 => h9) hf_M_byRow dX8_canLay_35 ?_
      refine lv_iload_n hx hb dX8_canLay_38 rfl (lv_at hl 0 rfl) ?_
      obtain ⟨r_9, hg, h⟩ := bd_some h
      refine rdV (As := [.int M_byRow, .int (M_byAt + r_1)]) (rest := []) (ci := 7) ⟨hx, hb, hml, hown, hts⟩ (k_X8_mayBe l dC dI cI cZ cS N aM aM_s fs_M M_s M_byRow (M_byAt + r_1) hf_M_s r_9 hg) (cwV 2 hts gX8_canLay_X8_mayBe rfl rfl rfl cd_X8_mayBe ⟨Nat.le_of_ble_eq_true rfl, Nat.le_of_ble_eq_true rfl⟩) hP hD hK [0, 1] (by decide) rfl rfl rfl rfl hl.1 rfl (Nat.le_of_ble_eq_true rfl) dX8_canLay_39 ⟨Nat.zero_le _, Nat.zero_le _⟩ ?_
      refine lv_goto (tgt := 66) hx hb dX8_canLay_42 (by decide) ?_
      exact W.zret (v := b2i r_9) hx hb hr (b2i_nar _) (fun t ht hW => ⟨b2i r_9, rfl, congrArg b2i (Option.some.inj h), ht⟩) (fun q hq => by cases hq) dX8_canLay_66
  · have h := it_p c_3 h
    refine lv_iconst (v := 0) hx hb dX8_canLay_19 (by decide) ?_
    exact W.zret (v := b2i false) hx hb hr (b2i_nar _) (fun t ht hW => ⟨b2i false, rfl, congrArg b2i (Option.some.inj h), ht⟩) (fun q hq => by cases hq) dX8_canLay_20
def f_X8_handed_L35 (N : Nat) (M_s : Nat → Int32) (M_z : Int32) : Nat → Int32 → Int32 → Option (Int32 × Int32)
  | 0, _, _ => none
  | n + 1, v1, v2 =>
    (f_X8_many N M_s v2).bind fun r_2 => if v1 < r_2 then (some (v2, M_z)) else ((f_X8_many N M_s v2).bind fun r_4 => f_X8_handed_L35 N M_s M_z n (v1 - r_4) (v2 + 1))
def f_X8_handed (N : Nat) (M_s : Nat → Int32) (M_z : Int32) : Option (Int32 × Int32) :=
  (f_X8_heapSize N M_s).bind fun r_1 => ck (nz r_1) (f_X8_handed_L35 N M_s ((M_z * 1103515245) + 12345) N (((((M_z * 1103515245) + 12345) &&& 2147483647) / 65536) - ((((M_z * 1103515245) + 12345) &&& 2147483647) / 65536) / r_1 * r_1) 0)
set_option maxHeartbeats 4000000 in
set_option maxRecDepth 100000 in
theorem k_X8_handed (l : Launch) (dC : Nat → ClassId) (dI : Nat → Nat → Nat) (cI cZ cS : ClassId) (N : Nat) (aM aM_s aM_image aM_read aM_saved aM_kept aM_sort aM_size aM_element aM_keptKind aM_keptFigure aM_numbers aM_used aM_way aM_found aM_isOne aM_isTwo : Nat) (sz : Nat) (M_s : Nat → Int32) (M_hasImage : Int32) (M_thrown : Int32) (M_pos : Int32) (M_base : Int32) (M_end : Int32) (M_number : Int32) (M_told : Int32) (M_wayRow : Int32) (M_wayTo : Int32) (M_ways : Int32) (M_endsBy : Int32) (M_foundSize : Int32) (M_foundWorth : Int32) (M_foundCut : Int32) (M_z : Int32) (M_aside : Int32) (M_byRow : Int32) (M_byAt : Int32) (M_one : Int32) (M_two : Int32) (M_slatesBy : Int32) (res : Int32 × Int32) (h : f_X8_handed N M_s M_z = some res) : Met l yX8_handed wsX8_handed ({ frames := 2, cells := 0, slots := 0, locals := 43 }) (va_Pc [.ref aM] (preW (dC, dI) cI cZ cS [(aM, .inr (7, [.ref aM_s, .ref aM_image, .ref aM_read, .ref aM_saved, .ref aM_kept, .ref aM_sort, .ref aM_size, .ref aM_element, .ref aM_keptKind, .ref aM_keptFigure, .int M_hasImage, .int M_thrown, .int M_pos, .int M_base, .int M_end, .int M_number, .int M_told, .ref aM_numbers, .ref aM_used, .ref aM_way, .ref aM_found, .int M_wayRow, .int M_wayTo, .int M_ways, .int M_endsBy, .int M_foundSize, .int M_foundWorth, .int M_foundCut, .ref aM_isOne, .ref aM_isTwo, .int M_z, .int M_aside, .int M_byRow, .int M_byAt, .int M_one, .int M_two, .int M_slatesBy])), (aM_s, .inl (cI, 99, .inl M_s))] sz)) (va_Qi (fun (r : Int32) (_ : Unit) => r = res.1) (fun _ => qW (dC, dI) cI cZ cS (va_A [(aM, .inr (7, [.ref aM_s, .ref aM_image, .ref aM_read, .ref aM_saved, .ref aM_kept, .ref aM_sort, .ref aM_size, .ref aM_element, .ref aM_keptKind, .ref aM_keptFigure, .int M_hasImage, .int M_thrown, .int M_pos, .int M_base, .int M_end, .int M_number, .int M_told, .ref aM_numbers, .ref aM_used, .ref aM_way, .ref aM_found, .int M_wayRow, .int M_wayTo, .int M_ways, .int M_endsBy, .int M_foundSize, .int M_foundWorth, .int M_foundCut, .ref aM_isOne, .ref aM_isTwo, .int M_z, .int M_aside, .int M_byRow, .int M_byAt, .int M_one, .int M_two, .int M_slatesBy])), (aM_s, .inl (cI, 99, .inl M_s))] sz) [(aM, .inr (7, [.ref aM_s, .ref aM_image, .ref aM_read, .ref aM_saved, .ref aM_kept, .ref aM_sort, .ref aM_size, .ref aM_element, .ref aM_keptKind, .ref aM_keptFigure, .int M_hasImage, .int M_thrown, .int M_pos, .int M_base, .int M_end, .int M_number, .int M_told, .ref aM_numbers, .ref aM_used, .ref aM_way, .ref aM_found, .int M_wayRow, .int M_wayTo, .int M_ways, .int M_endsBy, .int M_foundSize, .int M_foundWorth, .int M_foundCut, .ref aM_isOne, .ref aM_isTwo, .int res.2, .int M_aside, .int M_byRow, .int M_byAt, .int M_one, .int M_two, .int M_slatesBy])), (aM_s, .inl (cI, 99, .inl M_s))]) (va_A [(aM, .inr (7, [.ref aM_s, .ref aM_image, .ref aM_read, .ref aM_saved, .ref aM_kept, .ref aM_sort, .ref aM_size, .ref aM_element, .ref aM_keptKind, .ref aM_keptFigure, .int M_hasImage, .int M_thrown, .int M_pos, .int M_base, .int M_end, .int M_number, .int M_told, .ref aM_numbers, .ref aM_used, .ref aM_way, .ref aM_found, .int M_wayRow, .int M_wayTo, .int M_ways, .int M_endsBy, .int M_foundSize, .int M_foundWorth, .int M_foundCut, .ref aM_isOne, .ref aM_isTwo, .int M_z, .int M_aside, .int M_byRow, .int M_byAt, .int M_one, .int M_two, .int M_slatesBy])), (aM_s, .inl (cI, 99, .inl M_s))] sz)) 0 0 (va_A [(aM, .inr (7, [.ref aM_s, .ref aM_image, .ref aM_read, .ref aM_saved, .ref aM_kept, .ref aM_sort, .ref aM_size, .ref aM_element, .ref aM_keptKind, .ref aM_keptFigure, .int M_hasImage, .int M_thrown, .int M_pos, .int M_base, .int M_end, .int M_number, .int M_told, .ref aM_numbers, .ref aM_used, .ref aM_way, .ref aM_found, .int M_wayRow, .int M_wayTo, .int M_ways, .int M_endsBy, .int M_foundSize, .int M_foundWorth, .int M_foundCut, .ref aM_isOne, .ref aM_isTwo, .int M_z, .int M_aside, .int M_byRow, .int M_byAt, .int M_one, .int M_two, .int M_slatesBy])), (aM_s, .inl (cI, 99, .inl M_s))] sz) := by
  refine Met.ofW (cc := cX8_handed) (maxL := 3) (ret := (some .int)) (by decide) rfl ?_
  intro p e s m args below meth c s₁ B hml hv
  obtain ⟨rfl, hsz, hP, hK, hD0⟩ := hv
  have hx := B.exec
  have hb := B.bytes
  have hr := B.returns
  have hts := atoms_spec (ws := wsX8_handed) B.pre
  have hown : s.vm.findClass RX8 = some m.cls := findClass_of_methodNamed B.named
  have hlocks := B.notSynchronized
  subst hsz
  have hD := hD0.self (sz := s.heap.size)
  generalize hAe : va_A [(aM, .inr (7, [.ref aM_s, .ref aM_image, .ref aM_read, .ref aM_saved, .ref aM_kept, .ref aM_sort, .ref aM_size, .ref aM_element, .ref aM_keptKind, .ref aM_keptFigure, .int M_hasImage, .int M_thrown, .int M_pos, .int M_base, .int M_end, .int M_number, .int M_told, .ref aM_numbers, .ref aM_used, .ref aM_way, .ref aM_found, .int M_wayRow, .int M_wayTo, .int M_ways, .int M_endsBy, .int M_foundSize, .int M_foundWorth, .int M_foundCut, .ref aM_isOne, .ref aM_isTwo, .int M_z, .int M_aside, .int M_byRow, .int M_byAt, .int M_one, .int M_two, .int M_slatesBy])), (aM_s, .inl (cI, 99, .inl M_s))] s.heap.size = A at hD ⊢
  have hA : ∀ q : Nat, s.heap.size ≤ q → A q := fun q h => by rw [← hAe]; exact Or.inr h
  have hS : va_S A s.heap s.heap [] := va_S.rf
  have hl := lv_entry ([.ref aM]) (n := 3) (Nat.le_of_ble_eq_true rfl)
  rw [lg_entry_eq]
  generalize (lg_sl ([.ref aM]) ++ List.replicate (3 - (lg_sl ([.ref aM])).length) Slot.unset).toArray = ls at hl ⊢
  have hl : lv_has ls 3 [(0, .ref aM)] := hl
  unfold f_X8_handed at h
  refine lv_aload_n hx hb dX8_handed_0 rfl (lv_at hl 0 rfl) ?_
  refine lv_aload_n hx hb dX8_handed_1 rfl (lv_at hl 0 rfl) ?_
  refine va_get (D := (dC, dI)) (ci := 7) (v := .int M_z) (C := RX8) (T := TX8) (N := 37) hx hb hts (fun _ h => List.mem_cons_of_mem _ (List.mem_append_right _ h)) hown hK hP 0 rfl rfl 30 (by decide) (hts (.fieldLink RX8 252 "SlateRowsModel" "z" "I") (by decide +kernel)) (fun _ h9 => h9) rfl dX8_handed_2 ?_
  refine lv_ldc (v := 1103515245) hx hb hown (hts (.constant RX8 255 (1103515245)) (by decide +kernel)) dX8_handed_5 ?_
  refine lv_imul hx hb dX8_handed_7 ?_
  refine lv_sipush (v := 12345) hx hb dX8_handed_8 (by decide) ?_
  refine lv_iadd hx hb dX8_handed_11 ?_
  refine va_put (D := (dC, dI)) (ci := 7) (v := .int ((M_z * 1103515245) + 12345)) (ty := .int) (C := RX8) (T := TX8) (N := 37) hx hb hts (fun _ h => List.mem_cons_of_mem _ (List.mem_append_right _ h)) tyX8 tyX8_ok nmX8 hown hK hP hD hS 0 rfl rfl 30 (by decide) (hts (.fieldLink RX8 252 "SlateRowsModel" "z" "I") (by decide +kernel)) (fun _ h9 => h9) rfl (by decide +kernel) rfl rfl (Nat.le_of_ble_eq_true rfl) dX8_handed_12 (fun H locs hP hD hS => ?_)
  have hP : va_P (dC, dI) vwCl [(aM, .inr (7, [.ref aM_s, .ref aM_image, .ref aM_read, .ref aM_saved, .ref aM_kept, .ref aM_sort, .ref aM_size, .ref aM_element, .ref aM_keptKind, .ref aM_keptFigure, .int M_hasImage, .int M_thrown, .int M_pos, .int M_base, .int M_end, .int M_number, .int M_told, .ref aM_numbers, .ref aM_used, .ref aM_way, .ref aM_found, .int M_wayRow, .int M_wayTo, .int M_ways, .int M_endsBy, .int M_foundSize, .int M_foundWorth, .int M_foundCut, .ref aM_isOne, .ref aM_isTwo, .int ((M_z * 1103515245) + 12345), .int M_aside, .int M_byRow, .int M_byAt, .int M_one, .int M_two, .int M_slatesBy])), (aM_s, .inl (cI, 99, .inl M_s))] H := hP
  have hD : va_D A [(aM, .inr (7, [.ref aM_s, .ref aM_image, .ref aM_read, .ref aM_saved, .ref aM_kept, .ref aM_sort, .ref aM_size, .ref aM_element, .ref aM_keptKind, .ref aM_keptFigure, .int M_hasImage, .int M_thrown, .int M_pos, .int M_base, .int M_end, .int M_number, .int M_told, .ref aM_numbers, .ref aM_used, .ref aM_way, .ref aM_found, .int M_wayRow, .int M_wayTo, .int M_ways, .int M_endsBy, .int M_foundSize, .int M_foundWorth, .int M_foundCut, .ref aM_isOne, .ref aM_isTwo, .int ((M_z * 1103515245) + 12345), .int M_aside, .int M_byRow, .int M_byAt, .int M_one, .int M_two, .int M_slatesBy])), (aM_s, .inl (cI, 99, .inl M_s))] := hD
  refine lv_aload_n hx hb dX8_handed_15 rfl (lv_at hl 0 rfl) ?_
  refine va_get (D := (dC, dI)) (ci := 7) (v := .int ((M_z * 1103515245) + 12345)) (C := RX8) (T := TX8) (N := 37) hx hb hts (fun _ h => List.mem_cons_of_mem _ (List.mem_append_right _ h)) hown hK hP 0 rfl rfl 30 (by decide) (hts (.fieldLink RX8 252 "SlateRowsModel" "z" "I") (by decide +kernel)) (fun _ h9 => h9) rfl dX8_handed_16 ?_
  refine lv_ldcw (v := 2147483647) hx hb hown (hts (.constant RX8 256 (2147483647)) (by decide +kernel)) dX8_handed_19 ?_
  refine lv_iand hx hb dX8_handed_22 ?_
  refine lv_ldcw (v := 65536) hx hb hown (hts (.constant RX8 257 (65536)) (by decide +kernel)) dX8_handed_23 ?_
  refine lv_idiv hx hb dX8_handed_26 (by decide) ?_
  refine lv_aload_n hx hb dX8_handed_27 rfl (lv_at hl 0 rfl) ?_
  obtain ⟨r_1, hg, h⟩ := bd_some h
  refine rdV (As := []) (rest := [.int ((((M_z * 1103515245) + 12345) &&& 2147483647) / 65536)]) (ci := 7) ⟨hx, hb, hml, hown, hts⟩ (k_X8_heapSize l dC dI cI cZ cS N aM aM_s [.ref aM_s, .ref aM_image, .ref aM_read, .ref aM_saved, .ref aM_kept, .ref aM_sort, .ref aM_size, .ref aM_element, .ref aM_keptKind, .ref aM_keptFigure, .int M_hasImage, .int M_thrown, .int M_pos, .int M_base, .int M_end, .int M_number, .int M_told, .ref aM_numbers, .ref aM_used, .ref aM_way, .ref aM_found, .int M_wayRow, .int M_wayTo, .int M_ways, .int M_endsBy, .int M_foundSize, .int M_foundWorth, .int M_foundCut, .ref aM_isOne, .ref aM_isTwo, .int ((M_z * 1103515245) + 12345), .int M_aside, .int M_byRow, .int M_byAt, .int M_one, .int M_two, .int M_slatesBy] M_s rfl r_1 hg) (cwV 0 hts gX8_handed_X8_heapSize rfl rfl rfl cd_X8_heapSize ⟨Nat.le_of_ble_eq_true rfl, Nat.le_of_ble_eq_true rfl⟩) hP hD hK [0, 1] (by decide) rfl rfl rfl rfl hl.1 rfl (Nat.le_of_ble_eq_true rfl) dX8_handed_28 ⟨Nat.zero_le _, Nat.zero_le _⟩ ?_
  obtain ⟨hz, h⟩ := ck_some h
  refine lv_irem hx hb dX8_handed_31 (nz_ne hz) ?_
  refine lv_istore_n (lv' := [(1, .int (((((M_z * 1103515245) + 12345) &&& 2147483647) / 65536) - ((((M_z * 1103515245) + 12345) &&& 2147483647) / 65536) / r_1 * r_1)), (0, .ref aM)]) hx hb dX8_handed_32 rfl hl (by decide) rfl (fun ls hl => ?_)
  refine lv_iconst (v := 0) hx hb dX8_handed_33 (by decide) ?_
  refine lv_istore_n (lv' := [(2, .int 0), (1, .int (((((M_z * 1103515245) + 12345) &&& 2147483647) / 65536) - ((((M_z * 1103515245) + 12345) &&& 2147483647) / 65536) / r_1 * r_1)), (0, .ref aM)]) hx hb dX8_handed_34 rfl hl (by decide) rfl (fun ls hl => ?_)
  have L35_4 : ∀ (n_5 : Nat) (v1_6 : Int32) (v2_7 : Int32)  (ls : Array Slot) (H : Heap) (locs : List Loc), f_X8_handed_L35 N M_s ((M_z * 1103515245) + 12345) n_5 v1_6 v2_7 = some res → lv_has ls 3 [(0, .ref aM), (1, .int v1_6), (2, .int v2_7)] → va_P (dC, dI) vwCl [(aM, .inr (7, [.ref aM_s, .ref aM_image, .ref aM_read, .ref aM_saved, .ref aM_kept, .ref aM_sort, .ref aM_size, .ref aM_element, .ref aM_keptKind, .ref aM_keptFigure, .int M_hasImage, .int M_thrown, .int M_pos, .int M_base, .int M_end, .int M_number, .int M_told, .ref aM_numbers, .ref aM_used, .ref aM_way, .ref aM_found, .int M_wayRow, .int M_wayTo, .int M_ways, .int M_endsBy, .int M_foundSize, .int M_foundWorth, .int M_foundCut, .ref aM_isOne, .ref aM_isTwo, .int ((M_z * 1103515245) + 12345), .int M_aside, .int M_byRow, .int M_byAt, .int M_one, .int M_two, .int M_slatesBy])), (aM_s, .inl (cI, 99, .inl M_s))] H → va_D A [(aM, .inr (7, [.ref aM_s, .ref aM_image, .ref aM_read, .ref aM_saved, .ref aM_kept, .ref aM_sort, .ref aM_size, .ref aM_element, .ref aM_keptKind, .ref aM_keptFigure, .int M_hasImage, .int M_thrown, .int M_pos, .int M_base, .int M_end, .int M_number, .int M_told, .ref aM_numbers, .ref aM_used, .ref aM_way, .ref aM_found, .int M_wayRow, .int M_wayTo, .int M_ways, .int M_endsBy, .int M_foundSize, .int M_foundWorth, .int M_foundCut, .ref aM_isOne, .ref aM_isTwo, .int ((M_z * 1103515245) + 12345), .int M_aside, .int M_byRow, .int M_byAt, .int M_one, .int M_two, .int M_slatesBy])), (aM_s, .inl (cI, 99, .inl M_s))] → va_S A s.heap H locs → W p l e (headSpec wsX8_handed ({ frames := 2, cells := 0, slots := 0, locals := 43 })).room s m ([.ref aM] : List Value).toArray below meth c H locs 0 0 (MQ below (va_Qi (fun (r : Int32) (_ : Unit) => r = res.1) (fun _ => qW (dC, dI) cI cZ cS A [(aM, .inr (7, [.ref aM_s, .ref aM_image, .ref aM_read, .ref aM_saved, .ref aM_kept, .ref aM_sort, .ref aM_size, .ref aM_element, .ref aM_keptKind, .ref aM_keptFigure, .int M_hasImage, .int M_thrown, .int M_pos, .int M_base, .int M_end, .int M_number, .int M_told, .ref aM_numbers, .ref aM_used, .ref aM_way, .ref aM_found, .int M_wayRow, .int M_wayTo, .int M_ways, .int M_endsBy, .int M_foundSize, .int M_foundWorth, .int M_foundCut, .ref aM_isOne, .ref aM_isTwo, .int res.2, .int M_aside, .int M_byRow, .int M_byAt, .int M_one, .int M_two, .int M_slatesBy])), (aM_s, .inl (cI, 99, .inl M_s))]) A) ([.ref aM] : List Value).toArray s 0 0 A) (F0 m 35 ls []) := by
    intro n_5
    induction n_5 with
    | zero =>
      intro v1_6 v2_7 ls H locs h
      simp only [f_X8_handed_L35] at h
      try exact absurd h (by simp)
    | succ n_5 ihn_5 =>
      intro v1_6 v2_7 ls H locs h hl hP hD hS
      rw [f_X8_handed_L35] at h
      refine lv_iload_n hx hb dX8_handed_35 rfl (lv_at hl 1 rfl) ?_
      refine lv_aload_n hx hb dX8_handed_36 rfl (lv_at hl 0 rfl) ?_
      refine lv_iload_n hx hb dX8_handed_37 rfl (lv_at hl 2 rfl) ?_
      obtain ⟨r_8, hg, h⟩ := bd_some h
      refine rdV (As := [.int v2_7]) (rest := [.int v1_6]) (ci := 7) ⟨hx, hb, hml, hown, hts⟩ (k_X8_many l dC dI cI cZ cS N aM aM_s [.ref aM_s, .ref aM_image, .ref aM_read, .ref aM_saved, .ref aM_kept, .ref aM_sort, .ref aM_size, .ref aM_element, .ref aM_keptKind, .ref aM_keptFigure, .int M_hasImage, .int M_thrown, .int M_pos, .int M_base, .int M_end, .int M_number, .int M_told, .ref aM_numbers, .ref aM_used, .ref aM_way, .ref aM_found, .int M_wayRow, .int M_wayTo, .int M_ways, .int M_endsBy, .int M_foundSize, .int M_foundWorth, .int M_foundCut, .ref aM_isOne, .ref aM_isTwo, .int ((M_z * 1103515245) + 12345), .int M_aside, .int M_byRow, .int M_byAt, .int M_one, .int M_two, .int M_slatesBy] M_s v2_7 rfl r_8 hg) (cwV 1 hts gX8_handed_X8_many rfl rfl rfl cd_X8_many ⟨Nat.le_of_ble_eq_true rfl, Nat.le_of_ble_eq_true rfl⟩) hP hD hK [0, 1] (by decide) rfl rfl rfl rfl hl.1 rfl (Nat.le_of_ble_eq_true rfl) dX8_handed_38 ⟨Nat.zero_le _, Nat.zero_le _⟩ ?_
      refine lv_icmp_lt (tgt := 58) hx hb dX8_handed_41 (by decide) (fun c_9 => ?_) (fun c_9 => ?_)
      · have h := it_p c_9 h
        refine lv_iload_n hx hb dX8_handed_58 rfl (lv_at hl 2 rfl) ?_
        have h := Option.some.inj h
        exact W.iret hx hb hr (fun t ht hW => ⟨⟨_, (), rfl, by rw [← h], by (try rw [← h]); rw [ht]; exact hP, va_K.moved hW.alike hK, by (try rw [← h]); exact hD⟩, hS.F ht⟩) hS.2.2 dX8_handed_59
      · have h := it_n c_9 h
        refine lv_iload_n hx hb dX8_handed_44 rfl (lv_at hl 1 rfl) ?_
        refine lv_aload_n hx hb dX8_handed_45 rfl (lv_at hl 0 rfl) ?_
        refine lv_iload_n hx hb dX8_handed_46 rfl (lv_at hl 2 rfl) ?_
        obtain ⟨r_10, hg, h⟩ := bd_some h
        refine rdV (As := [.int v2_7]) (rest := [.int v1_6]) (ci := 7) ⟨hx, hb, hml, hown, hts⟩ (k_X8_many l dC dI cI cZ cS N aM aM_s [.ref aM_s, .ref aM_image, .ref aM_read, .ref aM_saved, .ref aM_kept, .ref aM_sort, .ref aM_size, .ref aM_element, .ref aM_keptKind, .ref aM_keptFigure, .int M_hasImage, .int M_thrown, .int M_pos, .int M_base, .int M_end, .int M_number, .int M_told, .ref aM_numbers, .ref aM_used, .ref aM_way, .ref aM_found, .int M_wayRow, .int M_wayTo, .int M_ways, .int M_endsBy, .int M_foundSize, .int M_foundWorth, .int M_foundCut, .ref aM_isOne, .ref aM_isTwo, .int ((M_z * 1103515245) + 12345), .int M_aside, .int M_byRow, .int M_byAt, .int M_one, .int M_two, .int M_slatesBy] M_s v2_7 rfl r_10 hg) (cwV 1 hts gX8_handed_X8_many rfl rfl rfl cd_X8_many ⟨Nat.le_of_ble_eq_true rfl, Nat.le_of_ble_eq_true rfl⟩) hP hD hK [0, 1] (by decide) rfl rfl rfl rfl hl.1 rfl (Nat.le_of_ble_eq_true rfl) dX8_handed_47 ⟨Nat.zero_le _, Nat.zero_le _⟩ ?_
        refine lv_isub hx hb dX8_handed_50 ?_
        refine lv_istore_n (lv' := [(1, .int (v1_6 - r_10)), (0, .ref aM), (2, .int v2_7)]) hx hb dX8_handed_51 rfl hl (by decide) rfl (fun ls hl => ?_)
        refine lv_iinc (v := (v2_7 + 1)) (lv' := [(2, .int (v2_7 + 1)), (1, .int (v1_6 - r_10)), (0, .ref aM)]) hx hb dX8_handed_52 hl (k := 2) rfl rfl (by decide) rfl (fun ls hl => ?_)
        refine lv_goto (tgt := 35) hx hb dX8_handed_55 (by decide) ?_
        exact ihn_5 (v1_6 - r_10) (v2_7 + 1) ls _ _ h (lv_sub hl [2, 1, 0] rfl) hP hD hS
  exact L35_4 N (((((M_z * 1103515245) + 12345) &&& 2147483647) / 65536) - ((((M_z * 1103515245) + 12345) &&& 2147483647) / 65536) / r_1 * r_1) 0 ls _ _ h (lv_sub hl [2, 1, 0] rfl) hP hD hS
def f_X8_isBetter (N : Nat) (M_s : Nat → Int32) (x1 : Int32) (x2 : Int32) (x3 : Int32) (x4 : Int32) : Option (Bool) :=
  if 0 ≤ x4 then (if x1 = 1 then ((f_X8_inches N M_s x3).bind fun r_3 => (f_X8_inches N M_s x4).bind fun r_4 => if r_3 ≤ r_4 then (some (false)) else (some (true))) else (if x1 = 2 then (some (false)) else (if x1 = 3 then ((f_X8_inches N M_s x3).bind fun r_8 => (f_X8_inches N M_s x4).bind fun r_9 => if r_9 ≤ r_8 then (some (false)) else (some (true))) else (if x1 = 4 then ((f_X8_inches N M_s x3).bind fun r_12 => (f_X8_inches N M_s x4).bind fun r_13 => if r_12 ≤ r_13 then (some (false)) else (some (true))) else (if x1 = 5 then (some (false)) else (if x1 = 6 then (if 0 ≤ (x3 - (x2 - x2 / 4 * 4)) then (if 0 ≤ (x4 - (x2 - x2 / 4 * 4)) then (if (x4 - (x2 - x2 / 4 * 4)) ≤ (x3 - (x2 - x2 / 4 * 4)) then (some (false)) else (some (true))) else (if (-(x4 - (x2 - x2 / 4 * 4))) ≤ (x3 - (x2 - x2 / 4 * 4)) then (some (false)) else (some (true)))) else (if 0 ≤ (x4 - (x2 - x2 / 4 * 4)) then (if (x4 - (x2 - x2 / 4 * 4)) ≤ (-(x3 - (x2 - x2 / 4 * 4))) then (some (false)) else (some (true))) else (if (-(x4 - (x2 - x2 / 4 * 4))) ≤ (-(x3 - (x2 - x2 / 4 * 4))) then (some (false)) else (some (true))))) else (some (false)))))))) else (some (true))
set_option maxHeartbeats 4000000 in
set_option maxRecDepth 100000 in
theorem k_X8_isBetter (l : Launch) (dC : Nat → ClassId) (dI : Nat → Nat → Nat) (cI cZ cS : ClassId) (N : Nat) (aM aM_s : Nat) (fs_M : List Value) (M_s : Nat → Int32) (x1 : Int32) (x2 : Int32) (x3 : Int32) (x4 : Int32) (hf_M_s : fs_M[0]? = some (.ref aM_s)) (res : Bool) (h : f_X8_isBetter N M_s x1 x2 x3 x4 = some res) : Met l yX8_isBetter wsX8_isBetter ({ frames := 1, cells := 0, slots := 0, locals := 21 }) (va_Pc [.ref aM, .int x1, .int x2, .int x3, .int x4] (wd (dC, dI) cI cZ cS [(aM, .inr (7, fs_M)), (aM_s, .inl (cI, 99, .inl M_s))])) (vp_Si (fun r => r = b2i res)) 0 0 (fun _ => False) := by
  refine Met.ofW (cc := cX8_isBetter) (maxL := 7) (ret := (some .boolean)) (by decide) rfl ?_
  intro p e s m args below meth c s₁ B hml hv
  obtain ⟨rfl, hP, hK, hD⟩ := hv
  have hx := B.exec
  have hb := B.bytes
  have hr := B.returns
  have hts := atoms_spec (ws := wsX8_isBetter) B.pre
  have hown : s.vm.findClass RX8 = some m.cls := findClass_of_methodNamed B.named
  have hlocks := B.notSynchronized
  have hl := lv_entry ([.ref aM, .int x1, .int x2, .int x3, .int x4]) (n := 7) (Nat.le_of_ble_eq_true rfl)
  rw [lg_entry_eq]
  generalize (lg_sl ([.ref aM, .int x1, .int x2, .int x3, .int x4]) ++ List.replicate (7 - (lg_sl ([.ref aM, .int x1, .int x2, .int x3, .int x4])).length) Slot.unset).toArray = ls at hl ⊢
  have hl : lv_has ls 7 [(0, .ref aM), (1, .int x1), (2, .int x2), (3, .int x3), (4, .int x4)] := hl
  unfold f_X8_isBetter at h
  refine lv_iload hx hb dX8_isBetter_0 (lv_at hl 4 rfl) ?_
  refine lv_if_ge (tgt := 7) hx hb dX8_isBetter_2 (by decide) (fun c_1 => ?_) (fun c_1 => ?_)
  · have h := it_p c_1 h
    refine lv_iload_n hx hb dX8_isBetter_7 rfl (lv_at hl 3 rfl) ?_
    refine lv_iload_n hx hb dX8_isBetter_8 rfl (lv_at hl 2 rfl) ?_
    refine lv_iconst (v := 4) hx hb dX8_isBetter_9 (by decide) ?_
    refine lv_irem hx hb dX8_isBetter_10 (by decide) ?_
    refine lv_isub hx hb dX8_isBetter_11 ?_
    refine lv_istore (lv' := [(5, .int (x3 - (x2 - x2 / 4 * 4))), (0, .ref aM), (1, .int x1), (2, .int x2), (3, .int x3), (4, .int x4)]) hx hb dX8_isBetter_12 hl (by decide) rfl (fun ls hl => ?_)
    refine lv_iload hx hb dX8_isBetter_14 (lv_at hl 5 rfl) ?_
    refine lv_iload_n hx hb dX8_isBetter_16 rfl (lv_at hl 3 rfl) ?_
    refine lv_iconst (v := 4) hx hb dX8_isBetter_17 (by decide) ?_
    refine lv_irem hx hb dX8_isBetter_18 (by decide) ?_
    refine lv_isub hx hb dX8_isBetter_19 ?_
    refine lv_istore (lv' := [(6, .int (x4 - (x2 - x2 / 4 * 4))), (5, .int (x3 - (x2 - x2 / 4 * 4))), (0, .ref aM), (1, .int x1), (2, .int x2), (3, .int x3), (4, .int x4)]) hx hb dX8_isBetter_20 hl (by decide) rfl (fun ls hl => ?_)
    refine lv_iload_n hx hb dX8_isBetter_22 rfl (lv_at hl 3 rfl) ?_
    by_cases c_2 : x1 = 1
    · have h := it_p c_2 h
      refine lv_tableIn (tgt := 60) hx hb dX8_isBetter_23 (by rw [c_2]; decide) (by rw [c_2]; decide) (by rw [c_2]; rfl) (by decide) ?_
      refine lv_aload_n hx hb dX8_isBetter_60 rfl (lv_at hl 2 rfl) ?_
      refine lv_iload_n hx hb dX8_isBetter_61 rfl (lv_at hl 5 rfl) ?_
      obtain ⟨r_3, hg, h⟩ := bd_some h
      refine rdV (As := [.int x3]) (rest := []) (ci := 7) ⟨hx, hb, hml, hown, hts⟩ (k_X8_inches l dC dI cI cZ cS N aM aM_s fs_M M_s x3 hf_M_s r_3 hg) (cwV 1 hts gX8_isBetter_X8_inches rfl rfl rfl cd_X8_inches ⟨Nat.le_of_ble_eq_true rfl, Nat.le_of_ble_eq_true rfl⟩) hP hD hK [0, 1] (by decide) rfl rfl rfl rfl hl.1 rfl (Nat.le_of_ble_eq_true rfl) dX8_isBetter_62 ⟨Nat.zero_le _, Nat.zero_le _⟩ ?_
      refine lv_aload_n hx hb dX8_isBetter_65 rfl (lv_at hl 2 rfl) ?_
      refine lv_iload hx hb dX8_isBetter_66 (lv_at hl 6 rfl) ?_
      obtain ⟨r_4, hg, h⟩ := bd_some h
      refine rdV (As := [.int x4]) (rest := [.int r_3]) (ci := 7) ⟨hx, hb, hml, hown, hts⟩ (k_X8_inches l dC dI cI cZ cS N aM aM_s fs_M M_s x4 hf_M_s r_4 hg) (cwV 1 hts gX8_isBetter_X8_inches rfl rfl rfl cd_X8_inches ⟨Nat.le_of_ble_eq_true rfl, Nat.le_of_ble_eq_true rfl⟩) hP hD hK [0, 1] (by decide) rfl rfl rfl rfl hl.1 rfl (Nat.le_of_ble_eq_true rfl) dX8_isBetter_68 ⟨Nat.zero_le _, Nat.zero_le _⟩ ?_
      refine lv_icmp_le (tgt := 78) hx hb dX8_isBetter_71 (by decide) (fun c_5 => ?_) (fun c_5 => ?_)
      · have h := it_p c_5 h
        refine lv_iconst (v := 0) hx hb dX8_isBetter_78 (by decide) ?_
        exact W.zret (v := b2i false) hx hb hr (b2i_nar _) (fun t ht hW => ⟨b2i false, rfl, congrArg b2i (Option.some.inj h), ht⟩) (fun q hq => by cases hq) dX8_isBetter_79
      · have h := it_n c_5 h
        refine lv_iconst (v := 1) hx hb dX8_isBetter_74 (by decide) ?_
        refine lv_goto (tgt := 79) hx hb dX8_isBetter_75 (by decide) ?_
        exact W.zret (v := b2i true) hx hb hr (b2i_nar _) (fun t ht hW => ⟨b2i true, rfl, congrArg b2i (Option.some.inj h), ht⟩) (fun q hq => by cases hq) dX8_isBetter_79
    have h := it_n c_2 h
    by_cases c_6 : x1 = 2
    · have h := it_p c_6 h
      refine lv_tableIn (tgt := 135) hx hb dX8_isBetter_23 (by rw [c_6]; decide) (by rw [c_6]; decide) (by rw [c_6]; rfl) (by decide) ?_
      refine lv_iconst (v := 0) hx hb dX8_isBetter_135 (by decide) ?_
      exact W.zret (v := b2i false) hx hb hr (b2i_nar _) (fun t ht hW => ⟨b2i false, rfl, congrArg b2i (Option.some.inj h), ht⟩) (fun q hq => by cases hq) dX8_isBetter_136
    have h := it_n c_6 h
    by_cases c_7 : x1 = 3
    · have h := it_p c_7 h
      refine lv_tableIn (tgt := 80) hx hb dX8_isBetter_23 (by rw [c_7]; decide) (by rw [c_7]; decide) (by rw [c_7]; rfl) (by decide) ?_
      refine lv_aload_n hx hb dX8_isBetter_80 rfl (lv_at hl 2 rfl) ?_
      refine lv_iload_n hx hb dX8_isBetter_81 rfl (lv_at hl 5 rfl) ?_
      obtain ⟨r_8, hg, h⟩ := bd_some h
      refine rdV (As := [.int x3]) (rest := []) (ci := 7) ⟨hx, hb, hml, hown, hts⟩ (k_X8_inches l dC dI cI cZ cS N aM aM_s fs_M M_s x3 hf_M_s r_8 hg) (cwV 1 hts gX8_isBetter_X8_inches rfl rfl rfl cd_X8_inches ⟨Nat.le_of_ble_eq_true rfl, Nat.le_of_ble_eq_true rfl⟩) hP hD hK [0, 1] (by decide) rfl rfl rfl rfl hl.1 rfl (Nat.le_of_ble_eq_true rfl) dX8_isBetter_82 ⟨Nat.zero_le _, Nat.zero_le _⟩ ?_
      refine lv_aload_n hx hb dX8_isBetter_85 rfl (lv_at hl 2 rfl) ?_
      refine lv_iload hx hb dX8_isBetter_86 (lv_at hl 6 rfl) ?_
      obtain ⟨r_9, hg, h⟩ := bd_some h
      refine rdV (As := [.int x4]) (rest := [.int r_8]) (ci := 7) ⟨hx, hb, hml, hown, hts⟩ (k_X8_inches l dC dI cI cZ cS N aM aM_s fs_M M_s x4 hf_M_s r_9 hg) (cwV 1 hts gX8_isBetter_X8_inches rfl rfl rfl cd_X8_inches ⟨Nat.le_of_ble_eq_true rfl, Nat.le_of_ble_eq_true rfl⟩) hP hD hK [0, 1] (by decide) rfl rfl rfl rfl hl.1 rfl (Nat.le_of_ble_eq_true rfl) dX8_isBetter_88 ⟨Nat.zero_le _, Nat.zero_le _⟩ ?_
      refine lv_icmp_ge (tgt := 98) hx hb dX8_isBetter_91 (by decide) (fun c_10 => ?_) (fun c_10 => ?_)
      · have h := it_p c_10 h
        refine lv_iconst (v := 0) hx hb dX8_isBetter_98 (by decide) ?_
        exact W.zret (v := b2i false) hx hb hr (b2i_nar _) (fun t ht hW => ⟨b2i false, rfl, congrArg b2i (Option.some.inj h), ht⟩) (fun q hq => by cases hq) dX8_isBetter_99
      · have h := it_n c_10 h
        refine lv_iconst (v := 1) hx hb dX8_isBetter_94 (by decide) ?_
        refine lv_goto (tgt := 99) hx hb dX8_isBetter_95 (by decide) ?_
        exact W.zret (v := b2i true) hx hb hr (b2i_nar _) (fun t ht hW => ⟨b2i true, rfl, congrArg b2i (Option.some.inj h), ht⟩) (fun q hq => by cases hq) dX8_isBetter_99
    have h := it_n c_7 h
    by_cases c_11 : x1 = 4
    · have h := it_p c_11 h
      refine lv_tableIn (tgt := 60) hx hb dX8_isBetter_23 (by rw [c_11]; decide) (by rw [c_11]; decide) (by rw [c_11]; rfl) (by decide) ?_
      refine lv_aload_n hx hb dX8_isBetter_60 rfl (lv_at hl 2 rfl) ?_
      refine lv_iload_n hx hb dX8_isBetter_61 rfl (lv_at hl 5 rfl) ?_
      obtain ⟨r_12, hg, h⟩ := bd_some h
      refine rdV (As := [.int x3]) (rest := []) (ci := 7) ⟨hx, hb, hml, hown, hts⟩ (k_X8_inches l dC dI cI cZ cS N aM aM_s fs_M M_s x3 hf_M_s r_12 hg) (cwV 1 hts gX8_isBetter_X8_inches rfl rfl rfl cd_X8_inches ⟨Nat.le_of_ble_eq_true rfl, Nat.le_of_ble_eq_true rfl⟩) hP hD hK [0, 1] (by decide) rfl rfl rfl rfl hl.1 rfl (Nat.le_of_ble_eq_true rfl) dX8_isBetter_62 ⟨Nat.zero_le _, Nat.zero_le _⟩ ?_
      refine lv_aload_n hx hb dX8_isBetter_65 rfl (lv_at hl 2 rfl) ?_
      refine lv_iload hx hb dX8_isBetter_66 (lv_at hl 6 rfl) ?_
      obtain ⟨r_13, hg, h⟩ := bd_some h
      refine rdV (As := [.int x4]) (rest := [.int r_12]) (ci := 7) ⟨hx, hb, hml, hown, hts⟩ (k_X8_inches l dC dI cI cZ cS N aM aM_s fs_M M_s x4 hf_M_s r_13 hg) (cwV 1 hts gX8_isBetter_X8_inches rfl rfl rfl cd_X8_inches ⟨Nat.le_of_ble_eq_true rfl, Nat.le_of_ble_eq_true rfl⟩) hP hD hK [0, 1] (by decide) rfl rfl rfl rfl hl.1 rfl (Nat.le_of_ble_eq_true rfl) dX8_isBetter_68 ⟨Nat.zero_le _, Nat.zero_le _⟩ ?_
      refine lv_icmp_le (tgt := 78) hx hb dX8_isBetter_71 (by decide) (fun c_14 => ?_) (fun c_14 => ?_)
      · have h := it_p c_14 h
        refine lv_iconst (v := 0) hx hb dX8_isBetter_78 (by decide) ?_
        exact W.zret (v := b2i false) hx hb hr (b2i_nar _) (fun t ht hW => ⟨b2i false, rfl, congrArg b2i (Option.some.inj h), ht⟩) (fun q hq => by cases hq) dX8_isBetter_79
      · have h := it_n c_14 h
        refine lv_iconst (v := 1) hx hb dX8_isBetter_74 (by decide) ?_
        refine lv_goto (tgt := 79) hx hb dX8_isBetter_75 (by decide) ?_
        exact W.zret (v := b2i true) hx hb hr (b2i_nar _) (fun t ht hW => ⟨b2i true, rfl, congrArg b2i (Option.some.inj h), ht⟩) (fun q hq => by cases hq) dX8_isBetter_79
    have h := it_n c_11 h
    by_cases c_15 : x1 = 5
    · have h := it_p c_15 h
      refine lv_tableIn (tgt := 135) hx hb dX8_isBetter_23 (by rw [c_15]; decide) (by rw [c_15]; decide) (by rw [c_15]; rfl) (by decide) ?_
      refine lv_iconst (v := 0) hx hb dX8_isBetter_135 (by decide) ?_
      exact W.zret (v := b2i false) hx hb hr (b2i_nar _) (fun t ht hW => ⟨b2i false, rfl, congrArg b2i (Option.some.inj h), ht⟩) (fun q hq => by cases hq) dX8_isBetter_136
    have h := it_n c_15 h
    by_cases c_16 : x1 = 6
    · have h := it_p c_16 h
      refine lv_tableIn (tgt := 100) hx hb dX8_isBetter_23 (by rw [c_16]; decide) (by rw [c_16]; decide) (by rw [c_16]; rfl) (by decide) ?_
      refine lv_iload hx hb dX8_isBetter_100 (lv_at hl 1 rfl) ?_
      refine lv_if_ge (tgt := 111) hx hb dX8_isBetter_102 (by decide) (fun c_17 => ?_) (fun c_17 => ?_)
      · have h := it_p c_17 h
        refine lv_iload hx hb dX8_isBetter_111 (lv_at hl 1 rfl) ?_
        refine lv_iload hx hb dX8_isBetter_113 (lv_at hl 0 rfl) ?_
        refine lv_if_ge (tgt := 124) hx hb dX8_isBetter_115 (by decide) (fun c_18 => ?_) (fun c_18 => ?_)
        · have h := it_p c_18 h
          refine lv_iload hx hb dX8_isBetter_124 (lv_at hl 0 rfl) ?_
          refine lv_icmp_ge (tgt := 133) hx hb dX8_isBetter_126 (by decide) (fun c_19 => ?_) (fun c_19 => ?_)
          · have h := it_p c_19 h
            refine lv_iconst (v := 0) hx hb dX8_isBetter_133 (by decide) ?_
            exact W.zret (v := b2i false) hx hb hr (b2i_nar _) (fun t ht hW => ⟨b2i false, rfl, congrArg b2i (Option.some.inj h), ht⟩) (fun q hq => by cases hq) dX8_isBetter_134
          · have h := it_n c_19 h
            refine lv_iconst (v := 1) hx hb dX8_isBetter_129 (by decide) ?_
            refine lv_goto (tgt := 134) hx hb dX8_isBetter_130 (by decide) ?_
            exact W.zret (v := b2i true) hx hb hr (b2i_nar _) (fun t ht hW => ⟨b2i true, rfl, congrArg b2i (Option.some.inj h), ht⟩) (fun q hq => by cases hq) dX8_isBetter_134
        · have h := it_n c_18 h
          refine lv_iload hx hb dX8_isBetter_118 (lv_at hl 0 rfl) ?_
          refine lv_ineg hx hb dX8_isBetter_120 ?_
          refine lv_goto (tgt := 126) hx hb dX8_isBetter_121 (by decide) ?_
          refine lv_icmp_ge (tgt := 133) hx hb dX8_isBetter_126 (by decide) (fun c_20 => ?_) (fun c_20 => ?_)
          · have h := it_p c_20 h
            refine lv_iconst (v := 0) hx hb dX8_isBetter_133 (by decide) ?_
            exact W.zret (v := b2i false) hx hb hr (b2i_nar _) (fun t ht hW => ⟨b2i false, rfl, congrArg b2i (Option.some.inj h), ht⟩) (fun q hq => by cases hq) dX8_isBetter_134
          · have h := it_n c_20 h
            refine lv_iconst (v := 1) hx hb dX8_isBetter_129 (by decide) ?_
            refine lv_goto (tgt := 134) hx hb dX8_isBetter_130 (by decide) ?_
            exact W.zret (v := b2i true) hx hb hr (b2i_nar _) (fun t ht hW => ⟨b2i true, rfl, congrArg b2i (Option.some.inj h), ht⟩) (fun q hq => by cases hq) dX8_isBetter_134
      · have h := it_n c_17 h
        refine lv_iload hx hb dX8_isBetter_105 (lv_at hl 1 rfl) ?_
        refine lv_ineg hx hb dX8_isBetter_107 ?_
        refine lv_goto (tgt := 113) hx hb dX8_isBetter_108 (by decide) ?_
        refine lv_iload hx hb dX8_isBetter_113 (lv_at hl 0 rfl) ?_
        refine lv_if_ge (tgt := 124) hx hb dX8_isBetter_115 (by decide) (fun c_21 => ?_) (fun c_21 => ?_)
        · have h := it_p c_21 h
          refine lv_iload hx hb dX8_isBetter_124 (lv_at hl 0 rfl) ?_
          refine lv_icmp_ge (tgt := 133) hx hb dX8_isBetter_126 (by decide) (fun c_22 => ?_) (fun c_22 => ?_)
          · have h := it_p c_22 h
            refine lv_iconst (v := 0) hx hb dX8_isBetter_133 (by decide) ?_
            exact W.zret (v := b2i false) hx hb hr (b2i_nar _) (fun t ht hW => ⟨b2i false, rfl, congrArg b2i (Option.some.inj h), ht⟩) (fun q hq => by cases hq) dX8_isBetter_134
          · have h := it_n c_22 h
            refine lv_iconst (v := 1) hx hb dX8_isBetter_129 (by decide) ?_
            refine lv_goto (tgt := 134) hx hb dX8_isBetter_130 (by decide) ?_
            exact W.zret (v := b2i true) hx hb hr (b2i_nar _) (fun t ht hW => ⟨b2i true, rfl, congrArg b2i (Option.some.inj h), ht⟩) (fun q hq => by cases hq) dX8_isBetter_134
        · have h := it_n c_21 h
          refine lv_iload hx hb dX8_isBetter_118 (lv_at hl 0 rfl) ?_
          refine lv_ineg hx hb dX8_isBetter_120 ?_
          refine lv_goto (tgt := 126) hx hb dX8_isBetter_121 (by decide) ?_
          refine lv_icmp_ge (tgt := 133) hx hb dX8_isBetter_126 (by decide) (fun c_23 => ?_) (fun c_23 => ?_)
          · have h := it_p c_23 h
            refine lv_iconst (v := 0) hx hb dX8_isBetter_133 (by decide) ?_
            exact W.zret (v := b2i false) hx hb hr (b2i_nar _) (fun t ht hW => ⟨b2i false, rfl, congrArg b2i (Option.some.inj h), ht⟩) (fun q hq => by cases hq) dX8_isBetter_134
          · have h := it_n c_23 h
            refine lv_iconst (v := 1) hx hb dX8_isBetter_129 (by decide) ?_
            refine lv_goto (tgt := 134) hx hb dX8_isBetter_130 (by decide) ?_
            exact W.zret (v := b2i true) hx hb hr (b2i_nar _) (fun t ht hW => ⟨b2i true, rfl, congrArg b2i (Option.some.inj h), ht⟩) (fun q hq => by cases hq) dX8_isBetter_134
    have h := it_n c_16 h
    refine lv_tableOut (tgt := 135) hx hb dX8_isBetter_23 (by have qc_2 := lv_neT (a := 1) c_2 rfl; have qc_6 := lv_neT (a := 2) c_6 rfl; have qc_7 := lv_neT (a := 3) c_7 rfl; have qc_11 := lv_neT (a := 4) c_11 rfl; have qc_15 := lv_neT (a := 5) c_15 rfl; have qc_16 := lv_neT (a := 6) c_16 rfl; omega) (by decide) ?_
    refine lv_iconst (v := 0) hx hb dX8_isBetter_135 (by decide) ?_
    exact W.zret (v := b2i false) hx hb hr (b2i_nar _) (fun t ht hW => ⟨b2i false, rfl, congrArg b2i (Option.some.inj h), ht⟩) (fun q hq => by cases hq) dX8_isBetter_136
  · have h := it_n c_1 h
    refine lv_iconst (v := 1) hx hb dX8_isBetter_5 (by decide) ?_
    exact W.zret (v := b2i true) hx hb hr (b2i_nar _) (fun t ht hW => ⟨b2i true, rfl, congrArg b2i (Option.some.inj h), ht⟩) (fun q hq => by cases hq) dX8_isBetter_6
def f_X8_chosen_L6 (N : Nat) (M_s : Nat → Int32) (M_byRow : Int32) (M_byAt : Int32) (x1 : Int32) (x2 : Int32) : Nat → Int32 → Int32 → Option (Int32)
  | 0, _, _ => none
  | n + 1, v3, v4 =>
    ck (gi 1 99) (if (M_s (1 : Int32).toNatClampNeg) ≤ v4 then (some (v3)) else (if x1 = 4 then ((f_X8_canLay N M_s M_byRow M_byAt v4 1).bind fun r_7 => if (b2i r_7) = 0 then (f_X8_chosen_L6 N M_s M_byRow M_byAt x1 x2 n v3 (v4 + 1)) else ((f_X8_isBetter N M_s x1 x2 v4 v3).bind fun r_9 => if (b2i r_9) = 0 then (f_X8_chosen_L6 N M_s M_byRow M_byAt x1 x2 n v3 (v4 + 1)) else (f_X8_chosen_L6 N M_s M_byRow M_byAt x1 x2 n v4 (v4 + 1)))) else ((f_X8_canLay N M_s M_byRow M_byAt v4 0).bind fun r_3 => if (b2i r_3) = 0 then (f_X8_chosen_L6 N M_s M_byRow M_byAt x1 x2 n v3 (v4 + 1)) else ((f_X8_isBetter N M_s x1 x2 v4 v3).bind fun r_5 => if (b2i r_5) = 0 then (f_X8_chosen_L6 N M_s M_byRow M_byAt x1 x2 n v3 (v4 + 1)) else (f_X8_chosen_L6 N M_s M_byRow M_byAt x1 x2 n v4 (v4 + 1))))))
def f_X8_chosen (N : Nat) (M_s : Nat → Int32) (M_byRow : Int32) (M_byAt : Int32) (x1 : Int32) (x2 : Int32) : Option (Int32) :=
  f_X8_chosen_L6 N M_s M_byRow M_byAt x1 x2 N (-4) 0
set_option maxHeartbeats 4000000 in
set_option maxRecDepth 100000 in
theorem k_X8_chosen (l : Launch) (dC : Nat → ClassId) (dI : Nat → Nat → Nat) (cI cZ cS : ClassId) (N : Nat) (aM aM_s : Nat) (fs_M : List Value) (M_s : Nat → Int32) (M_byRow : Int32) (M_byAt : Int32) (x1 : Int32) (x2 : Int32) (hf_M_s : fs_M[0]? = some (.ref aM_s)) (hf_M_byRow : fs_M[32]? = some (.int M_byRow)) (hf_M_byAt : fs_M[33]? = some (.int M_byAt)) (res : Int32) (h : f_X8_chosen N M_s M_byRow M_byAt x1 x2 = some res) : Met l yX8_chosen wsX8_chosen ({ frames := 4, cells := 0, slots := 0, locals := 93 }) (va_Pc [.ref aM, .int x1, .int x2] (wd (dC, dI) cI cZ cS [(aM, .inr (7, fs_M)), (aM_s, .inl (cI, 99, .inl M_s))])) (vp_Si (fun r => r = res)) 0 0 (fun _ => False) := by
  refine Met.ofW (cc := cX8_chosen) (maxL := 5) (ret := (some .int)) (by decide) rfl ?_
  intro p e s m args below meth c s₁ B hml hv
  obtain ⟨rfl, hP, hK, hD⟩ := hv
  have hx := B.exec
  have hb := B.bytes
  have hr := B.returns
  have hts := atoms_spec (ws := wsX8_chosen) B.pre
  have hown : s.vm.findClass RX8 = some m.cls := findClass_of_methodNamed B.named
  have hlocks := B.notSynchronized
  have hl := lv_entry ([.ref aM, .int x1, .int x2]) (n := 5) (Nat.le_of_ble_eq_true rfl)
  rw [lg_entry_eq]
  generalize (lg_sl ([.ref aM, .int x1, .int x2]) ++ List.replicate (5 - (lg_sl ([.ref aM, .int x1, .int x2])).length) Slot.unset).toArray = ls at hl ⊢
  have hl : lv_has ls 5 [(0, .ref aM), (1, .int x1), (2, .int x2)] := hl
  unfold f_X8_chosen at h
  refine lv_bipush (v := (-4)) hx hb dX8_chosen_0 (by decide) ?_
  refine lv_istore_n (lv' := [(3, .int (-4)), (0, .ref aM), (1, .int x1), (2, .int x2)]) hx hb dX8_chosen_2 rfl hl (by decide) rfl (fun ls hl => ?_)
  refine lv_iconst (v := 0) hx hb dX8_chosen_3 (by decide) ?_
  refine lv_istore (lv' := [(4, .int 0), (3, .int (-4)), (0, .ref aM), (1, .int x1), (2, .int x2)]) hx hb dX8_chosen_4 hl (by decide) rfl (fun ls hl => ?_)
  have L6_10 : ∀ (n_11 : Nat) (v3_12 : Int32) (v4_13 : Int32)  (ls : Array Slot), f_X8_chosen_L6 N M_s M_byRow M_byAt x1 x2 n_11 v3_12 v4_13 = some res → lv_has ls 5 [(0, .ref aM), (1, .int x1), (2, .int x2), (3, .int v3_12), (4, .int v4_13)] → W p l e (headSpec wsX8_chosen ({ frames := 4, cells := 0, slots := 0, locals := 93 })).room s m ([.ref aM, .int x1, .int x2] : List Value).toArray below meth c s.heap [] 0 0 (MQ below (vp_Si (fun r => r = res)) ([.ref aM, .int x1, .int x2] : List Value).toArray s 0 0 (fun _ => False)) (F0 m 6 ls []) := by
    intro n_11
    induction n_11 with
    | zero =>
      intro v3_12 v4_13 ls h
      simp only [f_X8_chosen_L6] at h
      try exact absurd h (by simp)
    | succ n_11 ihn_11 =>
      intro v3_12 v4_13 ls h hl
      rw [f_X8_chosen_L6] at h
      refine lv_iload hx hb dX8_chosen_6 (lv_at hl 4 rfl) ?_
      refine lv_aload_n hx hb dX8_chosen_8 rfl (lv_at hl 0 rfl) ?_
      refine va_get (D := (dC, dI)) (ci := 7) (v := .ref aM_s) (C := RX8) (T := TX8) (N := 37) hx hb hts (fun _ h => List.mem_cons_of_mem _ (List.mem_append_right _ h)) hown hK hP 0 rfl rfl 0 (by decide) (hts (.fieldLink RX8 9 "SlateRowsModel" "s" "[I") (by decide +kernel)) (fun _ h9 => h9) hf_M_s dX8_chosen_9 ?_
      refine lv_iconst (v := 1) hx hb dX8_chosen_12 (by decide) ?_
      obtain ⟨hi, h⟩ := ck_some h
      refine va_iald hx hb hK hP 1 0 rfl rfl (gi_in hi) dX8_chosen_13 ?_
      refine lv_icmp_ge (tgt := 57) hx hb dX8_chosen_14 (by decide) (fun c_14 => ?_) (fun c_14 => ?_)
      · have h := it_p c_14 h
        refine lv_iload_n hx hb dX8_chosen_57 rfl (lv_at hl 3 rfl) ?_
        exact W.iret hx hb hr (fun t ht hW => ⟨_, rfl, Option.some.inj h, ht⟩) (fun q hq => by cases hq) dX8_chosen_58
      · have h := it_n c_14 h
        refine lv_aload_n hx hb dX8_chosen_17 rfl (lv_at hl 0 rfl) ?_
        refine lv_iload hx hb dX8_chosen_18 (lv_at hl 4 rfl) ?_
        refine lv_iload_n hx hb dX8_chosen_20 rfl (lv_at hl 1 rfl) ?_
        refine lv_iconst (v := 4) hx hb dX8_chosen_21 (by decide) ?_
        refine lv_icmp_ne (tgt := 29) hx hb dX8_chosen_22 (by decide) (fun c_15 => ?_) (fun c_15 => ?_)
        · have h := it_n c_15 h
          refine lv_iconst (v := 0) hx hb dX8_chosen_29 (by decide) ?_
          obtain ⟨r_16, hg, h⟩ := bd_some h
          refine rdV (As := [.int v4_13, .int 0]) (rest := []) (ci := 7) ⟨hx, hb, hml, hown, hts⟩ (k_X8_canLay l dC dI cI cZ cS N aM aM_s fs_M M_s M_byRow M_byAt v4_13 0 hf_M_s hf_M_byRow hf_M_byAt r_16 hg) (cwV 2 hts gX8_chosen_X8_canLay rfl rfl rfl cd_X8_canLay ⟨Nat.le_of_ble_eq_true rfl, Nat.le_of_ble_eq_true rfl⟩) hP hD hK [0, 1] (by decide) rfl rfl rfl rfl hl.1 rfl (Nat.le_of_ble_eq_true rfl) dX8_chosen_30 ⟨Nat.zero_le _, Nat.zero_le _⟩ ?_
          refine lv_if_eq (tgt := 51) hx hb dX8_chosen_33 (by decide) (fun c_17 => ?_) (fun c_17 => ?_)
          · have h := it_p c_17 h
            refine lv_iinc (v := (v4_13 + 1)) (lv' := [(4, .int (v4_13 + 1)), (0, .ref aM), (1, .int x1), (2, .int x2), (3, .int v3_12)]) hx hb dX8_chosen_51 hl (k := 4) rfl rfl (by decide) rfl (fun ls hl => ?_)
            refine lv_goto (tgt := 6) hx hb dX8_chosen_54 (by decide) ?_
            exact ihn_11 v3_12 (v4_13 + 1) ls h (lv_sub hl [1, 2, 3, 4, 0] rfl)
          · have h := it_n c_17 h
            refine lv_aload_n hx hb dX8_chosen_36 rfl (lv_at hl 0 rfl) ?_
            refine lv_iload_n hx hb dX8_chosen_37 rfl (lv_at hl 1 rfl) ?_
            refine lv_iload_n hx hb dX8_chosen_38 rfl (lv_at hl 2 rfl) ?_
            refine lv_iload hx hb dX8_chosen_39 (lv_at hl 4 rfl) ?_
            refine lv_iload_n hx hb dX8_chosen_41 rfl (lv_at hl 3 rfl) ?_
            obtain ⟨r_18, hg, h⟩ := bd_some h
            refine rdV (As := [.int x1, .int x2, .int v4_13, .int v3_12]) (rest := []) (ci := 7) ⟨hx, hb, hml, hown, hts⟩ (k_X8_isBetter l dC dI cI cZ cS N aM aM_s fs_M M_s x1 x2 v4_13 v3_12 hf_M_s r_18 hg) (cwV 4 hts gX8_chosen_X8_isBetter rfl rfl rfl cd_X8_isBetter ⟨Nat.le_of_ble_eq_true rfl, Nat.le_of_ble_eq_true rfl⟩) hP hD hK [0, 1] (by decide) rfl rfl rfl rfl hl.1 rfl (Nat.le_of_ble_eq_true rfl) dX8_chosen_42 ⟨Nat.zero_le _, Nat.zero_le _⟩ ?_
            refine lv_if_eq (tgt := 51) hx hb dX8_chosen_45 (by decide) (fun c_19 => ?_) (fun c_19 => ?_)
            · have h := it_p c_19 h
              refine lv_iinc (v := (v4_13 + 1)) (lv' := [(4, .int (v4_13 + 1)), (0, .ref aM), (1, .int x1), (2, .int x2), (3, .int v3_12)]) hx hb dX8_chosen_51 hl (k := 4) rfl rfl (by decide) rfl (fun ls hl => ?_)
              refine lv_goto (tgt := 6) hx hb dX8_chosen_54 (by decide) ?_
              exact ihn_11 v3_12 (v4_13 + 1) ls h (lv_sub hl [1, 2, 3, 4, 0] rfl)
            · have h := it_n c_19 h
              refine lv_iload hx hb dX8_chosen_48 (lv_at hl 4 rfl) ?_
              refine lv_istore_n (lv' := [(3, .int v4_13), (0, .ref aM), (1, .int x1), (2, .int x2), (4, .int v4_13)]) hx hb dX8_chosen_50 rfl hl (by decide) rfl (fun ls hl => ?_)
              refine lv_iinc (v := (v4_13 + 1)) (lv' := [(4, .int (v4_13 + 1)), (3, .int v4_13), (0, .ref aM), (1, .int x1), (2, .int x2)]) hx hb dX8_chosen_51 hl (k := 4) rfl rfl (by decide) rfl (fun ls hl => ?_)
              refine lv_goto (tgt := 6) hx hb dX8_chosen_54 (by decide) ?_
              exact ihn_11 v4_13 (v4_13 + 1) ls h (lv_sub hl [2, 3, 4, 1, 0] rfl)
        · have h := it_p c_15 h
          refine lv_iconst (v := 1) hx hb dX8_chosen_25 (by decide) ?_
          refine lv_goto (tgt := 30) hx hb dX8_chosen_26 (by decide) ?_
          obtain ⟨r_20, hg, h⟩ := bd_some h
          refine rdV (As := [.int v4_13, .int 1]) (rest := []) (ci := 7) ⟨hx, hb, hml, hown, hts⟩ (k_X8_canLay l dC dI cI cZ cS N aM aM_s fs_M M_s M_byRow M_byAt v4_13 1 hf_M_s hf_M_byRow hf_M_byAt r_20 hg) (cwV 2 hts gX8_chosen_X8_canLay rfl rfl rfl cd_X8_canLay ⟨Nat.le_of_ble_eq_true rfl, Nat.le_of_ble_eq_true rfl⟩) hP hD hK [0, 1] (by decide) rfl rfl rfl rfl hl.1 rfl (Nat.le_of_ble_eq_true rfl) dX8_chosen_30 ⟨Nat.zero_le _, Nat.zero_le _⟩ ?_
          refine lv_if_eq (tgt := 51) hx hb dX8_chosen_33 (by decide) (fun c_21 => ?_) (fun c_21 => ?_)
          · have h := it_p c_21 h
            refine lv_iinc (v := (v4_13 + 1)) (lv' := [(4, .int (v4_13 + 1)), (0, .ref aM), (1, .int x1), (2, .int x2), (3, .int v3_12)]) hx hb dX8_chosen_51 hl (k := 4) rfl rfl (by decide) rfl (fun ls hl => ?_)
            refine lv_goto (tgt := 6) hx hb dX8_chosen_54 (by decide) ?_
            exact ihn_11 v3_12 (v4_13 + 1) ls h (lv_sub hl [1, 2, 3, 4, 0] rfl)
          · have h := it_n c_21 h
            refine lv_aload_n hx hb dX8_chosen_36 rfl (lv_at hl 0 rfl) ?_
            refine lv_iload_n hx hb dX8_chosen_37 rfl (lv_at hl 1 rfl) ?_
            refine lv_iload_n hx hb dX8_chosen_38 rfl (lv_at hl 2 rfl) ?_
            refine lv_iload hx hb dX8_chosen_39 (lv_at hl 4 rfl) ?_
            refine lv_iload_n hx hb dX8_chosen_41 rfl (lv_at hl 3 rfl) ?_
            obtain ⟨r_22, hg, h⟩ := bd_some h
            refine rdV (As := [.int x1, .int x2, .int v4_13, .int v3_12]) (rest := []) (ci := 7) ⟨hx, hb, hml, hown, hts⟩ (k_X8_isBetter l dC dI cI cZ cS N aM aM_s fs_M M_s x1 x2 v4_13 v3_12 hf_M_s r_22 hg) (cwV 4 hts gX8_chosen_X8_isBetter rfl rfl rfl cd_X8_isBetter ⟨Nat.le_of_ble_eq_true rfl, Nat.le_of_ble_eq_true rfl⟩) hP hD hK [0, 1] (by decide) rfl rfl rfl rfl hl.1 rfl (Nat.le_of_ble_eq_true rfl) dX8_chosen_42 ⟨Nat.zero_le _, Nat.zero_le _⟩ ?_
            refine lv_if_eq (tgt := 51) hx hb dX8_chosen_45 (by decide) (fun c_23 => ?_) (fun c_23 => ?_)
            · have h := it_p c_23 h
              refine lv_iinc (v := (v4_13 + 1)) (lv' := [(4, .int (v4_13 + 1)), (0, .ref aM), (1, .int x1), (2, .int x2), (3, .int v3_12)]) hx hb dX8_chosen_51 hl (k := 4) rfl rfl (by decide) rfl (fun ls hl => ?_)
              refine lv_goto (tgt := 6) hx hb dX8_chosen_54 (by decide) ?_
              exact ihn_11 v3_12 (v4_13 + 1) ls h (lv_sub hl [1, 2, 3, 4, 0] rfl)
            · have h := it_n c_23 h
              refine lv_iload hx hb dX8_chosen_48 (lv_at hl 4 rfl) ?_
              refine lv_istore_n (lv' := [(3, .int v4_13), (0, .ref aM), (1, .int x1), (2, .int x2), (4, .int v4_13)]) hx hb dX8_chosen_50 rfl hl (by decide) rfl (fun ls hl => ?_)
              refine lv_iinc (v := (v4_13 + 1)) (lv' := [(4, .int (v4_13 + 1)), (3, .int v4_13), (0, .ref aM), (1, .int x1), (2, .int x2)]) hx hb dX8_chosen_51 hl (k := 4) rfl rfl (by decide) rfl (fun ls hl => ?_)
              refine lv_goto (tgt := 6) hx hb dX8_chosen_54 (by decide) ?_
              exact ihn_11 v4_13 (v4_13 + 1) ls h (lv_sub hl [2, 3, 4, 1, 0] rfl)
  exact L6_10 N (-4) 0 ls h (lv_sub hl [2, 3, 4, 1, 0] rfl)
