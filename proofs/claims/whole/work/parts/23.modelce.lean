theorem cd_X8_restore : yX8_restore.cls = RX8 ∧ yX8_restore.cls ≠ "java/lang/invoke/MethodHandle" ∧ yX8_restore.cls ≠ "java/lang/invoke/VarHandle" ∧ (parseMethodDescriptor yX8_restore.desc).map (fun d => d.parameters.length) = some 0 := by decide +kernel
theorem cd_X8_count : yX8_count.cls = RX8 ∧ yX8_count.cls ≠ "java/lang/invoke/MethodHandle" ∧ yX8_count.cls ≠ "java/lang/invoke/VarHandle" ∧ (parseMethodDescriptor yX8_count.desc).map (fun d => d.parameters.length) = some 1 := by decide +kernel
theorem cd_X8_keep : yX8_keep.cls = RX8 ∧ yX8_keep.cls ≠ "java/lang/invoke/MethodHandle" ∧ yX8_keep.cls ≠ "java/lang/invoke/VarHandle" ∧ (parseMethodDescriptor yX8_keep.desc).map (fun d => d.parameters.length) = some 4 := by decide +kernel
theorem cd_X8_row : yX8_row.cls = RX8 ∧ yX8_row.cls ≠ "java/lang/invoke/MethodHandle" ∧ yX8_row.cls ≠ "java/lang/invoke/VarHandle" ∧ (parseMethodDescriptor yX8_row.desc).map (fun d => d.parameters.length) = some 3 := by decide +kernel
theorem cd_X8_put : yX8_put.cls = RX8 ∧ yX8_put.cls ≠ "java/lang/invoke/MethodHandle" ∧ yX8_put.cls ≠ "java/lang/invoke/VarHandle" ∧ (parseMethodDescriptor yX8_put.desc).map (fun d => d.parameters.length) = some 3 := by decide +kernel
def f_X8_restore_L12 (N : Nat) (M_image : Nat → Int32) (M_hasImage : Int32) : Nat → Int32 → (Nat → Int32) → Option (Int32 × (Nat → Int32))
  | 0, _, _ => none
  | n + 1, v1, M_s =>
    if 99 ≤ v1 then (ck (gi 2 99) (some ((M_s (2 : Int32).toNatClampNeg), M_s))) else (ck (gi v1 99) (ck (gi v1 99) (f_X8_restore_L12 N M_image M_hasImage n (v1 + 1) (upd M_s v1.toNatClampNeg (M_image v1.toNatClampNeg)))))
def f_X8_restore (N : Nat) (M_s : Nat → Int32) (M_image : Nat → Int32) (M_hasImage : Int32) : Option (Int32 × (Nat → Int32)) :=
  if M_hasImage = 0 then (some ((-3), M_s)) else (f_X8_restore_L12 N M_image M_hasImage N 0 M_s)
set_option maxHeartbeats 4000000 in
set_option maxRecDepth 100000 in
theorem k_X8_restore (l : Launch) (dC : Nat → ClassId) (dI : Nat → Nat → Nat) (cI cZ cS : ClassId) (N : Nat) (aM aM_s aM_image : Nat) (fs_M : List Value) (sz : Nat) (M_s : Nat → Int32) (M_image : Nat → Int32) (M_hasImage : Int32) (hf_M_s : fs_M[0]? = some (.ref aM_s)) (hf_M_image : fs_M[1]? = some (.ref aM_image)) (hf_M_hasImage : fs_M[10]? = some (.int M_hasImage)) (res : Int32 × (Nat → Int32)) (h : f_X8_restore N M_s M_image M_hasImage = some res) : Met l yX8_restore wsX8_restore ({ frames := 0, cells := 0, slots := 0, locals := 0 }) (va_Pc [.ref aM] (preW (dC, dI) cI cZ cS [(aM, .inr (7, fs_M)), (aM_s, .inl (cI, 99, .inl M_s)), (aM_image, .inl (cI, 99, .inl M_image))] sz)) (va_Qi (fun (r : Int32) (_ : Unit) => r = res.1) (fun _ => qW (dC, dI) cI cZ cS (va_A [(aM, .inr (7, fs_M)), (aM_s, .inl (cI, 99, .inl M_s)), (aM_image, .inl (cI, 99, .inl M_image))] sz) [(aM, .inr (7, fs_M)), (aM_s, .inl (cI, 99, .inl res.2)), (aM_image, .inl (cI, 99, .inl M_image))]) (va_A [(aM, .inr (7, fs_M)), (aM_s, .inl (cI, 99, .inl M_s)), (aM_image, .inl (cI, 99, .inl M_image))] sz)) 0 0 (va_A [(aM, .inr (7, fs_M)), (aM_s, .inl (cI, 99, .inl M_s)), (aM_image, .inl (cI, 99, .inl M_image))] sz) := by
  refine Met.ofW (cc := cX8_restore) (maxL := 2) (ret := (some .int)) (by decide) rfl ?_
  intro p e s m args below meth c s₁ B hml hv
  obtain ⟨rfl, hsz, hP, hK, hD0⟩ := hv
  have hx := B.exec
  have hb := B.bytes
  have hr := B.returns
  have hts := atoms_spec (ws := wsX8_restore) B.pre
  have hown : s.vm.findClass RX8 = some m.cls := findClass_of_methodNamed B.named
  have hlocks := B.notSynchronized
  subst hsz
  have hD := hD0.self (sz := s.heap.size)
  generalize hAe : va_A [(aM, .inr (7, fs_M)), (aM_s, .inl (cI, 99, .inl M_s)), (aM_image, .inl (cI, 99, .inl M_image))] s.heap.size = A at hD ⊢
  have hA : ∀ q : Nat, s.heap.size ≤ q → A q := fun q h => by rw [← hAe]; exact Or.inr h
  have hS : va_S A s.heap s.heap [] := va_S.rf
  have hl := lv_entry ([.ref aM]) (n := 2) (Nat.le_of_ble_eq_true rfl)
  rw [lg_entry_eq]
  generalize (lg_sl ([.ref aM]) ++ List.replicate (2 - (lg_sl ([.ref aM])).length) Slot.unset).toArray = ls at hl ⊢
  have hl : lv_has ls 2 [(0, .ref aM)] := hl
  unfold f_X8_restore at h
  refine lv_aload_n hx hb dX8_restore_0 rfl (lv_at hl 0 rfl) ?_
  refine va_get (D := (dC, dI)) (ci := 7) (v := .int M_hasImage) (C := RX8) (T := TX8) (N := 37) hx hb hts (fun _ h => List.mem_cons_of_mem _ (List.mem_append_right _ h)) hown hK hP 0 rfl rfl 10 (by decide) (hts (.fieldLink RX8 296 "SlateRowsModel" "hasImage" "Z") (by decide +kernel)) (fun _ h9 => h9) hf_M_hasImage dX8_restore_1 ?_
  refine lv_if_ne (tgt := 10) hx hb dX8_restore_4 (by decide) (fun c_1 => ?_) (fun c_1 => ?_)
  · have h := it_n c_1 h
    refine lv_iconst (v := 0) hx hb dX8_restore_10 (by decide) ?_
    refine lv_istore_n (lv' := [(1, .int 0), (0, .ref aM)]) hx hb dX8_restore_11 rfl hl (by decide) rfl (fun ls hl => ?_)
    have L12_2 : ∀ (n_3 : Nat) (v1_4 : Int32) (M_s_5 : Nat → Int32) (ls : Array Slot) (H : Heap) (locs : List Loc), f_X8_restore_L12 N M_image M_hasImage n_3 v1_4 M_s_5 = some res → lv_has ls 2 [(0, .ref aM), (1, .int v1_4)] → va_P (dC, dI) vwCl [(aM, .inr (7, fs_M)), (aM_s, .inl (cI, 99, .inl M_s_5)), (aM_image, .inl (cI, 99, .inl M_image))] H → va_D A [(aM, .inr (7, fs_M)), (aM_s, .inl (cI, 99, .inl M_s_5)), (aM_image, .inl (cI, 99, .inl M_image))] → va_S A s.heap H locs → W p l e (headSpec wsX8_restore ({ frames := 0, cells := 0, slots := 0, locals := 0 })).room s m ([.ref aM] : List Value).toArray below meth c H locs 0 0 (MQ below (va_Qi (fun (r : Int32) (_ : Unit) => r = res.1) (fun _ => qW (dC, dI) cI cZ cS A [(aM, .inr (7, fs_M)), (aM_s, .inl (cI, 99, .inl res.2)), (aM_image, .inl (cI, 99, .inl M_image))]) A) ([.ref aM] : List Value).toArray s 0 0 A) (F0 m 12 ls []) := by
      intro n_3
      induction n_3 with
      | zero =>
        intro v1_4 M_s_5 ls H locs h
        simp only [f_X8_restore_L12] at h
        try exact absurd h (by simp)
      | succ n_3 ihn_3 =>
        intro v1_4 M_s_5 ls H locs h hl hP hD hS
        rw [f_X8_restore_L12] at h
        refine lv_iload_n hx hb dX8_restore_12 rfl (lv_at hl 1 rfl) ?_
        refine lv_bipush (v := 99) hx hb dX8_restore_13 (by decide) ?_
        refine lv_icmp_ge (tgt := 36) hx hb dX8_restore_15 (by decide) (fun c_6 => ?_) (fun c_6 => ?_)
        · have h := it_p c_6 h
          refine lv_aload_n hx hb dX8_restore_36 rfl (lv_at hl 0 rfl) ?_
          refine va_get (D := (dC, dI)) (ci := 7) (v := .ref aM_s) (C := RX8) (T := TX8) (N := 37) hx hb hts (fun _ h => List.mem_cons_of_mem _ (List.mem_append_right _ h)) hown hK hP 0 rfl rfl 0 (by decide) (hts (.fieldLink RX8 9 "SlateRowsModel" "s" "[I") (by decide +kernel)) (fun _ h9 => h9) hf_M_s dX8_restore_37 ?_
          refine lv_iconst (v := 2) hx hb dX8_restore_40 (by decide) ?_
          obtain ⟨hi, h⟩ := ck_some h
          refine va_iald hx hb hK hP 1 0 rfl rfl (gi_in hi) dX8_restore_41 ?_
          have h := Option.some.inj h
          exact W.iret hx hb hr (fun t ht hW => ⟨⟨_, (), rfl, by rw [← h], by (try rw [← h]); rw [ht]; exact hP, va_K.moved hW.alike hK, by (try rw [← h]); exact hD⟩, hS.F ht⟩) hS.2.2 dX8_restore_42
        · have h := it_n c_6 h
          refine lv_aload_n hx hb dX8_restore_18 rfl (lv_at hl 0 rfl) ?_
          refine va_get (D := (dC, dI)) (ci := 7) (v := .ref aM_s) (C := RX8) (T := TX8) (N := 37) hx hb hts (fun _ h => List.mem_cons_of_mem _ (List.mem_append_right _ h)) hown hK hP 0 rfl rfl 0 (by decide) (hts (.fieldLink RX8 9 "SlateRowsModel" "s" "[I") (by decide +kernel)) (fun _ h9 => h9) hf_M_s dX8_restore_19 ?_
          refine lv_iload_n hx hb dX8_restore_22 rfl (lv_at hl 1 rfl) ?_
          refine lv_aload_n hx hb dX8_restore_23 rfl (lv_at hl 0 rfl) ?_
          refine va_get (D := (dC, dI)) (ci := 7) (v := .ref aM_image) (C := RX8) (T := TX8) (N := 37) hx hb hts (fun _ h => List.mem_cons_of_mem _ (List.mem_append_right _ h)) hown hK hP 0 rfl rfl 1 (by decide) (hts (.fieldLink RX8 13 "SlateRowsModel" "image" "[I") (by decide +kernel)) (fun _ h9 => h9) hf_M_image dX8_restore_24 ?_
          refine lv_iload_n hx hb dX8_restore_27 rfl (lv_at hl 1 rfl) ?_
          obtain ⟨hi, h⟩ := ck_some h
          refine va_iald hx hb hK hP 2 0 rfl rfl (gi_in hi) dX8_restore_28 ?_
          obtain ⟨hi, h⟩ := ck_some h
          refine va_iast hx hb hK hP hD hS 1 0 rfl rfl (gi_in hi) dX8_restore_29 (fun H locs hP hD hS => ?_)
          have hP : va_P (dC, dI) vwCl [(aM, .inr (7, fs_M)), (aM_s, .inl (cI, 99, .inl (upd M_s_5 v1_4.toNatClampNeg (M_image v1_4.toNatClampNeg)))), (aM_image, .inl (cI, 99, .inl M_image))] H := hP
          have hD : va_D A [(aM, .inr (7, fs_M)), (aM_s, .inl (cI, 99, .inl (upd M_s_5 v1_4.toNatClampNeg (M_image v1_4.toNatClampNeg)))), (aM_image, .inl (cI, 99, .inl M_image))] := hD
          refine lv_iinc (v := (v1_4 + 1)) (lv' := [(1, .int (v1_4 + 1)), (0, .ref aM)]) hx hb dX8_restore_30 hl (k := 1) rfl rfl (by decide) rfl (fun ls hl => ?_)
          refine lv_goto (tgt := 12) hx hb dX8_restore_33 (by decide) ?_
          exact ihn_3 (v1_4 + 1) (upd M_s_5 v1_4.toNatClampNeg (M_image v1_4.toNatClampNeg)) ls _ _ h (lv_sub hl [1, 0] rfl) hP hD hS
    exact L12_2 N 0 M_s ls _ _ h (lv_sub hl [1, 0] rfl) hP hD hS
  · have h := it_p c_1 h
    refine lv_bipush (v := (-3)) hx hb dX8_restore_7 (by decide) ?_
    have h := Option.some.inj h
    exact W.iret hx hb hr (fun t ht hW => ⟨⟨_, (), rfl, by rw [← h], by (try rw [← h]); rw [ht]; exact hP, va_K.moved hW.alike hK, by (try rw [← h]); exact hD⟩, hS.F ht⟩) hS.2.2 dX8_restore_9
def f_X8_count_L68 (N : Nat) (M_s : Nat → Int32) : Nat → Int32 → Int32 → Option (Int32)
  | 0, _, _ => none
  | n + 1, v2, v3 =>
    ck (gi 2 99) (if (M_s (2 : Int32).toNatClampNeg) ≤ v3 then (some (v2)) else ((f_X8_isLaid N M_s v3).bind fun r_8 => if (b2i r_8) = 0 then (f_X8_count_L68 N M_s n (v2 + 0) (v3 + 1)) else (f_X8_count_L68 N M_s n (v2 + 1) (v3 + 1))))
def f_X8_count (N : Nat) (M_s : Nat → Int32) (x1 : Int32) : Option (Int32) :=
  if x1 = 0 then (ck (gi 1 99) (some ((M_s (1 : Int32).toNatClampNeg)))) else (if x1 = 1 then (ck (gi 2 99) (some ((M_s (2 : Int32).toNatClampNeg)))) else (if x1 = 2 then (ck (gi 0 99) (some ((M_s (0 : Int32).toNatClampNeg)))) else (if x1 = 3 then ((f_X8_heapSize N M_s).bind fun r_5 => some (r_5)) else (if x1 = 4 then (f_X8_count_L68 N M_s N 0 0) else (if x1 = 5 then ((f_X8_heapWorth N M_s).bind fun r_17 => some (r_17)) else (some ((-1))))))))
set_option maxHeartbeats 4000000 in
set_option maxRecDepth 100000 in
theorem k_X8_count (l : Launch) (dC : Nat → ClassId) (dI : Nat → Nat → Nat) (cI cZ cS : ClassId) (N : Nat) (aM aM_s : Nat) (fs_M : List Value) (M_s : Nat → Int32) (x1 : Int32) (hf_M_s : fs_M[0]? = some (.ref aM_s)) (res : Int32) (h : f_X8_count N M_s x1 = some res) : Met l yX8_count wsX8_count ({ frames := 2, cells := 0, slots := 0, locals := 43 }) (va_Pc [.ref aM, .int x1] (wd (dC, dI) cI cZ cS [(aM, .inr (7, fs_M)), (aM_s, .inl (cI, 99, .inl M_s))])) (vp_Si (fun r => r = res)) 0 0 (fun _ => False) := by
  refine Met.ofW (cc := cX8_count) (maxL := 4) (ret := (some .int)) (by decide) rfl ?_
  intro p e s m args below meth c s₁ B hml hv
  obtain ⟨rfl, hP, hK, hD⟩ := hv
  have hx := B.exec
  have hb := B.bytes
  have hr := B.returns
  have hts := atoms_spec (ws := wsX8_count) B.pre
  have hown : s.vm.findClass RX8 = some m.cls := findClass_of_methodNamed B.named
  have hlocks := B.notSynchronized
  have hl := lv_entry ([.ref aM, .int x1]) (n := 4) (Nat.le_of_ble_eq_true rfl)
  rw [lg_entry_eq]
  generalize (lg_sl ([.ref aM, .int x1]) ++ List.replicate (4 - (lg_sl ([.ref aM, .int x1])).length) Slot.unset).toArray = ls at hl ⊢
  have hl : lv_has ls 4 [(0, .ref aM), (1, .int x1)] := hl
  unfold f_X8_count at h
  refine lv_iconst (v := 0) hx hb dX8_count_0 (by decide) ?_
  refine lv_istore_n (lv' := [(2, .int 0), (0, .ref aM), (1, .int x1)]) hx hb dX8_count_1 rfl hl (by decide) rfl (fun ls hl => ?_)
  refine lv_iload_n hx hb dX8_count_2 rfl (lv_at hl 2 rfl) ?_
  by_cases c_1 : x1 = 0
  · have h := it_p c_1 h
    refine lv_tableIn (tgt := 40) hx hb dX8_count_3 (by rw [c_1]; decide) (by rw [c_1]; decide) (by rw [c_1]; rfl) (by decide) ?_
    refine lv_aload_n hx hb dX8_count_40 rfl (lv_at hl 1 rfl) ?_
    refine va_get (D := (dC, dI)) (ci := 7) (v := .ref aM_s) (C := RX8) (T := TX8) (N := 37) hx hb hts (fun _ h => List.mem_cons_of_mem _ (List.mem_append_right _ h)) hown hK hP 0 rfl rfl 0 (by decide) (hts (.fieldLink RX8 9 "SlateRowsModel" "s" "[I") (by decide +kernel)) (fun _ h9 => h9) hf_M_s dX8_count_41 ?_
    refine lv_iconst (v := 1) hx hb dX8_count_44 (by decide) ?_
    obtain ⟨hi, h⟩ := ck_some h
    refine va_iald hx hb hK hP 1 0 rfl rfl (gi_in hi) dX8_count_45 ?_
    exact W.iret hx hb hr (fun t ht hW => ⟨_, rfl, Option.some.inj h, ht⟩) (fun q hq => by cases hq) dX8_count_46
  have h := it_n c_1 h
  by_cases c_2 : x1 = 1
  · have h := it_p c_2 h
    refine lv_tableIn (tgt := 47) hx hb dX8_count_3 (by rw [c_2]; decide) (by rw [c_2]; decide) (by rw [c_2]; rfl) (by decide) ?_
    refine lv_aload_n hx hb dX8_count_47 rfl (lv_at hl 1 rfl) ?_
    refine va_get (D := (dC, dI)) (ci := 7) (v := .ref aM_s) (C := RX8) (T := TX8) (N := 37) hx hb hts (fun _ h => List.mem_cons_of_mem _ (List.mem_append_right _ h)) hown hK hP 0 rfl rfl 0 (by decide) (hts (.fieldLink RX8 9 "SlateRowsModel" "s" "[I") (by decide +kernel)) (fun _ h9 => h9) hf_M_s dX8_count_48 ?_
    refine lv_iconst (v := 2) hx hb dX8_count_51 (by decide) ?_
    obtain ⟨hi, h⟩ := ck_some h
    refine va_iald hx hb hK hP 1 0 rfl rfl (gi_in hi) dX8_count_52 ?_
    exact W.iret hx hb hr (fun t ht hW => ⟨_, rfl, Option.some.inj h, ht⟩) (fun q hq => by cases hq) dX8_count_53
  have h := it_n c_2 h
  by_cases c_3 : x1 = 2
  · have h := it_p c_3 h
    refine lv_tableIn (tgt := 54) hx hb dX8_count_3 (by rw [c_3]; decide) (by rw [c_3]; decide) (by rw [c_3]; rfl) (by decide) ?_
    refine lv_aload_n hx hb dX8_count_54 rfl (lv_at hl 1 rfl) ?_
    refine va_get (D := (dC, dI)) (ci := 7) (v := .ref aM_s) (C := RX8) (T := TX8) (N := 37) hx hb hts (fun _ h => List.mem_cons_of_mem _ (List.mem_append_right _ h)) hown hK hP 0 rfl rfl 0 (by decide) (hts (.fieldLink RX8 9 "SlateRowsModel" "s" "[I") (by decide +kernel)) (fun _ h9 => h9) hf_M_s dX8_count_55 ?_
    refine lv_iconst (v := 0) hx hb dX8_count_58 (by decide) ?_
    obtain ⟨hi, h⟩ := ck_some h
    refine va_iald hx hb hK hP 1 0 rfl rfl (gi_in hi) dX8_count_59 ?_
    exact W.iret hx hb hr (fun t ht hW => ⟨_, rfl, Option.some.inj h, ht⟩) (fun q hq => by cases hq) dX8_count_60
  have h := it_n c_3 h
  by_cases c_4 : x1 = 3
  · have h := it_p c_4 h
    refine lv_tableIn (tgt := 61) hx hb dX8_count_3 (by rw [c_4]; decide) (by rw [c_4]; decide) (by rw [c_4]; rfl) (by decide) ?_
    refine lv_aload_n hx hb dX8_count_61 rfl (lv_at hl 1 rfl) ?_
    obtain ⟨r_5, hg, h⟩ := bd_some h
    refine rdV (As := []) (rest := []) (ci := 7) ⟨hx, hb, hml, hown, hts⟩ (k_X8_heapSize l dC dI cI cZ cS N aM aM_s fs_M M_s hf_M_s r_5 hg) (cwV 0 hts gX8_count_X8_heapSize rfl rfl rfl cd_X8_heapSize ⟨Nat.le_of_ble_eq_true rfl, Nat.le_of_ble_eq_true rfl⟩) hP hD hK [0, 1] (by decide) rfl rfl rfl rfl hl.1 rfl (Nat.le_of_ble_eq_true rfl) dX8_count_62 ⟨Nat.zero_le _, Nat.zero_le _⟩ ?_
    exact W.iret hx hb hr (fun t ht hW => ⟨_, rfl, Option.some.inj h, ht⟩) (fun q hq => by cases hq) dX8_count_65
  have h := it_n c_4 h
  by_cases c_6 : x1 = 4
  · have h := it_p c_6 h
    refine lv_tableIn (tgt := 66) hx hb dX8_count_3 (by rw [c_6]; decide) (by rw [c_6]; decide) (by rw [c_6]; rfl) (by decide) ?_
    refine lv_iconst (v := 0) hx hb dX8_count_66 (by decide) ?_
    refine lv_istore_n (lv' := [(3, .int 0), (2, .int 0), (0, .ref aM), (1, .int x1)]) hx hb dX8_count_67 rfl hl (by decide) rfl (fun ls hl => ?_)
    have L68_9 : ∀ (n_10 : Nat) (v2_11 : Int32) (v3_12 : Int32)  (ls : Array Slot), f_X8_count_L68 N M_s n_10 v2_11 v3_12 = some res → lv_has ls 4 [(0, .ref aM), (2, .int v2_11), (3, .int v3_12)] → W p l e (headSpec wsX8_count ({ frames := 2, cells := 0, slots := 0, locals := 43 })).room s m ([.ref aM, .int x1] : List Value).toArray below meth c s.heap [] 0 0 (MQ below (vp_Si (fun r => r = res)) ([.ref aM, .int x1] : List Value).toArray s 0 0 (fun _ => False)) (F0 m 68 ls []) := by
      intro n_10
      induction n_10 with
      | zero =>
        intro v2_11 v3_12 ls h
        simp only [f_X8_count_L68] at h
        try exact absurd h (by simp)
      | succ n_10 ihn_10 =>
        intro v2_11 v3_12 ls h hl
        rw [f_X8_count_L68] at h
        refine lv_iload_n hx hb dX8_count_68 rfl (lv_at hl 2 rfl) ?_
        refine lv_aload_n hx hb dX8_count_69 rfl (lv_at hl 0 rfl) ?_
        refine va_get (D := (dC, dI)) (ci := 7) (v := .ref aM_s) (C := RX8) (T := TX8) (N := 37) hx hb hts (fun _ h => List.mem_cons_of_mem _ (List.mem_append_right _ h)) hown hK hP 0 rfl rfl 0 (by decide) (hts (.fieldLink RX8 9 "SlateRowsModel" "s" "[I") (by decide +kernel)) (fun _ h9 => h9) hf_M_s dX8_count_70 ?_
        refine lv_iconst (v := 2) hx hb dX8_count_73 (by decide) ?_
        obtain ⟨hi, h⟩ := ck_some h
        refine va_iald hx hb hK hP 1 0 rfl rfl (gi_in hi) dX8_count_74 ?_
        refine lv_icmp_ge (tgt := 100) hx hb dX8_count_75 (by decide) (fun c_13 => ?_) (fun c_13 => ?_)
        · have h := it_p c_13 h
          refine lv_iload_n hx hb dX8_count_100 rfl (lv_at hl 1 rfl) ?_
          exact W.iret hx hb hr (fun t ht hW => ⟨_, rfl, Option.some.inj h, ht⟩) (fun q hq => by cases hq) dX8_count_101
        · have h := it_n c_13 h
          refine lv_iload_n hx hb dX8_count_78 rfl (lv_at hl 1 rfl) ?_
          refine lv_aload_n hx hb dX8_count_79 rfl (lv_at hl 0 rfl) ?_
          refine lv_iload_n hx hb dX8_count_80 rfl (lv_at hl 2 rfl) ?_
          obtain ⟨r_14, hg, h⟩ := bd_some h
          refine rdV (As := [.int v3_12]) (rest := [.int v2_11]) (ci := 7) ⟨hx, hb, hml, hown, hts⟩ (k_X8_isLaid l dC dI cI cZ cS N aM aM_s fs_M M_s v3_12 hf_M_s r_14 hg) (cwV 1 hts gX8_count_X8_isLaid rfl rfl rfl cd_X8_isLaid ⟨Nat.le_of_ble_eq_true rfl, Nat.le_of_ble_eq_true rfl⟩) hP hD hK [0, 1] (by decide) rfl rfl rfl rfl hl.1 rfl (Nat.le_of_ble_eq_true rfl) dX8_count_81 ⟨Nat.zero_le _, Nat.zero_le _⟩ ?_
          refine lv_if_eq (tgt := 91) hx hb dX8_count_84 (by decide) (fun c_15 => ?_) (fun c_15 => ?_)
          · have h := it_p c_15 h
            refine lv_iconst (v := 0) hx hb dX8_count_91 (by decide) ?_
            refine lv_iadd hx hb dX8_count_92 ?_
            refine lv_istore_n (lv' := [(2, .int (v2_11 + 0)), (0, .ref aM), (3, .int v3_12)]) hx hb dX8_count_93 rfl hl (by decide) rfl (fun ls hl => ?_)
            refine lv_iinc (v := (v3_12 + 1)) (lv' := [(3, .int (v3_12 + 1)), (2, .int (v2_11 + 0)), (0, .ref aM)]) hx hb dX8_count_94 hl (k := 2) rfl rfl (by decide) rfl (fun ls hl => ?_)
            refine lv_goto (tgt := 68) hx hb dX8_count_97 (by decide) ?_
            exact ihn_10 (v2_11 + 0) (v3_12 + 1) ls h (lv_sub hl [2, 1, 0] rfl)
          · have h := it_n c_15 h
            refine lv_iconst (v := 1) hx hb dX8_count_87 (by decide) ?_
            refine lv_goto (tgt := 92) hx hb dX8_count_88 (by decide) ?_
            refine lv_iadd hx hb dX8_count_92 ?_
            refine lv_istore_n (lv' := [(2, .int (v2_11 + 1)), (0, .ref aM), (3, .int v3_12)]) hx hb dX8_count_93 rfl hl (by decide) rfl (fun ls hl => ?_)
            refine lv_iinc (v := (v3_12 + 1)) (lv' := [(3, .int (v3_12 + 1)), (2, .int (v2_11 + 1)), (0, .ref aM)]) hx hb dX8_count_94 hl (k := 2) rfl rfl (by decide) rfl (fun ls hl => ?_)
            refine lv_goto (tgt := 68) hx hb dX8_count_97 (by decide) ?_
            exact ihn_10 (v2_11 + 1) (v3_12 + 1) ls h (lv_sub hl [2, 1, 0] rfl)
    exact L68_9 N 0 0 ls h (lv_sub hl [2, 1, 0] rfl)
  have h := it_n c_6 h
  by_cases c_16 : x1 = 5
  · have h := it_p c_16 h
    refine lv_tableIn (tgt := 102) hx hb dX8_count_3 (by rw [c_16]; decide) (by rw [c_16]; decide) (by rw [c_16]; rfl) (by decide) ?_
    refine lv_aload_n hx hb dX8_count_102 rfl (lv_at hl 1 rfl) ?_
    obtain ⟨r_17, hg, h⟩ := bd_some h
    refine rdV (As := []) (rest := []) (ci := 7) ⟨hx, hb, hml, hown, hts⟩ (k_X8_heapWorth l dC dI cI cZ cS N aM aM_s fs_M M_s hf_M_s r_17 hg) (cwV 0 hts gX8_count_X8_heapWorth rfl rfl rfl cd_X8_heapWorth ⟨Nat.le_of_ble_eq_true rfl, Nat.le_of_ble_eq_true rfl⟩) hP hD hK [0, 1] (by decide) rfl rfl rfl rfl hl.1 rfl (Nat.le_of_ble_eq_true rfl) dX8_count_103 ⟨Nat.zero_le _, Nat.zero_le _⟩ ?_
    exact W.iret hx hb hr (fun t ht hW => ⟨_, rfl, Option.some.inj h, ht⟩) (fun q hq => by cases hq) dX8_count_106
  have h := it_n c_16 h
  refine lv_tableOut (tgt := 107) hx hb dX8_count_3 (by have qc_1 := lv_neT (a := 0) c_1 rfl; have qc_2 := lv_neT (a := 1) c_2 rfl; have qc_3 := lv_neT (a := 2) c_3 rfl; have qc_4 := lv_neT (a := 3) c_4 rfl; have qc_6 := lv_neT (a := 4) c_6 rfl; have qc_16 := lv_neT (a := 5) c_16 rfl; omega) (by decide) ?_
  refine lv_iconst (v := (-1)) hx hb dX8_count_107 (by decide) ?_
  exact W.iret hx hb hr (fun t ht hW => ⟨_, rfl, Option.some.inj h, ht⟩) (fun q hq => by cases hq) dX8_count_108
def f_X8_keep (N : Nat) (M_kept : Nat → Int32) (M_keptKind : Nat → Int32) (M_keptFigure : Nat → Int32) (x1 : Int32) (x2 : Int32) (x3 : Int32) (x4 : Int32) : Option (Int32 × (Nat → Int32) × (Nat → Int32) × (Nat → Int32)) :=
  (f_X8_isShelf N x1).bind fun r_1 => if (b2i r_1) = 0 then (some ((-1), M_kept, M_keptKind, M_keptFigure)) else ((f_X8_isIn N x2.toInt64 0 1).bind fun r_3 => if (b2i r_3) = 0 then (some ((-1), M_kept, M_keptKind, M_keptFigure)) else (if x2 = 1 then ((f_X8_isIn N x3.toInt64 0 6).bind fun r_6 => if (b2i r_6) = 0 then (some ((-1), M_kept, M_keptKind, M_keptFigure)) else ((f_X8_isIn N x4.toInt64 0 9).bind fun r_8 => if (b2i r_8) = 0 then (some ((-1), M_kept, M_keptKind, M_keptFigure)) else (ck (gi x1 8) (ck (gi x1 8) (ck (gi x1 8) (some (0, (upd M_kept x1.toNatClampNeg x2), (upd M_keptKind x1.toNatClampNeg x3), (upd M_keptFigure x1.toNatClampNeg x4)))))))) else (ck (gi x1 8) (ck (gi x1 8) (ck (gi x1 8) (some (0, (upd M_kept x1.toNatClampNeg x2), (upd M_keptKind x1.toNatClampNeg x3), (upd M_keptFigure x1.toNatClampNeg x4))))))))
set_option maxHeartbeats 4000000 in
set_option maxRecDepth 100000 in
theorem k_X8_keep (l : Launch) (dC : Nat → ClassId) (dI : Nat → Nat → Nat) (cI cZ cS : ClassId) (N : Nat) (aM aM_kept aM_keptKind aM_keptFigure : Nat) (fs_M : List Value) (sz : Nat) (M_kept : Nat → Int32) (M_keptKind : Nat → Int32) (M_keptFigure : Nat → Int32) (x1 : Int32) (x2 : Int32) (x3 : Int32) (x4 : Int32) (hf_M_kept : fs_M[4]? = some (.ref aM_kept)) (hf_M_keptKind : fs_M[8]? = some (.ref aM_keptKind)) (hf_M_keptFigure : fs_M[9]? = some (.ref aM_keptFigure)) (res : Int32 × (Nat → Int32) × (Nat → Int32) × (Nat → Int32)) (h : f_X8_keep N M_kept M_keptKind M_keptFigure x1 x2 x3 x4 = some res) : Met l yX8_keep wsX8_keep ({ frames := 2, cells := 0, slots := 0, locals := 45 }) (va_Pc [.ref aM, .int x1, .int x2, .int x3, .int x4] (preW (dC, dI) cI cZ cS [(aM, .inr (7, fs_M)), (aM_kept, .inl (cI, 8, .inl M_kept)), (aM_keptKind, .inl (cI, 8, .inl M_keptKind)), (aM_keptFigure, .inl (cI, 8, .inl M_keptFigure))] sz)) (va_Qi (fun (r : Int32) (_ : Unit) => r = res.1) (fun _ => qW (dC, dI) cI cZ cS (va_A [(aM, .inr (7, fs_M)), (aM_kept, .inl (cI, 8, .inl M_kept)), (aM_keptKind, .inl (cI, 8, .inl M_keptKind)), (aM_keptFigure, .inl (cI, 8, .inl M_keptFigure))] sz) [(aM, .inr (7, fs_M)), (aM_kept, .inl (cI, 8, .inl res.2.1)), (aM_keptKind, .inl (cI, 8, .inl res.2.2.1)), (aM_keptFigure, .inl (cI, 8, .inl res.2.2.2))]) (va_A [(aM, .inr (7, fs_M)), (aM_kept, .inl (cI, 8, .inl M_kept)), (aM_keptKind, .inl (cI, 8, .inl M_keptKind)), (aM_keptFigure, .inl (cI, 8, .inl M_keptFigure))] sz)) 0 0 (va_A [(aM, .inr (7, fs_M)), (aM_kept, .inl (cI, 8, .inl M_kept)), (aM_keptKind, .inl (cI, 8, .inl M_keptKind)), (aM_keptFigure, .inl (cI, 8, .inl M_keptFigure))] sz) := by
  refine Met.ofW (cc := cX8_keep) (maxL := 5) (ret := (some .int)) (by decide) rfl ?_
  intro p e s m args below meth c s₁ B hml hv
  obtain ⟨rfl, hsz, hP, hK, hD0⟩ := hv
  have hx := B.exec
  have hb := B.bytes
  have hr := B.returns
  have hts := atoms_spec (ws := wsX8_keep) B.pre
  have hown : s.vm.findClass RX8 = some m.cls := findClass_of_methodNamed B.named
  have hlocks := B.notSynchronized
  subst hsz
  have hD := hD0.self (sz := s.heap.size)
  generalize hAe : va_A [(aM, .inr (7, fs_M)), (aM_kept, .inl (cI, 8, .inl M_kept)), (aM_keptKind, .inl (cI, 8, .inl M_keptKind)), (aM_keptFigure, .inl (cI, 8, .inl M_keptFigure))] s.heap.size = A at hD ⊢
  have hA : ∀ q : Nat, s.heap.size ≤ q → A q := fun q h => by rw [← hAe]; exact Or.inr h
  have hS : va_S A s.heap s.heap [] := va_S.rf
  have hl := lv_entry ([.ref aM, .int x1, .int x2, .int x3, .int x4]) (n := 5) (Nat.le_of_ble_eq_true rfl)
  rw [lg_entry_eq]
  generalize (lg_sl ([.ref aM, .int x1, .int x2, .int x3, .int x4]) ++ List.replicate (5 - (lg_sl ([.ref aM, .int x1, .int x2, .int x3, .int x4])).length) Slot.unset).toArray = ls at hl ⊢
  have hl : lv_has ls 5 [(0, .ref aM), (1, .int x1), (2, .int x2), (3, .int x3), (4, .int x4)] := hl
  unfold f_X8_keep at h
  refine lv_iload_n hx hb dX8_keep_0 rfl (lv_at hl 1 rfl) ?_
  obtain ⟨r_1, hg, h⟩ := bd_some h
  refine rdS (As := [.int x1]) (rest := []) ⟨hx, hb, hml, hown, hts⟩ (k_X8_isShelf l dC dI cI cZ cS N x1 r_1 hg) (va_cwS 1 hts gX8_keep_X8_isShelf rfl rfl rfl cd_X8_isShelf ⟨Nat.le_of_ble_eq_true rfl, Nat.le_of_ble_eq_true rfl⟩) hP hD hK [] (by decide) rfl rfl hl.1 rfl (Nat.le_of_ble_eq_true rfl) dX8_keep_1 ⟨Nat.zero_le _, Nat.zero_le _⟩ ?_
  refine lv_if_eq (tgt := 47) hx hb dX8_keep_4 (by decide) (fun c_2 => ?_) (fun c_2 => ?_)
  · have h := it_p c_2 h
    refine lv_iconst (v := (-1)) hx hb dX8_keep_47 (by decide) ?_
    have h := Option.some.inj h
    exact W.iret hx hb hr (fun t ht hW => ⟨⟨_, (), rfl, by rw [← h], by (try rw [← h]); rw [ht]; exact hP, va_K.moved hW.alike hK, by (try rw [← h]); exact hD⟩, hS.F ht⟩) hS.2.2 dX8_keep_48
  · have h := it_n c_2 h
    refine lv_iload_n hx hb dX8_keep_7 rfl (lv_at hl 2 rfl) ?_
    refine lv_i2l hx hb dX8_keep_8 rfl ?_
    refine lv_lconst (v := 0) hx hb dX8_keep_9 (by decide) ?_
    refine lv_lconst (v := 1) hx hb dX8_keep_10 (by decide) ?_
    obtain ⟨r_3, hg, h⟩ := bd_some h
    refine rdS (As := [.long x2.toInt64, .long 0, .long 1]) (rest := []) ⟨hx, hb, hml, hown, hts⟩ (k_X8_isIn l dC dI cI cZ cS N x2.toInt64 0 1 r_3 hg) (va_cwS 3 hts gX8_keep_X8_isIn rfl rfl rfl cd_X8_isIn ⟨Nat.le_of_ble_eq_true rfl, Nat.le_of_ble_eq_true rfl⟩) hP hD hK [] (by decide) rfl rfl hl.1 rfl (Nat.le_of_ble_eq_true rfl) dX8_keep_11 ⟨Nat.zero_le _, Nat.zero_le _⟩ ?_
    refine lv_if_eq (tgt := 47) hx hb dX8_keep_14 (by decide) (fun c_4 => ?_) (fun c_4 => ?_)
    · have h := it_p c_4 h
      refine lv_iconst (v := (-1)) hx hb dX8_keep_47 (by decide) ?_
      have h := Option.some.inj h
      exact W.iret hx hb hr (fun t ht hW => ⟨⟨_, (), rfl, by rw [← h], by (try rw [← h]); rw [ht]; exact hP, va_K.moved hW.alike hK, by (try rw [← h]); exact hD⟩, hS.F ht⟩) hS.2.2 dX8_keep_48
    · have h := it_n c_4 h
      refine lv_iload_n hx hb dX8_keep_17 rfl (lv_at hl 2 rfl) ?_
      refine lv_iconst (v := 1) hx hb dX8_keep_18 (by decide) ?_
      refine lv_icmp_ne (tgt := 49) hx hb dX8_keep_19 (by decide) (fun c_5 => ?_) (fun c_5 => ?_)
      · have h := it_n c_5 h
        refine lv_aload_n hx hb dX8_keep_49 rfl (lv_at hl 0 rfl) ?_
        refine va_get (D := (dC, dI)) (ci := 7) (v := .ref aM_kept) (C := RX8) (T := TX8) (N := 37) hx hb hts (fun _ h => List.mem_cons_of_mem _ (List.mem_append_right _ h)) hown hK hP 0 rfl rfl 4 (by decide) (hts (.fieldLink RX8 22 "SlateRowsModel" "kept" "[I") (by decide +kernel)) (fun _ h9 => h9) hf_M_kept dX8_keep_50 ?_
        refine lv_iload_n hx hb dX8_keep_53 rfl (lv_at hl 1 rfl) ?_
        refine lv_iload_n hx hb dX8_keep_54 rfl (lv_at hl 2 rfl) ?_
        obtain ⟨hi, h⟩ := ck_some h
        refine va_iast hx hb hK hP hD hS 1 0 rfl rfl (gi_in hi) dX8_keep_55 (fun H locs hP hD hS => ?_)
        have hP : va_P (dC, dI) vwCl [(aM, .inr (7, fs_M)), (aM_kept, .inl (cI, 8, .inl (upd M_kept x1.toNatClampNeg x2))), (aM_keptKind, .inl (cI, 8, .inl M_keptKind)), (aM_keptFigure, .inl (cI, 8, .inl M_keptFigure))] H := hP
        have hD : va_D A [(aM, .inr (7, fs_M)), (aM_kept, .inl (cI, 8, .inl (upd M_kept x1.toNatClampNeg x2))), (aM_keptKind, .inl (cI, 8, .inl M_keptKind)), (aM_keptFigure, .inl (cI, 8, .inl M_keptFigure))] := hD
        refine lv_aload_n hx hb dX8_keep_56 rfl (lv_at hl 0 rfl) ?_
        refine va_get (D := (dC, dI)) (ci := 7) (v := .ref aM_keptKind) (C := RX8) (T := TX8) (N := 37) hx hb hts (fun _ h => List.mem_cons_of_mem _ (List.mem_append_right _ h)) hown hK hP 0 rfl rfl 8 (by decide) (hts (.fieldLink RX8 34 "SlateRowsModel" "keptKind" "[I") (by decide +kernel)) (fun _ h9 => h9) hf_M_keptKind dX8_keep_57 ?_
        refine lv_iload_n hx hb dX8_keep_60 rfl (lv_at hl 1 rfl) ?_
        refine lv_iload_n hx hb dX8_keep_61 rfl (lv_at hl 3 rfl) ?_
        obtain ⟨hi, h⟩ := ck_some h
        refine va_iast hx hb hK hP hD hS 2 0 rfl rfl (gi_in hi) dX8_keep_62 (fun H locs hP hD hS => ?_)
        have hP : va_P (dC, dI) vwCl [(aM, .inr (7, fs_M)), (aM_kept, .inl (cI, 8, .inl (upd M_kept x1.toNatClampNeg x2))), (aM_keptKind, .inl (cI, 8, .inl (upd M_keptKind x1.toNatClampNeg x3))), (aM_keptFigure, .inl (cI, 8, .inl M_keptFigure))] H := hP
        have hD : va_D A [(aM, .inr (7, fs_M)), (aM_kept, .inl (cI, 8, .inl (upd M_kept x1.toNatClampNeg x2))), (aM_keptKind, .inl (cI, 8, .inl (upd M_keptKind x1.toNatClampNeg x3))), (aM_keptFigure, .inl (cI, 8, .inl M_keptFigure))] := hD
        refine lv_aload_n hx hb dX8_keep_63 rfl (lv_at hl 0 rfl) ?_
        refine va_get (D := (dC, dI)) (ci := 7) (v := .ref aM_keptFigure) (C := RX8) (T := TX8) (N := 37) hx hb hts (fun _ h => List.mem_cons_of_mem _ (List.mem_append_right _ h)) hown hK hP 0 rfl rfl 9 (by decide) (hts (.fieldLink RX8 37 "SlateRowsModel" "keptFigure" "[I") (by decide +kernel)) (fun _ h9 => h9) hf_M_keptFigure dX8_keep_64 ?_
        refine lv_iload_n hx hb dX8_keep_67 rfl (lv_at hl 1 rfl) ?_
        refine lv_iload hx hb dX8_keep_68 (lv_at hl 4 rfl) ?_
        obtain ⟨hi, h⟩ := ck_some h
        refine va_iast hx hb hK hP hD hS 3 0 rfl rfl (gi_in hi) dX8_keep_70 (fun H locs hP hD hS => ?_)
        have hP : va_P (dC, dI) vwCl [(aM, .inr (7, fs_M)), (aM_kept, .inl (cI, 8, .inl (upd M_kept x1.toNatClampNeg x2))), (aM_keptKind, .inl (cI, 8, .inl (upd M_keptKind x1.toNatClampNeg x3))), (aM_keptFigure, .inl (cI, 8, .inl (upd M_keptFigure x1.toNatClampNeg x4)))] H := hP
        have hD : va_D A [(aM, .inr (7, fs_M)), (aM_kept, .inl (cI, 8, .inl (upd M_kept x1.toNatClampNeg x2))), (aM_keptKind, .inl (cI, 8, .inl (upd M_keptKind x1.toNatClampNeg x3))), (aM_keptFigure, .inl (cI, 8, .inl (upd M_keptFigure x1.toNatClampNeg x4)))] := hD
        refine lv_iconst (v := 0) hx hb dX8_keep_71 (by decide) ?_
        have h := Option.some.inj h
        exact W.iret hx hb hr (fun t ht hW => ⟨⟨_, (), rfl, by rw [← h], by (try rw [← h]); rw [ht]; exact hP, va_K.moved hW.alike hK, by (try rw [← h]); exact hD⟩, hS.F ht⟩) hS.2.2 dX8_keep_72
      · have h := it_p c_5 h
        refine lv_iload_n hx hb dX8_keep_22 rfl (lv_at hl 3 rfl) ?_
        refine lv_i2l hx hb dX8_keep_23 rfl ?_
        refine lv_lconst (v := 0) hx hb dX8_keep_24 (by decide) ?_
        refine lv_ldc2 (v := 6) hx hb hown (hts (.constantLong RX8 300 (6)) (by decide +kernel)) dX8_keep_25 ?_
        obtain ⟨r_6, hg, h⟩ := bd_some h
        refine rdS (As := [.long x3.toInt64, .long 0, .long 6]) (rest := []) ⟨hx, hb, hml, hown, hts⟩ (k_X8_isIn l dC dI cI cZ cS N x3.toInt64 0 6 r_6 hg) (va_cwS 3 hts gX8_keep_X8_isIn rfl rfl rfl cd_X8_isIn ⟨Nat.le_of_ble_eq_true rfl, Nat.le_of_ble_eq_true rfl⟩) hP hD hK [] (by decide) rfl rfl hl.1 rfl (Nat.le_of_ble_eq_true rfl) dX8_keep_28 ⟨Nat.zero_le _, Nat.zero_le _⟩ ?_
        refine lv_if_eq (tgt := 47) hx hb dX8_keep_31 (by decide) (fun c_7 => ?_) (fun c_7 => ?_)
        · have h := it_p c_7 h
          refine lv_iconst (v := (-1)) hx hb dX8_keep_47 (by decide) ?_
          have h := Option.some.inj h
          exact W.iret hx hb hr (fun t ht hW => ⟨⟨_, (), rfl, by rw [← h], by (try rw [← h]); rw [ht]; exact hP, va_K.moved hW.alike hK, by (try rw [← h]); exact hD⟩, hS.F ht⟩) hS.2.2 dX8_keep_48
        · have h := it_n c_7 h
          refine lv_iload hx hb dX8_keep_34 (lv_at hl 4 rfl) ?_
          refine lv_i2l hx hb dX8_keep_36 rfl ?_
          refine lv_lconst (v := 0) hx hb dX8_keep_37 (by decide) ?_
          refine lv_ldc2 (v := 9) hx hb hown (hts (.constantLong RX8 302 (9)) (by decide +kernel)) dX8_keep_38 ?_
          obtain ⟨r_8, hg, h⟩ := bd_some h
          refine rdS (As := [.long x4.toInt64, .long 0, .long 9]) (rest := []) ⟨hx, hb, hml, hown, hts⟩ (k_X8_isIn l dC dI cI cZ cS N x4.toInt64 0 9 r_8 hg) (va_cwS 3 hts gX8_keep_X8_isIn rfl rfl rfl cd_X8_isIn ⟨Nat.le_of_ble_eq_true rfl, Nat.le_of_ble_eq_true rfl⟩) hP hD hK [] (by decide) rfl rfl hl.1 rfl (Nat.le_of_ble_eq_true rfl) dX8_keep_41 ⟨Nat.zero_le _, Nat.zero_le _⟩ ?_
          refine lv_if_ne (tgt := 49) hx hb dX8_keep_44 (by decide) (fun c_9 => ?_) (fun c_9 => ?_)
          · have h := it_n c_9 h
            refine lv_aload_n hx hb dX8_keep_49 rfl (lv_at hl 0 rfl) ?_
            refine va_get (D := (dC, dI)) (ci := 7) (v := .ref aM_kept) (C := RX8) (T := TX8) (N := 37) hx hb hts (fun _ h => List.mem_cons_of_mem _ (List.mem_append_right _ h)) hown hK hP 0 rfl rfl 4 (by decide) (hts (.fieldLink RX8 22 "SlateRowsModel" "kept" "[I") (by decide +kernel)) (fun _ h9 => h9) hf_M_kept dX8_keep_50 ?_
            refine lv_iload_n hx hb dX8_keep_53 rfl (lv_at hl 1 rfl) ?_
            refine lv_iload_n hx hb dX8_keep_54 rfl (lv_at hl 2 rfl) ?_
            obtain ⟨hi, h⟩ := ck_some h
            refine va_iast hx hb hK hP hD hS 1 0 rfl rfl (gi_in hi) dX8_keep_55 (fun H locs hP hD hS => ?_)
            have hP : va_P (dC, dI) vwCl [(aM, .inr (7, fs_M)), (aM_kept, .inl (cI, 8, .inl (upd M_kept x1.toNatClampNeg x2))), (aM_keptKind, .inl (cI, 8, .inl M_keptKind)), (aM_keptFigure, .inl (cI, 8, .inl M_keptFigure))] H := hP
            have hD : va_D A [(aM, .inr (7, fs_M)), (aM_kept, .inl (cI, 8, .inl (upd M_kept x1.toNatClampNeg x2))), (aM_keptKind, .inl (cI, 8, .inl M_keptKind)), (aM_keptFigure, .inl (cI, 8, .inl M_keptFigure))] := hD
            refine lv_aload_n hx hb dX8_keep_56 rfl (lv_at hl 0 rfl) ?_
            refine va_get (D := (dC, dI)) (ci := 7) (v := .ref aM_keptKind) (C := RX8) (T := TX8) (N := 37) hx hb hts (fun _ h => List.mem_cons_of_mem _ (List.mem_append_right _ h)) hown hK hP 0 rfl rfl 8 (by decide) (hts (.fieldLink RX8 34 "SlateRowsModel" "keptKind" "[I") (by decide +kernel)) (fun _ h9 => h9) hf_M_keptKind dX8_keep_57 ?_
            refine lv_iload_n hx hb dX8_keep_60 rfl (lv_at hl 1 rfl) ?_
            refine lv_iload_n hx hb dX8_keep_61 rfl (lv_at hl 3 rfl) ?_
            obtain ⟨hi, h⟩ := ck_some h
            refine va_iast hx hb hK hP hD hS 2 0 rfl rfl (gi_in hi) dX8_keep_62 (fun H locs hP hD hS => ?_)
            have hP : va_P (dC, dI) vwCl [(aM, .inr (7, fs_M)), (aM_kept, .inl (cI, 8, .inl (upd M_kept x1.toNatClampNeg x2))), (aM_keptKind, .inl (cI, 8, .inl (upd M_keptKind x1.toNatClampNeg x3))), (aM_keptFigure, .inl (cI, 8, .inl M_keptFigure))] H := hP
            have hD : va_D A [(aM, .inr (7, fs_M)), (aM_kept, .inl (cI, 8, .inl (upd M_kept x1.toNatClampNeg x2))), (aM_keptKind, .inl (cI, 8, .inl (upd M_keptKind x1.toNatClampNeg x3))), (aM_keptFigure, .inl (cI, 8, .inl M_keptFigure))] := hD
            refine lv_aload_n hx hb dX8_keep_63 rfl (lv_at hl 0 rfl) ?_
            refine va_get (D := (dC, dI)) (ci := 7) (v := .ref aM_keptFigure) (C := RX8) (T := TX8) (N := 37) hx hb hts (fun _ h => List.mem_cons_of_mem _ (List.mem_append_right _ h)) hown hK hP 0 rfl rfl 9 (by decide) (hts (.fieldLink RX8 37 "SlateRowsModel" "keptFigure" "[I") (by decide +kernel)) (fun _ h9 => h9) hf_M_keptFigure dX8_keep_64 ?_
            refine lv_iload_n hx hb dX8_keep_67 rfl (lv_at hl 1 rfl) ?_
            refine lv_iload hx hb dX8_keep_68 (lv_at hl 4 rfl) ?_
            obtain ⟨hi, h⟩ := ck_some h
            refine va_iast hx hb hK hP hD hS 3 0 rfl rfl (gi_in hi) dX8_keep_70 (fun H locs hP hD hS => ?_)
            have hP : va_P (dC, dI) vwCl [(aM, .inr (7, fs_M)), (aM_kept, .inl (cI, 8, .inl (upd M_kept x1.toNatClampNeg x2))), (aM_keptKind, .inl (cI, 8, .inl (upd M_keptKind x1.toNatClampNeg x3))), (aM_keptFigure, .inl (cI, 8, .inl (upd M_keptFigure x1.toNatClampNeg x4)))] H := hP
            have hD : va_D A [(aM, .inr (7, fs_M)), (aM_kept, .inl (cI, 8, .inl (upd M_kept x1.toNatClampNeg x2))), (aM_keptKind, .inl (cI, 8, .inl (upd M_keptKind x1.toNatClampNeg x3))), (aM_keptFigure, .inl (cI, 8, .inl (upd M_keptFigure x1.toNatClampNeg x4)))] := hD
            refine lv_iconst (v := 0) hx hb dX8_keep_71 (by decide) ?_
            have h := Option.some.inj h
            exact W.iret hx hb hr (fun t ht hW => ⟨⟨_, (), rfl, by rw [← h], by (try rw [← h]); rw [ht]; exact hP, va_K.moved hW.alike hK, by (try rw [← h]); exact hD⟩, hS.F ht⟩) hS.2.2 dX8_keep_72
          · have h := it_p c_9 h
            refine lv_iconst (v := (-1)) hx hb dX8_keep_47 (by decide) ?_
            have h := Option.some.inj h
            exact W.iret hx hb hr (fun t ht hW => ⟨⟨_, (), rfl, by rw [← h], by (try rw [← h]); rw [ht]; exact hP, va_K.moved hW.alike hK, by (try rw [← h]); exact hD⟩, hS.F ht⟩) hS.2.2 dX8_keep_48
def f_X8_row_L58 (N : Nat) (M_kept : Nat → Int32) (M_sort : Nat → Int32) (M_size : Nat → Int32) (x1 : Int32) : Nat → Int32 → (Nat → Int32) → Option (Int32 × (Nat → Int32) × (Nat → Int32) × (Nat → Int32) × (Nat → Int32))
  | 0, _, _ => none
  | n + 1, v4, M_element =>
    if 100 ≤ v4 then (some (0, M_kept, M_sort, M_size, M_element)) else (ck (gi ((100 * x1) + v4) 800) (f_X8_row_L58 N M_kept M_sort M_size x1 n (v4 + 1) (upd M_element ((100 * x1) + v4).toNatClampNeg 0)))
def f_X8_row (N : Nat) (M_kept : Nat → Int32) (M_sort : Nat → Int32) (M_size : Nat → Int32) (M_element : Nat → Int32) (x1 : Int32) (x2 : Int32) (x3 : Int32) : Option (Int32 × (Nat → Int32) × (Nat → Int32) × (Nat → Int32) × (Nat → Int32)) :=
  (f_X8_isShelf N x1).bind fun r_1 => if (b2i r_1) = 0 then (some ((-1), M_kept, M_sort, M_size, M_element)) else ((f_X8_isIn N x2.toInt64 0 2).bind fun r_3 => if (b2i r_3) = 0 then (some ((-1), M_kept, M_sort, M_size, M_element)) else (if x3 ≤ 100 then (if 0 ≤ x3 then (ck (gi x1 8) (ck (gi x1 8) (ck (gi x1 8) (f_X8_row_L58 N (upd M_kept x1.toNatClampNeg 2) (upd M_sort x1.toNatClampNeg x2) (upd M_size x1.toNatClampNeg x3) x1 N 0 M_element)))) else (some ((-14), M_kept, M_sort, M_size, M_element))) else (some ((-1), M_kept, M_sort, M_size, M_element))))
set_option maxHeartbeats 4000000 in
set_option maxRecDepth 100000 in
theorem k_X8_row (l : Launch) (dC : Nat → ClassId) (dI : Nat → Nat → Nat) (cI cZ cS : ClassId) (N : Nat) (aM aM_kept aM_sort aM_size aM_element : Nat) (fs_M : List Value) (sz : Nat) (M_kept : Nat → Int32) (M_sort : Nat → Int32) (M_size : Nat → Int32) (M_element : Nat → Int32) (x1 : Int32) (x2 : Int32) (x3 : Int32) (hf_M_kept : fs_M[4]? = some (.ref aM_kept)) (hf_M_sort : fs_M[5]? = some (.ref aM_sort)) (hf_M_size : fs_M[6]? = some (.ref aM_size)) (hf_M_element : fs_M[7]? = some (.ref aM_element)) (res : Int32 × (Nat → Int32) × (Nat → Int32) × (Nat → Int32) × (Nat → Int32)) (h : f_X8_row N M_kept M_sort M_size M_element x1 x2 x3 = some res) : Met l yX8_row wsX8_row ({ frames := 2, cells := 0, slots := 0, locals := 45 }) (va_Pc [.ref aM, .int x1, .int x2, .int x3] (preW (dC, dI) cI cZ cS [(aM, .inr (7, fs_M)), (aM_kept, .inl (cI, 8, .inl M_kept)), (aM_sort, .inl (cI, 8, .inl M_sort)), (aM_size, .inl (cI, 8, .inl M_size)), (aM_element, .inl (cI, 800, .inl M_element))] sz)) (va_Qi (fun (r : Int32) (_ : Unit) => r = res.1) (fun _ => qW (dC, dI) cI cZ cS (va_A [(aM, .inr (7, fs_M)), (aM_kept, .inl (cI, 8, .inl M_kept)), (aM_sort, .inl (cI, 8, .inl M_sort)), (aM_size, .inl (cI, 8, .inl M_size)), (aM_element, .inl (cI, 800, .inl M_element))] sz) [(aM, .inr (7, fs_M)), (aM_kept, .inl (cI, 8, .inl res.2.1)), (aM_sort, .inl (cI, 8, .inl res.2.2.1)), (aM_size, .inl (cI, 8, .inl res.2.2.2.1)), (aM_element, .inl (cI, 800, .inl res.2.2.2.2))]) (va_A [(aM, .inr (7, fs_M)), (aM_kept, .inl (cI, 8, .inl M_kept)), (aM_sort, .inl (cI, 8, .inl M_sort)), (aM_size, .inl (cI, 8, .inl M_size)), (aM_element, .inl (cI, 800, .inl M_element))] sz)) 0 0 (va_A [(aM, .inr (7, fs_M)), (aM_kept, .inl (cI, 8, .inl M_kept)), (aM_sort, .inl (cI, 8, .inl M_sort)), (aM_size, .inl (cI, 8, .inl M_size)), (aM_element, .inl (cI, 800, .inl M_element))] sz) := by
  refine Met.ofW (cc := cX8_row) (maxL := 5) (ret := (some .int)) (by decide) rfl ?_
  intro p e s m args below meth c s₁ B hml hv
  obtain ⟨rfl, hsz, hP, hK, hD0⟩ := hv
  have hx := B.exec
  have hb := B.bytes
  have hr := B.returns
  have hts := atoms_spec (ws := wsX8_row) B.pre
  have hown : s.vm.findClass RX8 = some m.cls := findClass_of_methodNamed B.named
  have hlocks := B.notSynchronized
  subst hsz
  have hD := hD0.self (sz := s.heap.size)
  generalize hAe : va_A [(aM, .inr (7, fs_M)), (aM_kept, .inl (cI, 8, .inl M_kept)), (aM_sort, .inl (cI, 8, .inl M_sort)), (aM_size, .inl (cI, 8, .inl M_size)), (aM_element, .inl (cI, 800, .inl M_element))] s.heap.size = A at hD ⊢
  have hA : ∀ q : Nat, s.heap.size ≤ q → A q := fun q h => by rw [← hAe]; exact Or.inr h
  have hS : va_S A s.heap s.heap [] := va_S.rf
  have hl := lv_entry ([.ref aM, .int x1, .int x2, .int x3]) (n := 5) (Nat.le_of_ble_eq_true rfl)
  rw [lg_entry_eq]
  generalize (lg_sl ([.ref aM, .int x1, .int x2, .int x3]) ++ List.replicate (5 - (lg_sl ([.ref aM, .int x1, .int x2, .int x3])).length) Slot.unset).toArray = ls at hl ⊢
  have hl : lv_has ls 5 [(0, .ref aM), (1, .int x1), (2, .int x2), (3, .int x3)] := hl
  unfold f_X8_row at h
  refine lv_iload_n hx hb dX8_row_0 rfl (lv_at hl 1 rfl) ?_
  obtain ⟨r_1, hg, h⟩ := bd_some h
  refine rdS (As := [.int x1]) (rest := []) ⟨hx, hb, hml, hown, hts⟩ (k_X8_isShelf l dC dI cI cZ cS N x1 r_1 hg) (va_cwS 1 hts gX8_row_X8_isShelf rfl rfl rfl cd_X8_isShelf ⟨Nat.le_of_ble_eq_true rfl, Nat.le_of_ble_eq_true rfl⟩) hP hD hK [] (by decide) rfl rfl hl.1 rfl (Nat.le_of_ble_eq_true rfl) dX8_row_1 ⟨Nat.zero_le _, Nat.zero_le _⟩ ?_
  refine lv_if_eq (tgt := 25) hx hb dX8_row_4 (by decide) (fun c_2 => ?_) (fun c_2 => ?_)
  · have h := it_p c_2 h
    refine lv_iconst (v := (-1)) hx hb dX8_row_25 (by decide) ?_
    have h := Option.some.inj h
    exact W.iret hx hb hr (fun t ht hW => ⟨⟨_, (), rfl, by rw [← h], by (try rw [← h]); rw [ht]; exact hP, va_K.moved hW.alike hK, by (try rw [← h]); exact hD⟩, hS.F ht⟩) hS.2.2 dX8_row_26
  · have h := it_n c_2 h
    refine lv_iload_n hx hb dX8_row_7 rfl (lv_at hl 2 rfl) ?_
    refine lv_i2l hx hb dX8_row_8 rfl ?_
    refine lv_lconst (v := 0) hx hb dX8_row_9 (by decide) ?_
    refine lv_ldc2 (v := 2) hx hb hown (hts (.constantLong RX8 128 (2)) (by decide +kernel)) dX8_row_10 ?_
    obtain ⟨r_3, hg, h⟩ := bd_some h
    refine rdS (As := [.long x2.toInt64, .long 0, .long 2]) (rest := []) ⟨hx, hb, hml, hown, hts⟩ (k_X8_isIn l dC dI cI cZ cS N x2.toInt64 0 2 r_3 hg) (va_cwS 3 hts gX8_row_X8_isIn rfl rfl rfl cd_X8_isIn ⟨Nat.le_of_ble_eq_true rfl, Nat.le_of_ble_eq_true rfl⟩) hP hD hK [] (by decide) rfl rfl hl.1 rfl (Nat.le_of_ble_eq_true rfl) dX8_row_13 ⟨Nat.zero_le _, Nat.zero_le _⟩ ?_
    refine lv_if_eq (tgt := 25) hx hb dX8_row_16 (by decide) (fun c_4 => ?_) (fun c_4 => ?_)
    · have h := it_p c_4 h
      refine lv_iconst (v := (-1)) hx hb dX8_row_25 (by decide) ?_
      have h := Option.some.inj h
      exact W.iret hx hb hr (fun t ht hW => ⟨⟨_, (), rfl, by rw [← h], by (try rw [← h]); rw [ht]; exact hP, va_K.moved hW.alike hK, by (try rw [← h]); exact hD⟩, hS.F ht⟩) hS.2.2 dX8_row_26
    · have h := it_n c_4 h
      refine lv_iload_n hx hb dX8_row_19 rfl (lv_at hl 3 rfl) ?_
      refine lv_bipush (v := 100) hx hb dX8_row_20 (by decide) ?_
      refine lv_icmp_le (tgt := 27) hx hb dX8_row_22 (by decide) (fun c_5 => ?_) (fun c_5 => ?_)
      · have h := it_p c_5 h
        refine lv_iload_n hx hb dX8_row_27 rfl (lv_at hl 3 rfl) ?_
        refine lv_if_ge (tgt := 34) hx hb dX8_row_28 (by decide) (fun c_6 => ?_) (fun c_6 => ?_)
        · have h := it_p c_6 h
          refine lv_aload_n hx hb dX8_row_34 rfl (lv_at hl 0 rfl) ?_
          refine va_get (D := (dC, dI)) (ci := 7) (v := .ref aM_kept) (C := RX8) (T := TX8) (N := 37) hx hb hts (fun _ h => List.mem_cons_of_mem _ (List.mem_append_right _ h)) hown hK hP 0 rfl rfl 4 (by decide) (hts (.fieldLink RX8 22 "SlateRowsModel" "kept" "[I") (by decide +kernel)) (fun _ h9 => h9) hf_M_kept dX8_row_35 ?_
          refine lv_iload_n hx hb dX8_row_38 rfl (lv_at hl 1 rfl) ?_
          refine lv_iconst (v := 2) hx hb dX8_row_39 (by decide) ?_
          obtain ⟨hi, h⟩ := ck_some h
          refine va_iast hx hb hK hP hD hS 1 0 rfl rfl (gi_in hi) dX8_row_40 (fun H locs hP hD hS => ?_)
          have hP : va_P (dC, dI) vwCl [(aM, .inr (7, fs_M)), (aM_kept, .inl (cI, 8, .inl (upd M_kept x1.toNatClampNeg 2))), (aM_sort, .inl (cI, 8, .inl M_sort)), (aM_size, .inl (cI, 8, .inl M_size)), (aM_element, .inl (cI, 800, .inl M_element))] H := hP
          have hD : va_D A [(aM, .inr (7, fs_M)), (aM_kept, .inl (cI, 8, .inl (upd M_kept x1.toNatClampNeg 2))), (aM_sort, .inl (cI, 8, .inl M_sort)), (aM_size, .inl (cI, 8, .inl M_size)), (aM_element, .inl (cI, 800, .inl M_element))] := hD
          refine lv_aload_n hx hb dX8_row_41 rfl (lv_at hl 0 rfl) ?_
          refine va_get (D := (dC, dI)) (ci := 7) (v := .ref aM_sort) (C := RX8) (T := TX8) (N := 37) hx hb hts (fun _ h => List.mem_cons_of_mem _ (List.mem_append_right _ h)) hown hK hP 0 rfl rfl 5 (by decide) (hts (.fieldLink RX8 25 "SlateRowsModel" "sort" "[I") (by decide +kernel)) (fun _ h9 => h9) hf_M_sort dX8_row_42 ?_
          refine lv_iload_n hx hb dX8_row_45 rfl (lv_at hl 1 rfl) ?_
          refine lv_iload_n hx hb dX8_row_46 rfl (lv_at hl 2 rfl) ?_
          obtain ⟨hi, h⟩ := ck_some h
          refine va_iast hx hb hK hP hD hS 2 0 rfl rfl (gi_in hi) dX8_row_47 (fun H locs hP hD hS => ?_)
          have hP : va_P (dC, dI) vwCl [(aM, .inr (7, fs_M)), (aM_kept, .inl (cI, 8, .inl (upd M_kept x1.toNatClampNeg 2))), (aM_sort, .inl (cI, 8, .inl (upd M_sort x1.toNatClampNeg x2))), (aM_size, .inl (cI, 8, .inl M_size)), (aM_element, .inl (cI, 800, .inl M_element))] H := hP
          have hD : va_D A [(aM, .inr (7, fs_M)), (aM_kept, .inl (cI, 8, .inl (upd M_kept x1.toNatClampNeg 2))), (aM_sort, .inl (cI, 8, .inl (upd M_sort x1.toNatClampNeg x2))), (aM_size, .inl (cI, 8, .inl M_size)), (aM_element, .inl (cI, 800, .inl M_element))] := hD
          refine lv_aload_n hx hb dX8_row_48 rfl (lv_at hl 0 rfl) ?_
          refine va_get (D := (dC, dI)) (ci := 7) (v := .ref aM_size) (C := RX8) (T := TX8) (N := 37) hx hb hts (fun _ h => List.mem_cons_of_mem _ (List.mem_append_right _ h)) hown hK hP 0 rfl rfl 6 (by decide) (hts (.fieldLink RX8 28 "SlateRowsModel" "size" "[I") (by decide +kernel)) (fun _ h9 => h9) hf_M_size dX8_row_49 ?_
          refine lv_iload_n hx hb dX8_row_52 rfl (lv_at hl 1 rfl) ?_
          refine lv_iload_n hx hb dX8_row_53 rfl (lv_at hl 3 rfl) ?_
          obtain ⟨hi, h⟩ := ck_some h
          refine va_iast hx hb hK hP hD hS 3 0 rfl rfl (gi_in hi) dX8_row_54 (fun H locs hP hD hS => ?_)
          have hP : va_P (dC, dI) vwCl [(aM, .inr (7, fs_M)), (aM_kept, .inl (cI, 8, .inl (upd M_kept x1.toNatClampNeg 2))), (aM_sort, .inl (cI, 8, .inl (upd M_sort x1.toNatClampNeg x2))), (aM_size, .inl (cI, 8, .inl (upd M_size x1.toNatClampNeg x3))), (aM_element, .inl (cI, 800, .inl M_element))] H := hP
          have hD : va_D A [(aM, .inr (7, fs_M)), (aM_kept, .inl (cI, 8, .inl (upd M_kept x1.toNatClampNeg 2))), (aM_sort, .inl (cI, 8, .inl (upd M_sort x1.toNatClampNeg x2))), (aM_size, .inl (cI, 8, .inl (upd M_size x1.toNatClampNeg x3))), (aM_element, .inl (cI, 800, .inl M_element))] := hD
          refine lv_iconst (v := 0) hx hb dX8_row_55 (by decide) ?_
          refine lv_istore (lv' := [(4, .int 0), (0, .ref aM), (1, .int x1), (2, .int x2), (3, .int x3)]) hx hb dX8_row_56 hl (by decide) rfl (fun ls hl => ?_)
          have L58_7 : ∀ (n_8 : Nat) (v4_9 : Int32) (M_element_10 : Nat → Int32) (ls : Array Slot) (H : Heap) (locs : List Loc), f_X8_row_L58 N (upd M_kept x1.toNatClampNeg 2) (upd M_sort x1.toNatClampNeg x2) (upd M_size x1.toNatClampNeg x3) x1 n_8 v4_9 M_element_10 = some res → lv_has ls 5 [(0, .ref aM), (1, .int x1), (4, .int v4_9)] → va_P (dC, dI) vwCl [(aM, .inr (7, fs_M)), (aM_kept, .inl (cI, 8, .inl (upd M_kept x1.toNatClampNeg 2))), (aM_sort, .inl (cI, 8, .inl (upd M_sort x1.toNatClampNeg x2))), (aM_size, .inl (cI, 8, .inl (upd M_size x1.toNatClampNeg x3))), (aM_element, .inl (cI, 800, .inl M_element_10))] H → va_D A [(aM, .inr (7, fs_M)), (aM_kept, .inl (cI, 8, .inl (upd M_kept x1.toNatClampNeg 2))), (aM_sort, .inl (cI, 8, .inl (upd M_sort x1.toNatClampNeg x2))), (aM_size, .inl (cI, 8, .inl (upd M_size x1.toNatClampNeg x3))), (aM_element, .inl (cI, 800, .inl M_element_10))] → va_S A s.heap H locs → W p l e (headSpec wsX8_row ({ frames := 2, cells := 0, slots := 0, locals := 45 })).room s m ([.ref aM, .int x1, .int x2, .int x3] : List Value).toArray below meth c H locs 0 0 (MQ below (va_Qi (fun (r : Int32) (_ : Unit) => r = res.1) (fun _ => qW (dC, dI) cI cZ cS A [(aM, .inr (7, fs_M)), (aM_kept, .inl (cI, 8, .inl res.2.1)), (aM_sort, .inl (cI, 8, .inl res.2.2.1)), (aM_size, .inl (cI, 8, .inl res.2.2.2.1)), (aM_element, .inl (cI, 800, .inl res.2.2.2.2))]) A) ([.ref aM, .int x1, .int x2, .int x3] : List Value).toArray s 0 0 A) (F0 m 58 ls []) := by
            intro n_8
            induction n_8 with
            | zero =>
              intro v4_9 M_element_10 ls H locs h
              simp only [f_X8_row_L58] at h
              try exact absurd h (by simp)
            | succ n_8 ihn_8 =>
              intro v4_9 M_element_10 ls H locs h hl hP hD hS
              rw [f_X8_row_L58] at h
              refine lv_iload hx hb dX8_row_58 (lv_at hl 2 rfl) ?_
              refine lv_bipush (v := 100) hx hb dX8_row_60 (by decide) ?_
              refine lv_icmp_ge (tgt := 84) hx hb dX8_row_62 (by decide) (fun c_11 => ?_) (fun c_11 => ?_)
              · have h := it_p c_11 h
                refine lv_iconst (v := 0) hx hb dX8_row_84 (by decide) ?_
                have h := Option.some.inj h
                exact W.iret hx hb hr (fun t ht hW => ⟨⟨_, (), rfl, by rw [← h], by (try rw [← h]); rw [ht]; exact hP, va_K.moved hW.alike hK, by (try rw [← h]); exact hD⟩, hS.F ht⟩) hS.2.2 dX8_row_85
              · have h := it_n c_11 h
                refine lv_aload_n hx hb dX8_row_65 rfl (lv_at hl 0 rfl) ?_
                refine va_get (D := (dC, dI)) (ci := 7) (v := .ref aM_element) (C := RX8) (T := TX8) (N := 37) hx hb hts (fun _ h => List.mem_cons_of_mem _ (List.mem_append_right _ h)) hown hK hP 0 rfl rfl 7 (by decide) (hts (.fieldLink RX8 31 "SlateRowsModel" "element" "[I") (by decide +kernel)) (fun _ h9 => h9) hf_M_element dX8_row_66 ?_
                refine lv_bipush (v := 100) hx hb dX8_row_69 (by decide) ?_
                refine lv_iload_n hx hb dX8_row_71 rfl (lv_at hl 1 rfl) ?_
                refine lv_imul hx hb dX8_row_72 ?_
                refine lv_iload hx hb dX8_row_73 (lv_at hl 2 rfl) ?_
                refine lv_iadd hx hb dX8_row_75 ?_
                refine lv_iconst (v := 0) hx hb dX8_row_76 (by decide) ?_
                obtain ⟨hi, h⟩ := ck_some h
                refine va_iast hx hb hK hP hD hS 4 0 rfl rfl (gi_in hi) dX8_row_77 (fun H locs hP hD hS => ?_)
                have hP : va_P (dC, dI) vwCl [(aM, .inr (7, fs_M)), (aM_kept, .inl (cI, 8, .inl (upd M_kept x1.toNatClampNeg 2))), (aM_sort, .inl (cI, 8, .inl (upd M_sort x1.toNatClampNeg x2))), (aM_size, .inl (cI, 8, .inl (upd M_size x1.toNatClampNeg x3))), (aM_element, .inl (cI, 800, .inl (upd M_element_10 ((100 * x1) + v4_9).toNatClampNeg 0)))] H := hP
                have hD : va_D A [(aM, .inr (7, fs_M)), (aM_kept, .inl (cI, 8, .inl (upd M_kept x1.toNatClampNeg 2))), (aM_sort, .inl (cI, 8, .inl (upd M_sort x1.toNatClampNeg x2))), (aM_size, .inl (cI, 8, .inl (upd M_size x1.toNatClampNeg x3))), (aM_element, .inl (cI, 800, .inl (upd M_element_10 ((100 * x1) + v4_9).toNatClampNeg 0)))] := hD
                refine lv_iinc (v := (v4_9 + 1)) (lv' := [(4, .int (v4_9 + 1)), (0, .ref aM), (1, .int x1)]) hx hb dX8_row_78 hl (k := 2) rfl rfl (by decide) rfl (fun ls hl => ?_)
                refine lv_goto (tgt := 58) hx hb dX8_row_81 (by decide) ?_
                exact ihn_8 (v4_9 + 1) (upd M_element_10 ((100 * x1) + v4_9).toNatClampNeg 0) ls _ _ h (lv_sub hl [1, 2, 0] rfl) hP hD hS
          exact L58_7 N 0 M_element ls _ _ h (lv_sub hl [1, 2, 0] rfl) hP hD hS
        · have h := it_n c_6 h
          refine lv_bipush (v := (-14)) hx hb dX8_row_31 (by decide) ?_
          have h := Option.some.inj h
          exact W.iret hx hb hr (fun t ht hW => ⟨⟨_, (), rfl, by rw [← h], by (try rw [← h]); rw [ht]; exact hP, va_K.moved hW.alike hK, by (try rw [← h]); exact hD⟩, hS.F ht⟩) hS.2.2 dX8_row_33
      · have h := it_n c_5 h
        refine lv_iconst (v := (-1)) hx hb dX8_row_25 (by decide) ?_
        have h := Option.some.inj h
        exact W.iret hx hb hr (fun t ht hW => ⟨⟨_, (), rfl, by rw [← h], by (try rw [← h]); rw [ht]; exact hP, va_K.moved hW.alike hK, by (try rw [← h]); exact hD⟩, hS.F ht⟩) hS.2.2 dX8_row_26
def f_X8_put (N : Nat) (M_kept : Nat → Int32) (M_sort : Nat → Int32) (M_size : Nat → Int32) (M_element : Nat → Int32) (x1 : Int32) (x2 : Int32) (x3 : Int32) : Option (Int32 × (Nat → Int32)) :=
  (f_X8_wrongRow N M_kept M_sort x1 (-1)).bind fun r_1 => if r_1 = 0 then (ck (gi x1 8) ((f_X8_isIn N x2.toInt64 0 (((M_size x1.toNatClampNeg) - 1).toInt64)).bind fun r_3 => if (b2i r_3) = 0 then (some ((-13), M_element)) else (ck (gi x1 8) (if (M_sort x1.toNatClampNeg) = 0 then (ck (gi ((100 * x1) + x2) 800) (some (0, (upd M_element ((100 * x1) + x2).toNatClampNeg x3.toInt8.toInt32)))) else (ck (gi x1 8) (if (M_sort x1.toNatClampNeg) = 1 then (ck (gi ((100 * x1) + x2) 800) (some (0, (upd M_element ((100 * x1) + x2).toNatClampNeg x3.toInt16.toInt32)))) else (ck (gi ((100 * x1) + x2) 800) (some (0, (upd M_element ((100 * x1) + x2).toNatClampNeg x3)))))))))) else (some (r_1, M_element))
set_option maxHeartbeats 4000000 in
set_option maxRecDepth 100000 in
theorem k_X8_put (l : Launch) (dC : Nat → ClassId) (dI : Nat → Nat → Nat) (cI cZ cS : ClassId) (N : Nat) (aM aM_kept aM_sort aM_size aM_element : Nat) (fs_M : List Value) (sz : Nat) (M_kept : Nat → Int32) (M_sort : Nat → Int32) (M_size : Nat → Int32) (M_element : Nat → Int32) (x1 : Int32) (x2 : Int32) (x3 : Int32) (hf_M_kept : fs_M[4]? = some (.ref aM_kept)) (hf_M_sort : fs_M[5]? = some (.ref aM_sort)) (hf_M_size : fs_M[6]? = some (.ref aM_size)) (hf_M_element : fs_M[7]? = some (.ref aM_element)) (res : Int32 × (Nat → Int32)) (h : f_X8_put N M_kept M_sort M_size M_element x1 x2 x3 = some res) : Met l yX8_put wsX8_put ({ frames := 3, cells := 0, slots := 0, locals := 67 }) (va_Pc [.ref aM, .int x1, .int x2, .int x3] (preW (dC, dI) cI cZ cS [(aM, .inr (7, fs_M)), (aM_kept, .inl (cI, 8, .inl M_kept)), (aM_sort, .inl (cI, 8, .inl M_sort)), (aM_size, .inl (cI, 8, .inl M_size)), (aM_element, .inl (cI, 800, .inl M_element))] sz)) (va_Qi (fun (r : Int32) (_ : Unit) => r = res.1) (fun _ => qW (dC, dI) cI cZ cS (va_A [(aM, .inr (7, fs_M)), (aM_kept, .inl (cI, 8, .inl M_kept)), (aM_sort, .inl (cI, 8, .inl M_sort)), (aM_size, .inl (cI, 8, .inl M_size)), (aM_element, .inl (cI, 800, .inl M_element))] sz) [(aM, .inr (7, fs_M)), (aM_kept, .inl (cI, 8, .inl M_kept)), (aM_sort, .inl (cI, 8, .inl M_sort)), (aM_size, .inl (cI, 8, .inl M_size)), (aM_element, .inl (cI, 800, .inl res.2))]) (va_A [(aM, .inr (7, fs_M)), (aM_kept, .inl (cI, 8, .inl M_kept)), (aM_sort, .inl (cI, 8, .inl M_sort)), (aM_size, .inl (cI, 8, .inl M_size)), (aM_element, .inl (cI, 800, .inl M_element))] sz)) 0 0 (va_A [(aM, .inr (7, fs_M)), (aM_kept, .inl (cI, 8, .inl M_kept)), (aM_sort, .inl (cI, 8, .inl M_sort)), (aM_size, .inl (cI, 8, .inl M_size)), (aM_element, .inl (cI, 800, .inl M_element))] sz) := by
  refine Met.ofW (cc := cX8_put) (maxL := 5) (ret := (some .int)) (by decide) rfl ?_
  intro p e s m args below meth c s₁ B hml hv
  obtain ⟨rfl, hsz, hP, hK, hD0⟩ := hv
  have hx := B.exec
  have hb := B.bytes
  have hr := B.returns
  have hts := atoms_spec (ws := wsX8_put) B.pre
  have hown : s.vm.findClass RX8 = some m.cls := findClass_of_methodNamed B.named
  have hlocks := B.notSynchronized
  subst hsz
  have hD := hD0.self (sz := s.heap.size)
  generalize hAe : va_A [(aM, .inr (7, fs_M)), (aM_kept, .inl (cI, 8, .inl M_kept)), (aM_sort, .inl (cI, 8, .inl M_sort)), (aM_size, .inl (cI, 8, .inl M_size)), (aM_element, .inl (cI, 800, .inl M_element))] s.heap.size = A at hD ⊢
  have hA : ∀ q : Nat, s.heap.size ≤ q → A q := fun q h => by rw [← hAe]; exact Or.inr h
  have hS : va_S A s.heap s.heap [] := va_S.rf
  have hl := lv_entry ([.ref aM, .int x1, .int x2, .int x3]) (n := 5) (Nat.le_of_ble_eq_true rfl)
  rw [lg_entry_eq]
  generalize (lg_sl ([.ref aM, .int x1, .int x2, .int x3]) ++ List.replicate (5 - (lg_sl ([.ref aM, .int x1, .int x2, .int x3])).length) Slot.unset).toArray = ls at hl ⊢
  have hl : lv_has ls 5 [(0, .ref aM), (1, .int x1), (2, .int x2), (3, .int x3)] := hl
  unfold f_X8_put at h
  refine lv_aload_n hx hb dX8_put_0 rfl (lv_at hl 0 rfl) ?_
  refine lv_iload_n hx hb dX8_put_1 rfl (lv_at hl 1 rfl) ?_
  refine lv_iconst (v := (-1)) hx hb dX8_put_2 (by decide) ?_
  obtain ⟨r_1, hg, h⟩ := bd_some h
  refine rdV (As := [.int x1, .int (-1)]) (rest := []) (ci := 7) ⟨hx, hb, hml, hown, hts⟩ (k_X8_wrongRow l dC dI cI cZ cS N aM aM_kept aM_sort fs_M M_kept M_sort x1 (-1) hf_M_kept hf_M_sort r_1 hg) (cwV 2 hts gX8_put_X8_wrongRow rfl rfl rfl cd_X8_wrongRow ⟨Nat.le_of_ble_eq_true rfl, Nat.le_of_ble_eq_true rfl⟩) hP hD hK [0, 1, 2] (by decide) rfl rfl rfl rfl hl.1 rfl (Nat.le_of_ble_eq_true rfl) dX8_put_3 ⟨Nat.zero_le _, Nat.zero_le _⟩ ?_
  refine lv_istore (lv' := [(4, .int r_1), (0, .ref aM), (1, .int x1), (2, .int x2), (3, .int x3)]) hx hb dX8_put_6 hl (by decide) rfl (fun ls hl => ?_)
  refine lv_iload hx hb dX8_put_8 (lv_at hl 0 rfl) ?_
  refine lv_if_eq (tgt := 16) hx hb dX8_put_10 (by decide) (fun c_2 => ?_) (fun c_2 => ?_)
  · have h := it_p c_2 h
    refine lv_iload_n hx hb dX8_put_16 rfl (lv_at hl 3 rfl) ?_
    refine lv_i2l hx hb dX8_put_17 rfl ?_
    refine lv_lconst (v := 0) hx hb dX8_put_18 (by decide) ?_
    refine lv_aload_n hx hb dX8_put_19 rfl (lv_at hl 1 rfl) ?_
    refine va_get (D := (dC, dI)) (ci := 7) (v := .ref aM_size) (C := RX8) (T := TX8) (N := 37) hx hb hts (fun _ h => List.mem_cons_of_mem _ (List.mem_append_right _ h)) hown hK hP 0 rfl rfl 6 (by decide) (hts (.fieldLink RX8 28 "SlateRowsModel" "size" "[I") (by decide +kernel)) (fun _ h9 => h9) hf_M_size dX8_put_20 ?_
    refine lv_iload_n hx hb dX8_put_23 rfl (lv_at hl 2 rfl) ?_
    obtain ⟨hi, h⟩ := ck_some h
    refine va_iald hx hb hK hP 3 0 rfl rfl (gi_in hi) dX8_put_24 ?_
    refine lv_iconst (v := 1) hx hb dX8_put_25 (by decide) ?_
    refine lv_isub hx hb dX8_put_26 ?_
    refine lv_i2l hx hb dX8_put_27 rfl ?_
    obtain ⟨r_3, hg, h⟩ := bd_some h
    refine rdS (As := [.long x2.toInt64, .long 0, .long (((M_size x1.toNatClampNeg) - 1).toInt64)]) (rest := []) ⟨hx, hb, hml, hown, hts⟩ (k_X8_isIn l dC dI cI cZ cS N x2.toInt64 0 (((M_size x1.toNatClampNeg) - 1).toInt64) r_3 hg) (va_cwS 3 hts gX8_put_X8_isIn rfl rfl rfl cd_X8_isIn ⟨Nat.le_of_ble_eq_true rfl, Nat.le_of_ble_eq_true rfl⟩) hP hD hK [] (by decide) rfl rfl hl.1 rfl (Nat.le_of_ble_eq_true rfl) dX8_put_28 ⟨Nat.zero_le _, Nat.zero_le _⟩ ?_
    refine lv_if_ne (tgt := 37) hx hb dX8_put_31 (by decide) (fun c_4 => ?_) (fun c_4 => ?_)
    · have h := it_n c_4 h
      refine lv_aload_n hx hb dX8_put_37 rfl (lv_at hl 1 rfl) ?_
      refine va_get (D := (dC, dI)) (ci := 7) (v := .ref aM_element) (C := RX8) (T := TX8) (N := 37) hx hb hts (fun _ h => List.mem_cons_of_mem _ (List.mem_append_right _ h)) hown hK hP 0 rfl rfl 7 (by decide) (hts (.fieldLink RX8 31 "SlateRowsModel" "element" "[I") (by decide +kernel)) (fun _ h9 => h9) hf_M_element dX8_put_38 ?_
      refine lv_bipush (v := 100) hx hb dX8_put_41 (by decide) ?_
      refine lv_iload_n hx hb dX8_put_43 rfl (lv_at hl 2 rfl) ?_
      refine lv_imul hx hb dX8_put_44 ?_
      refine lv_iload_n hx hb dX8_put_45 rfl (lv_at hl 3 rfl) ?_
      refine lv_iadd hx hb dX8_put_46 ?_
      refine lv_aload_n hx hb dX8_put_47 rfl (lv_at hl 1 rfl) ?_
      refine va_get (D := (dC, dI)) (ci := 7) (v := .ref aM_sort) (C := RX8) (T := TX8) (N := 37) hx hb hts (fun _ h => List.mem_cons_of_mem _ (List.mem_append_right _ h)) hown hK hP 0 rfl rfl 5 (by decide) (hts (.fieldLink RX8 25 "SlateRowsModel" "sort" "[I") (by decide +kernel)) (fun _ h9 => h9) hf_M_sort dX8_put_48 ?_
      refine lv_iload_n hx hb dX8_put_51 rfl (lv_at hl 2 rfl) ?_
      obtain ⟨hi, h⟩ := ck_some h
      refine va_iald hx hb hK hP 2 0 rfl rfl (gi_in hi) dX8_put_52 ?_
      refine lv_if_ne (tgt := 61) hx hb dX8_put_53 (by decide) (fun c_5 => ?_) (fun c_5 => ?_)
      · have h := it_n c_5 h
        refine lv_aload_n hx hb dX8_put_61 rfl (lv_at hl 1 rfl) ?_
        refine va_get (D := (dC, dI)) (ci := 7) (v := .ref aM_sort) (C := RX8) (T := TX8) (N := 37) hx hb hts (fun _ h => List.mem_cons_of_mem _ (List.mem_append_right _ h)) hown hK hP 0 rfl rfl 5 (by decide) (hts (.fieldLink RX8 25 "SlateRowsModel" "sort" "[I") (by decide +kernel)) (fun _ h9 => h9) hf_M_sort dX8_put_62 ?_
        refine lv_iload_n hx hb dX8_put_65 rfl (lv_at hl 2 rfl) ?_
        obtain ⟨hi, h⟩ := ck_some h
        refine va_iald hx hb hK hP 2 0 rfl rfl (gi_in hi) dX8_put_66 ?_
        refine lv_iconst (v := 1) hx hb dX8_put_67 (by decide) ?_
        refine lv_icmp_ne (tgt := 76) hx hb dX8_put_68 (by decide) (fun c_6 => ?_) (fun c_6 => ?_)
        · have h := it_n c_6 h
          refine lv_iload_n hx hb dX8_put_76 rfl (lv_at hl 4 rfl) ?_
          obtain ⟨hi, h⟩ := ck_some h
          refine va_iast hx hb hK hP hD hS 4 0 rfl rfl (gi_in hi) dX8_put_77 (fun H locs hP hD hS => ?_)
          have hP : va_P (dC, dI) vwCl [(aM, .inr (7, fs_M)), (aM_kept, .inl (cI, 8, .inl M_kept)), (aM_sort, .inl (cI, 8, .inl M_sort)), (aM_size, .inl (cI, 8, .inl M_size)), (aM_element, .inl (cI, 800, .inl (upd M_element ((100 * x1) + x2).toNatClampNeg x3)))] H := hP
          have hD : va_D A [(aM, .inr (7, fs_M)), (aM_kept, .inl (cI, 8, .inl M_kept)), (aM_sort, .inl (cI, 8, .inl M_sort)), (aM_size, .inl (cI, 8, .inl M_size)), (aM_element, .inl (cI, 800, .inl (upd M_element ((100 * x1) + x2).toNatClampNeg x3)))] := hD
          refine lv_iconst (v := 0) hx hb dX8_put_78 (by decide) ?_
          have h := Option.some.inj h
          exact W.iret hx hb hr (fun t ht hW => ⟨⟨_, (), rfl, by rw [← h], by (try rw [← h]); rw [ht]; exact hP, va_K.moved hW.alike hK, by (try rw [← h]); exact hD⟩, hS.F ht⟩) hS.2.2 dX8_put_79
        · have h := it_p c_6 h
          refine lv_iload_n hx hb dX8_put_71 rfl (lv_at hl 4 rfl) ?_
          refine lv_i2s hx hb dX8_put_72 rfl ?_
          refine lv_goto (tgt := 77) hx hb dX8_put_73 (by decide) ?_
          obtain ⟨hi, h⟩ := ck_some h
          refine va_iast hx hb hK hP hD hS 4 0 rfl rfl (gi_in hi) dX8_put_77 (fun H locs hP hD hS => ?_)
          have hP : va_P (dC, dI) vwCl [(aM, .inr (7, fs_M)), (aM_kept, .inl (cI, 8, .inl M_kept)), (aM_sort, .inl (cI, 8, .inl M_sort)), (aM_size, .inl (cI, 8, .inl M_size)), (aM_element, .inl (cI, 800, .inl (upd M_element ((100 * x1) + x2).toNatClampNeg x3.toInt16.toInt32)))] H := hP
          have hD : va_D A [(aM, .inr (7, fs_M)), (aM_kept, .inl (cI, 8, .inl M_kept)), (aM_sort, .inl (cI, 8, .inl M_sort)), (aM_size, .inl (cI, 8, .inl M_size)), (aM_element, .inl (cI, 800, .inl (upd M_element ((100 * x1) + x2).toNatClampNeg x3.toInt16.toInt32)))] := hD
          refine lv_iconst (v := 0) hx hb dX8_put_78 (by decide) ?_
          have h := Option.some.inj h
          exact W.iret hx hb hr (fun t ht hW => ⟨⟨_, (), rfl, by rw [← h], by (try rw [← h]); rw [ht]; exact hP, va_K.moved hW.alike hK, by (try rw [← h]); exact hD⟩, hS.F ht⟩) hS.2.2 dX8_put_79
      · have h := it_p c_5 h
        refine lv_iload_n hx hb dX8_put_56 rfl (lv_at hl 4 rfl) ?_
        refine lv_i2b hx hb dX8_put_57 rfl ?_
        refine lv_goto (tgt := 77) hx hb dX8_put_58 (by decide) ?_
        obtain ⟨hi, h⟩ := ck_some h
        refine va_iast hx hb hK hP hD hS 4 0 rfl rfl (gi_in hi) dX8_put_77 (fun H locs hP hD hS => ?_)
        have hP : va_P (dC, dI) vwCl [(aM, .inr (7, fs_M)), (aM_kept, .inl (cI, 8, .inl M_kept)), (aM_sort, .inl (cI, 8, .inl M_sort)), (aM_size, .inl (cI, 8, .inl M_size)), (aM_element, .inl (cI, 800, .inl (upd M_element ((100 * x1) + x2).toNatClampNeg x3.toInt8.toInt32)))] H := hP
        have hD : va_D A [(aM, .inr (7, fs_M)), (aM_kept, .inl (cI, 8, .inl M_kept)), (aM_sort, .inl (cI, 8, .inl M_sort)), (aM_size, .inl (cI, 8, .inl M_size)), (aM_element, .inl (cI, 800, .inl (upd M_element ((100 * x1) + x2).toNatClampNeg x3.toInt8.toInt32)))] := hD
        refine lv_iconst (v := 0) hx hb dX8_put_78 (by decide) ?_
        have h := Option.some.inj h
        exact W.iret hx hb hr (fun t ht hW => ⟨⟨_, (), rfl, by rw [← h], by (try rw [← h]); rw [ht]; exact hP, va_K.moved hW.alike hK, by (try rw [← h]); exact hD⟩, hS.F ht⟩) hS.2.2 dX8_put_79
    · have h := it_p c_4 h
      refine lv_bipush (v := (-13)) hx hb dX8_put_34 (by decide) ?_
      have h := Option.some.inj h
      exact W.iret hx hb hr (fun t ht hW => ⟨⟨_, (), rfl, by rw [← h], by (try rw [← h]); rw [ht]; exact hP, va_K.moved hW.alike hK, by (try rw [← h]); exact hD⟩, hS.F ht⟩) hS.2.2 dX8_put_36
  · have h := it_n c_2 h
    refine lv_iload hx hb dX8_put_13 (lv_at hl 0 rfl) ?_
    have h := Option.some.inj h
    exact W.iret hx hb hr (fun t ht hW => ⟨⟨_, (), rfl, by rw [← h], by (try rw [← h]); rw [ht]; exact hP, va_K.moved hW.alike hK, by (try rw [← h]); exact hD⟩, hS.F ht⟩) hS.2.2 dX8_put_15
