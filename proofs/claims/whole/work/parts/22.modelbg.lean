theorem cd_X8_worthOf : yX8_worthOf.cls = RX8 ∧ yX8_worthOf.cls ≠ "java/lang/invoke/MethodHandle" ∧ yX8_worthOf.cls ≠ "java/lang/invoke/VarHandle" ∧ (parseMethodDescriptor yX8_worthOf.desc).map (fun d => d.parameters.length) = some 1 := by decide +kernel
theorem cd_X8_isThere : yX8_isThere.cls = RX8 ∧ yX8_isThere.cls ≠ "java/lang/invoke/MethodHandle" ∧ yX8_isThere.cls ≠ "java/lang/invoke/VarHandle" ∧ (parseMethodDescriptor yX8_isThere.desc).map (fun d => d.parameters.length) = some 2 := by decide +kernel
def f_X8_marks_2_L21 (N : Nat) (REC : (Nat → Int32) → (Nat → Int32) → Int32 → Int32 → Int32 → Option ((Nat → Int32) × (Nat → Int32))) (x1 : Int32) (x3 : Int32) (x4 : Int32) : Nat → Int32 → Int32 → (Nat → Int32) → (Nat → Int32) → Option ((Nat → Int32) × (Nat → Int32))
  | 0, _, _, _, _ => none
  | n + 1, v5, v6, M_s, M_isTwo =>
    ck (gi 1 99) (if (M_s (1 : Int32).toNatClampNeg) ≤ v6 then (some (M_s, M_isTwo)) else ((f_X8_inches N M_s v6).bind fun r_4 => (f_X8_many N M_s v6).bind fun r_5 => if r_5 ≤ 0 then (f_X8_marks_2_L21 N REC x1 x3 x4 n (v5 * 13) (v6 + 1) M_s M_isTwo) else ((f_X8_lengthOf N M_s x1).bind fun r_7 => if r_7 < (x3 + r_4) then (f_X8_marks_2_L21 N REC x1 x3 x4 n (v5 * 13) (v6 + 1) M_s M_isTwo) else ((f_X8_lengthOf N M_s x1).bind fun r_9 => if (x3 + r_4) = r_9 then ((f_X8_leaves N M_s v6 1).bind fun r_11 => (REC r_11 M_isTwo x1 (x3 + r_4) (x4 + v5)).bind fun r_12 => (f_X8_leaves N r_12.1 v6 (-1)).bind fun r_13 => f_X8_marks_2_L21 N REC x1 x3 x4 n (v5 * 13) (v6 + 1) r_13 r_12.2) else ((f_X8_mayBe N M_s x1 (x3 + r_4)).bind fun r_14 => if (b2i r_14) = 0 then (f_X8_marks_2_L21 N REC x1 x3 x4 n (v5 * 13) (v6 + 1) M_s M_isTwo) else ((f_X8_leaves N M_s v6 1).bind fun r_16 => (REC r_16 M_isTwo x1 (x3 + r_4) (x4 + v5)).bind fun r_17 => (f_X8_leaves N r_17.1 v6 (-1)).bind fun r_18 => f_X8_marks_2_L21 N REC x1 x3 x4 n (v5 * 13) (v6 + 1) r_18 r_17.2))))))
def f_X8_marks_2 (N : Nat) : Nat → (Nat → Int32) → (Nat → Int32) → Int32 → Int32 → Int32 → Option ((Nat → Int32) × (Nat → Int32))
  | 0, _, _, _, _, _ => none
  | dd + 1, M_s, M_isTwo, x1, x3, x4 =>
    (f_X8_lengthOf N M_s x1).bind fun r_1 => if x3 = r_1 then (ck (gi x4 28561) (some (M_s, (upd M_isTwo x4.toNatClampNeg (vp_nar .boolean 1))))) else (f_X8_marks_2_L21 N (f_X8_marks_2 N dd) x1 x3 x4 N 1 0 M_s M_isTwo)
set_option maxHeartbeats 4000000 in
set_option maxRecDepth 100000 in
theorem k_X8_marks_2 (l : Launch) (dC : Nat → ClassId) (dI : Nat → Nat → Nat) (cI cZ cS : ClassId) (N : Nat) (aM aM_s aM_isTwo : Nat) (fs_M : List Value) (hf_M_s : fs_M[0]? = some (.ref aM_s)) (hf_M_isTwo : fs_M[29]? = some (.ref aM_isTwo)) : ∀ (dd : Nat) (sz : Nat) (M_s : Nat → Int32) (M_isTwo : Nat → Int32) (x1 : Int32) (x3 : Int32) (x4 : Int32) (res : (Nat → Int32) × (Nat → Int32)) (h : f_X8_marks_2 N dd M_s M_isTwo x1 x3 x4 = some res), Met l yX8_marks wsX8_marks ({ frames := 3 + dd, cells := 0, slots := 0, locals := 70 + 27 * dd }) (va_Pc [.ref aM, .int x1, .ref aM_isTwo, .int x3, .int x4] (preW (dC, dI) cI cZ cS [(aM, .inr (7, fs_M)), (aM_s, .inl (cI, 99, .inl M_s)), (aM_isTwo, .inl (cZ, 28561, .inl M_isTwo))] sz)) (va_Qv (fun _ : Unit => True) (fun _ => qW (dC, dI) cI cZ cS (va_A [(aM, .inr (7, fs_M)), (aM_s, .inl (cI, 99, .inl M_s)), (aM_isTwo, .inl (cZ, 28561, .inl M_isTwo))] sz) [(aM, .inr (7, fs_M)), (aM_s, .inl (cI, 99, .inl res.1)), (aM_isTwo, .inl (cZ, 28561, .inl res.2))]) (va_A [(aM, .inr (7, fs_M)), (aM_s, .inl (cI, 99, .inl M_s)), (aM_isTwo, .inl (cZ, 28561, .inl M_isTwo))] sz)) 0 0 (va_A [(aM, .inr (7, fs_M)), (aM_s, .inl (cI, 99, .inl M_s)), (aM_isTwo, .inl (cZ, 28561, .inl M_isTwo))] sz) := by
  intro dd
  induction dd with
  | zero =>
    intro sz M_s M_isTwo x1 x3 x4 res h
    simp only [f_X8_marks_2] at h
    try exact absurd h (by simp)
  | succ dd ihd =>
  intro sz M_s M_isTwo x1 x3 x4 res h
  refine Met.ofW (cc := cX8_marks) (maxL := 8) (ret := none) (by decide) rfl ?_
  intro p e s m args below meth c s₁ B hml hv
  obtain ⟨rfl, hsz, hP, hK, hD0⟩ := hv
  have hx := B.exec
  have hb := B.bytes
  have hr := B.returns
  have hts := atoms_spec (ws := wsX8_marks) B.pre
  have hown : s.vm.findClass RX8 = some m.cls := findClass_of_methodNamed B.named
  have hlocks := B.notSynchronized
  subst hsz
  have hD := hD0.self (sz := s.heap.size)
  generalize hAe : va_A [(aM, .inr (7, fs_M)), (aM_s, .inl (cI, 99, .inl M_s)), (aM_isTwo, .inl (cZ, 28561, .inl M_isTwo))] s.heap.size = A at hD ⊢
  have hA : ∀ q : Nat, s.heap.size ≤ q → A q := fun q h => by rw [← hAe]; exact Or.inr h
  have hS : va_S A s.heap s.heap [] := va_S.rf
  have hl := lv_entry ([.ref aM, .int x1, .ref aM_isTwo, .int x3, .int x4]) (n := 8) (Nat.le_of_ble_eq_true rfl)
  rw [lg_entry_eq]
  generalize (lg_sl ([.ref aM, .int x1, .ref aM_isTwo, .int x3, .int x4]) ++ List.replicate (8 - (lg_sl ([.ref aM, .int x1, .ref aM_isTwo, .int x3, .int x4])).length) Slot.unset).toArray = ls at hl ⊢
  have hl : lv_has ls 8 [(0, .ref aM), (1, .int x1), (2, .ref aM_isTwo), (3, .int x3), (4, .int x4)] := hl
  rw [f_X8_marks_2] at h
  refine lv_iload_n hx hb dX8_marks_0 rfl (lv_at hl 3 rfl) ?_
  refine lv_aload_n hx hb dX8_marks_1 rfl (lv_at hl 0 rfl) ?_
  refine lv_iload_n hx hb dX8_marks_2 rfl (lv_at hl 1 rfl) ?_
  obtain ⟨r_1, hg, h⟩ := bd_some h
  refine rdV (As := [.int x1]) (rest := [.int x3]) (ci := 7) ⟨hx, hb, hml, hown, hts⟩ (k_X8_lengthOf l dC dI cI cZ cS N aM aM_s fs_M M_s x1 hf_M_s r_1 hg) (cwV 1 hts gX8_marks_X8_lengthOf rfl rfl rfl cd_X8_lengthOf ⟨Nat.le_trans (m := 3) (Nat.le_of_ble_eq_true rfl) (Nat.le_add_right _ _), Nat.le_trans (m := 70) (Nat.le_of_ble_eq_true rfl) (Nat.le_add_right _ _)⟩) hP hD hK [0, 1] (by decide) rfl rfl rfl rfl hl.1 rfl (Nat.le_of_ble_eq_true rfl) dX8_marks_3 ⟨Nat.zero_le _, Nat.zero_le _⟩ ?_
  refine lv_icmp_ne (tgt := 15) hx hb dX8_marks_6 (by decide) (fun c_2 => ?_) (fun c_2 => ?_)
  · have h := it_n c_2 h
    refine lv_iconst (v := 1) hx hb dX8_marks_15 (by decide) ?_
    refine lv_istore (lv' := [(5, .int 1), (0, .ref aM), (1, .int x1), (2, .ref aM_isTwo), (3, .int x3), (4, .int x4)]) hx hb dX8_marks_16 hl (by decide) rfl (fun ls hl => ?_)
    refine lv_iconst (v := 0) hx hb dX8_marks_18 (by decide) ?_
    refine lv_istore (lv' := [(6, .int 0), (5, .int 1), (0, .ref aM), (1, .int x1), (2, .ref aM_isTwo), (3, .int x3), (4, .int x4)]) hx hb dX8_marks_19 hl (by decide) rfl (fun ls hl => ?_)
    have L21_18 : ∀ (n_19 : Nat) (v5_20 : Int32) (v6_21 : Int32) (M_s_22 : Nat → Int32) (M_isTwo_23 : Nat → Int32) (ls : Array Slot) (H : Heap) (locs : List Loc), f_X8_marks_2_L21 N (f_X8_marks_2 N dd) x1 x3 x4 n_19 v5_20 v6_21 M_s_22 M_isTwo_23 = some res → lv_has ls 8 [(0, .ref aM), (1, .int x1), (2, .ref aM_isTwo), (3, .int x3), (4, .int x4), (5, .int v5_20), (6, .int v6_21)] → va_P (dC, dI) vwCl [(aM, .inr (7, fs_M)), (aM_s, .inl (cI, 99, .inl M_s_22)), (aM_isTwo, .inl (cZ, 28561, .inl M_isTwo_23))] H → va_D A [(aM, .inr (7, fs_M)), (aM_s, .inl (cI, 99, .inl M_s_22)), (aM_isTwo, .inl (cZ, 28561, .inl M_isTwo_23))] → va_S A s.heap H locs → W p l e (headSpec wsX8_marks ({ frames := 3 + (dd + 1), cells := 0, slots := 0, locals := 70 + 27 * (dd + 1) })).room s m ([.ref aM, .int x1, .ref aM_isTwo, .int x3, .int x4] : List Value).toArray below meth c H locs 0 0 (MQ below (va_Qv (fun _ : Unit => True) (fun _ => qW (dC, dI) cI cZ cS A [(aM, .inr (7, fs_M)), (aM_s, .inl (cI, 99, .inl res.1)), (aM_isTwo, .inl (cZ, 28561, .inl res.2))]) A) ([.ref aM, .int x1, .ref aM_isTwo, .int x3, .int x4] : List Value).toArray s 0 0 A) (F0 m 21 ls []) := by
      intro n_19
      induction n_19 with
      | zero =>
        intro v5_20 v6_21 M_s_22 M_isTwo_23 ls H locs h
        simp only [f_X8_marks_2_L21] at h
        try exact absurd h (by simp)
      | succ n_19 ihn_19 =>
        intro v5_20 v6_21 M_s_22 M_isTwo_23 ls H locs h hl hP hD hS
        rw [f_X8_marks_2_L21] at h
        refine lv_iload hx hb dX8_marks_21 (lv_at hl 6 rfl) ?_
        refine lv_aload_n hx hb dX8_marks_23 rfl (lv_at hl 0 rfl) ?_
        refine va_get (D := (dC, dI)) (ci := 7) (v := .ref aM_s) (C := RX8) (T := TX8) (N := 37) hx hb hts (fun _ h => List.mem_cons_of_mem _ (List.mem_append_right _ h)) hown hK hP 0 rfl rfl 0 (by decide) (hts (.fieldLink RX8 9 "SlateRowsModel" "s" "[I") (by decide +kernel)) (fun _ h9 => h9) hf_M_s dX8_marks_24 ?_
        refine lv_iconst (v := 1) hx hb dX8_marks_27 (by decide) ?_
        obtain ⟨hi, h⟩ := ck_some h
        refine va_iald hx hb hK hP 1 0 rfl rfl (gi_in hi) dX8_marks_28 ?_
        refine lv_icmp_ge (tgt := 121) hx hb dX8_marks_29 (by decide) (fun c_24 => ?_) (fun c_24 => ?_)
        · have h := it_p c_24 h
          have h := Option.some.inj h
          exact W.vret hx hb hr (fun t ht hW => ⟨⟨(), rfl, trivial, by (try rw [← h]); rw [ht]; exact hP, va_K.moved hW.alike hK, by (try rw [← h]); exact hD⟩, hS.F ht⟩) hS.2.2 dX8_marks_121
        · have h := it_n c_24 h
          refine lv_iload_n hx hb dX8_marks_32 rfl (lv_at hl 3 rfl) ?_
          refine lv_aload_n hx hb dX8_marks_33 rfl (lv_at hl 0 rfl) ?_
          refine lv_iload hx hb dX8_marks_34 (lv_at hl 6 rfl) ?_
          obtain ⟨r_25, hg, h⟩ := bd_some h
          refine rdV (As := [.int v6_21]) (rest := [.int x3]) (ci := 7) ⟨hx, hb, hml, hown, hts⟩ (k_X8_inches l dC dI cI cZ cS N aM aM_s fs_M M_s_22 v6_21 hf_M_s r_25 hg) (cwV 1 hts gX8_marks_X8_inches rfl rfl rfl cd_X8_inches ⟨Nat.le_trans (m := 3) (Nat.le_of_ble_eq_true rfl) (Nat.le_add_right _ _), Nat.le_trans (m := 70) (Nat.le_of_ble_eq_true rfl) (Nat.le_add_right _ _)⟩) hP hD hK [0, 1] (by decide) rfl rfl rfl rfl hl.1 rfl (Nat.le_of_ble_eq_true rfl) dX8_marks_36 ⟨Nat.zero_le _, Nat.zero_le _⟩ ?_
          refine lv_iadd hx hb dX8_marks_39 ?_
          refine lv_istore (lv' := [(7, .int (x3 + r_25)), (0, .ref aM), (1, .int x1), (2, .ref aM_isTwo), (3, .int x3), (4, .int x4), (5, .int v5_20), (6, .int v6_21)]) hx hb dX8_marks_40 hl (by decide) rfl (fun ls hl => ?_)
          refine lv_aload_n hx hb dX8_marks_42 rfl (lv_at hl 1 rfl) ?_
          refine lv_iload hx hb dX8_marks_43 (lv_at hl 7 rfl) ?_
          obtain ⟨r_26, hg, h⟩ := bd_some h
          refine rdV (As := [.int v6_21]) (rest := []) (ci := 7) ⟨hx, hb, hml, hown, hts⟩ (k_X8_many l dC dI cI cZ cS N aM aM_s fs_M M_s_22 v6_21 hf_M_s r_26 hg) (cwV 1 hts gX8_marks_X8_many rfl rfl rfl cd_X8_many ⟨Nat.le_trans (m := 3) (Nat.le_of_ble_eq_true rfl) (Nat.le_add_right _ _), Nat.le_trans (m := 70) (Nat.le_of_ble_eq_true rfl) (Nat.le_add_right _ _)⟩) hP hD hK [0, 1] (by decide) rfl rfl rfl rfl hl.1 rfl (Nat.le_of_ble_eq_true rfl) dX8_marks_45 ⟨Nat.zero_le _, Nat.zero_le _⟩ ?_
          refine lv_if_le (tgt := 108) hx hb dX8_marks_48 (by decide) (fun c_27 => ?_) (fun c_27 => ?_)
          · have h := it_p c_27 h
            refine lv_iload hx hb dX8_marks_108 (lv_at hl 6 rfl) ?_
            refine lv_bipush (v := 13) hx hb dX8_marks_110 (by decide) ?_
            refine lv_imul hx hb dX8_marks_112 ?_
            refine lv_istore (lv' := [(5, .int (v5_20 * 13)), (7, .int (x3 + r_25)), (0, .ref aM), (1, .int x1), (2, .ref aM_isTwo), (3, .int x3), (4, .int x4), (6, .int v6_21)]) hx hb dX8_marks_113 hl (by decide) rfl (fun ls hl => ?_)
            refine lv_iinc (v := (v6_21 + 1)) (lv' := [(6, .int (v6_21 + 1)), (5, .int (v5_20 * 13)), (7, .int (x3 + r_25)), (0, .ref aM), (1, .int x1), (2, .ref aM_isTwo), (3, .int x3), (4, .int x4)]) hx hb dX8_marks_115 hl (k := 7) rfl rfl (by decide) rfl (fun ls hl => ?_)
            refine lv_goto (tgt := 21) hx hb dX8_marks_118 (by decide) ?_
            exact ihn_19 (v5_20 * 13) (v6_21 + 1) M_s_22 M_isTwo_23 ls _ _ h (lv_sub hl [3, 4, 5, 6, 7, 1, 0] rfl) hP hD hS
          · have h := it_n c_27 h
            refine lv_iload hx hb dX8_marks_51 (lv_at hl 0 rfl) ?_
            refine lv_aload_n hx hb dX8_marks_53 rfl (lv_at hl 1 rfl) ?_
            refine lv_iload_n hx hb dX8_marks_54 rfl (lv_at hl 2 rfl) ?_
            obtain ⟨r_28, hg, h⟩ := bd_some h
            refine rdV (As := [.int x1]) (rest := [.int (x3 + r_25)]) (ci := 7) ⟨hx, hb, hml, hown, hts⟩ (k_X8_lengthOf l dC dI cI cZ cS N aM aM_s fs_M M_s_22 x1 hf_M_s r_28 hg) (cwV 1 hts gX8_marks_X8_lengthOf rfl rfl rfl cd_X8_lengthOf ⟨Nat.le_trans (m := 3) (Nat.le_of_ble_eq_true rfl) (Nat.le_add_right _ _), Nat.le_trans (m := 70) (Nat.le_of_ble_eq_true rfl) (Nat.le_add_right _ _)⟩) hP hD hK [0, 1] (by decide) rfl rfl rfl rfl hl.1 rfl (Nat.le_of_ble_eq_true rfl) dX8_marks_55 ⟨Nat.zero_le _, Nat.zero_le _⟩ ?_
            refine lv_icmp_gt (tgt := 108) hx hb dX8_marks_58 (by decide) (fun c_29 => ?_) (fun c_29 => ?_)
            · have h := it_p c_29 h
              refine lv_iload hx hb dX8_marks_108 (lv_at hl 6 rfl) ?_
              refine lv_bipush (v := 13) hx hb dX8_marks_110 (by decide) ?_
              refine lv_imul hx hb dX8_marks_112 ?_
              refine lv_istore (lv' := [(5, .int (v5_20 * 13)), (7, .int (x3 + r_25)), (0, .ref aM), (1, .int x1), (2, .ref aM_isTwo), (3, .int x3), (4, .int x4), (6, .int v6_21)]) hx hb dX8_marks_113 hl (by decide) rfl (fun ls hl => ?_)
              refine lv_iinc (v := (v6_21 + 1)) (lv' := [(6, .int (v6_21 + 1)), (5, .int (v5_20 * 13)), (7, .int (x3 + r_25)), (0, .ref aM), (1, .int x1), (2, .ref aM_isTwo), (3, .int x3), (4, .int x4)]) hx hb dX8_marks_115 hl (k := 7) rfl rfl (by decide) rfl (fun ls hl => ?_)
              refine lv_goto (tgt := 21) hx hb dX8_marks_118 (by decide) ?_
              exact ihn_19 (v5_20 * 13) (v6_21 + 1) M_s_22 M_isTwo_23 ls _ _ h (lv_sub hl [3, 4, 5, 6, 7, 1, 0] rfl) hP hD hS
            · have h := it_n c_29 h
              refine lv_iload hx hb dX8_marks_61 (lv_at hl 0 rfl) ?_
              refine lv_aload_n hx hb dX8_marks_63 rfl (lv_at hl 1 rfl) ?_
              refine lv_iload_n hx hb dX8_marks_64 rfl (lv_at hl 2 rfl) ?_
              obtain ⟨r_30, hg, h⟩ := bd_some h
              refine rdV (As := [.int x1]) (rest := [.int (x3 + r_25)]) (ci := 7) ⟨hx, hb, hml, hown, hts⟩ (k_X8_lengthOf l dC dI cI cZ cS N aM aM_s fs_M M_s_22 x1 hf_M_s r_30 hg) (cwV 1 hts gX8_marks_X8_lengthOf rfl rfl rfl cd_X8_lengthOf ⟨Nat.le_trans (m := 3) (Nat.le_of_ble_eq_true rfl) (Nat.le_add_right _ _), Nat.le_trans (m := 70) (Nat.le_of_ble_eq_true rfl) (Nat.le_add_right _ _)⟩) hP hD hK [0, 1] (by decide) rfl rfl rfl rfl hl.1 rfl (Nat.le_of_ble_eq_true rfl) dX8_marks_65 ⟨Nat.zero_le _, Nat.zero_le _⟩ ?_
              refine lv_icmp_eq (tgt := 81) hx hb dX8_marks_68 (by decide) (fun c_31 => ?_) (fun c_31 => ?_)
              · have h := it_p c_31 h
                refine lv_aload_n hx hb dX8_marks_81 rfl (lv_at hl 1 rfl) ?_
                refine lv_iload hx hb dX8_marks_82 (lv_at hl 7 rfl) ?_
                refine lv_iconst (v := 1) hx hb dX8_marks_84 (by decide) ?_
                obtain ⟨r_32, hg, h⟩ := bd_some h
                refine mtVv (As := [.int v6_21, .int 1]) (rest := []) (ci := 7) (wr := [(aM_isTwo, .inl (cZ, 28561, .inl M_isTwo_23))]) (w2 := [(aM, .inr (7, fs_M)), (aM_s, .inl (cI, 99, .inl r_32)), (aM_isTwo, .inl (cZ, 28561, .inl M_isTwo_23))]) ⟨hx, hb, hml, hown, hts⟩ (k_X8_leaves l dC dI cI cZ cS N aM aM_s fs_M _ M_s_22 v6_21 1 hf_M_s r_32 hg) (cwV 2 hts gX8_marks_X8_leaves rfl rfl rfl cd_X8_leaves ⟨Nat.le_trans (m := 3) (Nat.le_of_ble_eq_true rfl) (Nat.le_add_right _ _), Nat.le_trans (m := 70) (Nat.le_of_ble_eq_true rfl) (Nat.le_add_right _ _)⟩) hP hD hK hS hA [0, 1] [2] [1, 2, 0] (by decide) (by decide) (by decide) (by decide) rfl rfl rfl rfl rfl rfl hl.1 rfl (Nat.le_of_ble_eq_true rfl) dX8_marks_85 ⟨Nat.zero_le _, Nat.zero_le _⟩ (fun H locs hP hD hS => ?_)
                refine lv_aload_n hx hb dX8_marks_88 rfl (lv_at hl 1 rfl) ?_
                refine lv_iload_n hx hb dX8_marks_89 rfl (lv_at hl 2 rfl) ?_
                refine lv_aload_n hx hb dX8_marks_90 rfl (lv_at hl 3 rfl) ?_
                refine lv_iload hx hb dX8_marks_91 (lv_at hl 0 rfl) ?_
                refine lv_iload hx hb dX8_marks_93 (lv_at hl 5 rfl) ?_
                refine lv_iload hx hb dX8_marks_95 (lv_at hl 6 rfl) ?_
                refine lv_iadd hx hb dX8_marks_97 ?_
                obtain ⟨r_33, hg, h⟩ := bd_some h
                refine mtVv (As := [.int x1, .ref aM_isTwo, .int (x3 + r_25), .int (x4 + v5_20)]) (rest := []) (ci := 7) (wr := []) (w2 := [(aM, .inr (7, fs_M)), (aM_s, .inl (cI, 99, .inl r_33.1)), (aM_isTwo, .inl (cZ, 28561, .inl r_33.2))]) ⟨hx, hb, hml, hown, hts⟩ (ihd _ r_32 M_isTwo_23 x1 (x3 + r_25) (x4 + v5_20) r_33 hg) (cwV 4 hts gX8_marks_X8_marks rfl rfl rfl cd_X8_marks ⟨Nat.le_refl _, by show 8 + (8 + 11) + (70 + 27 * dd) ≤ 70 + 27 * (dd + 1); omega⟩) hP hD hK hS hA [0, 1, 2] [] [0, 1, 2] (by decide) (by decide) (by decide) (by decide) rfl rfl rfl rfl rfl rfl hl.1 rfl (Nat.le_of_ble_eq_true rfl) dX8_marks_98 ⟨Nat.zero_le _, Nat.zero_le _⟩ (fun H locs hP hD hS => ?_)
                refine lv_aload_n hx hb dX8_marks_101 rfl (lv_at hl 1 rfl) ?_
                refine lv_iload hx hb dX8_marks_102 (lv_at hl 7 rfl) ?_
                refine lv_iconst (v := (-1)) hx hb dX8_marks_104 (by decide) ?_
                obtain ⟨r_34, hg, h⟩ := bd_some h
                refine mtVv (As := [.int v6_21, .int (-1)]) (rest := []) (ci := 7) (wr := [(aM_isTwo, .inl (cZ, 28561, .inl r_33.2))]) (w2 := [(aM, .inr (7, fs_M)), (aM_s, .inl (cI, 99, .inl r_34)), (aM_isTwo, .inl (cZ, 28561, .inl r_33.2))]) ⟨hx, hb, hml, hown, hts⟩ (k_X8_leaves l dC dI cI cZ cS N aM aM_s fs_M _ r_33.1 v6_21 (-1) hf_M_s r_34 hg) (cwV 2 hts gX8_marks_X8_leaves rfl rfl rfl cd_X8_leaves ⟨Nat.le_trans (m := 3) (Nat.le_of_ble_eq_true rfl) (Nat.le_add_right _ _), Nat.le_trans (m := 70) (Nat.le_of_ble_eq_true rfl) (Nat.le_add_right _ _)⟩) hP hD hK hS hA [0, 1] [2] [1, 2, 0] (by decide) (by decide) (by decide) (by decide) rfl rfl rfl rfl rfl rfl hl.1 rfl (Nat.le_of_ble_eq_true rfl) dX8_marks_105 ⟨Nat.zero_le _, Nat.zero_le _⟩ (fun H locs hP hD hS => ?_)
                refine lv_iload hx hb dX8_marks_108 (lv_at hl 6 rfl) ?_
                refine lv_bipush (v := 13) hx hb dX8_marks_110 (by decide) ?_
                refine lv_imul hx hb dX8_marks_112 ?_
                refine lv_istore (lv' := [(5, .int (v5_20 * 13)), (7, .int (x3 + r_25)), (0, .ref aM), (1, .int x1), (2, .ref aM_isTwo), (3, .int x3), (4, .int x4), (6, .int v6_21)]) hx hb dX8_marks_113 hl (by decide) rfl (fun ls hl => ?_)
                refine lv_iinc (v := (v6_21 + 1)) (lv' := [(6, .int (v6_21 + 1)), (5, .int (v5_20 * 13)), (7, .int (x3 + r_25)), (0, .ref aM), (1, .int x1), (2, .ref aM_isTwo), (3, .int x3), (4, .int x4)]) hx hb dX8_marks_115 hl (k := 7) rfl rfl (by decide) rfl (fun ls hl => ?_)
                refine lv_goto (tgt := 21) hx hb dX8_marks_118 (by decide) ?_
                exact ihn_19 (v5_20 * 13) (v6_21 + 1) r_34 r_33.2 ls _ _ h (lv_sub hl [3, 4, 5, 6, 7, 1, 0] rfl) hP hD hS
              · have h := it_n c_31 h
                refine lv_aload_n hx hb dX8_marks_71 rfl (lv_at hl 1 rfl) ?_
                refine lv_iload_n hx hb dX8_marks_72 rfl (lv_at hl 2 rfl) ?_
                refine lv_iload hx hb dX8_marks_73 (lv_at hl 0 rfl) ?_
                obtain ⟨r_35, hg, h⟩ := bd_some h
                refine rdV (As := [.int x1, .int (x3 + r_25)]) (rest := []) (ci := 7) ⟨hx, hb, hml, hown, hts⟩ (k_X8_mayBe l dC dI cI cZ cS N aM aM_s fs_M M_s_22 x1 (x3 + r_25) hf_M_s r_35 hg) (cwV 2 hts gX8_marks_X8_mayBe rfl rfl rfl cd_X8_mayBe ⟨Nat.le_trans (m := 3) (Nat.le_of_ble_eq_true rfl) (Nat.le_add_right _ _), Nat.le_trans (m := 70) (Nat.le_of_ble_eq_true rfl) (Nat.le_add_right _ _)⟩) hP hD hK [0, 1] (by decide) rfl rfl rfl rfl hl.1 rfl (Nat.le_of_ble_eq_true rfl) dX8_marks_75 ⟨Nat.zero_le _, Nat.zero_le _⟩ ?_
                refine lv_if_eq (tgt := 108) hx hb dX8_marks_78 (by decide) (fun c_36 => ?_) (fun c_36 => ?_)
                · have h := it_p c_36 h
                  refine lv_iload hx hb dX8_marks_108 (lv_at hl 6 rfl) ?_
                  refine lv_bipush (v := 13) hx hb dX8_marks_110 (by decide) ?_
                  refine lv_imul hx hb dX8_marks_112 ?_
                  refine lv_istore (lv' := [(5, .int (v5_20 * 13)), (7, .int (x3 + r_25)), (0, .ref aM), (1, .int x1), (2, .ref aM_isTwo), (3, .int x3), (4, .int x4), (6, .int v6_21)]) hx hb dX8_marks_113 hl (by decide) rfl (fun ls hl => ?_)
                  refine lv_iinc (v := (v6_21 + 1)) (lv' := [(6, .int (v6_21 + 1)), (5, .int (v5_20 * 13)), (7, .int (x3 + r_25)), (0, .ref aM), (1, .int x1), (2, .ref aM_isTwo), (3, .int x3), (4, .int x4)]) hx hb dX8_marks_115 hl (k := 7) rfl rfl (by decide) rfl (fun ls hl => ?_)
                  refine lv_goto (tgt := 21) hx hb dX8_marks_118 (by decide) ?_
                  exact ihn_19 (v5_20 * 13) (v6_21 + 1) M_s_22 M_isTwo_23 ls _ _ h (lv_sub hl [3, 4, 5, 6, 7, 1, 0] rfl) hP hD hS
                · have h := it_n c_36 h
                  refine lv_aload_n hx hb dX8_marks_81 rfl (lv_at hl 1 rfl) ?_
                  refine lv_iload hx hb dX8_marks_82 (lv_at hl 7 rfl) ?_
                  refine lv_iconst (v := 1) hx hb dX8_marks_84 (by decide) ?_
                  obtain ⟨r_37, hg, h⟩ := bd_some h
                  refine mtVv (As := [.int v6_21, .int 1]) (rest := []) (ci := 7) (wr := [(aM_isTwo, .inl (cZ, 28561, .inl M_isTwo_23))]) (w2 := [(aM, .inr (7, fs_M)), (aM_s, .inl (cI, 99, .inl r_37)), (aM_isTwo, .inl (cZ, 28561, .inl M_isTwo_23))]) ⟨hx, hb, hml, hown, hts⟩ (k_X8_leaves l dC dI cI cZ cS N aM aM_s fs_M _ M_s_22 v6_21 1 hf_M_s r_37 hg) (cwV 2 hts gX8_marks_X8_leaves rfl rfl rfl cd_X8_leaves ⟨Nat.le_trans (m := 3) (Nat.le_of_ble_eq_true rfl) (Nat.le_add_right _ _), Nat.le_trans (m := 70) (Nat.le_of_ble_eq_true rfl) (Nat.le_add_right _ _)⟩) hP hD hK hS hA [0, 1] [2] [1, 2, 0] (by decide) (by decide) (by decide) (by decide) rfl rfl rfl rfl rfl rfl hl.1 rfl (Nat.le_of_ble_eq_true rfl) dX8_marks_85 ⟨Nat.zero_le _, Nat.zero_le _⟩ (fun H locs hP hD hS => ?_)
                  refine lv_aload_n hx hb dX8_marks_88 rfl (lv_at hl 1 rfl) ?_
                  refine lv_iload_n hx hb dX8_marks_89 rfl (lv_at hl 2 rfl) ?_
                  refine lv_aload_n hx hb dX8_marks_90 rfl (lv_at hl 3 rfl) ?_
                  refine lv_iload hx hb dX8_marks_91 (lv_at hl 0 rfl) ?_
                  refine lv_iload hx hb dX8_marks_93 (lv_at hl 5 rfl) ?_
                  refine lv_iload hx hb dX8_marks_95 (lv_at hl 6 rfl) ?_
                  refine lv_iadd hx hb dX8_marks_97 ?_
                  obtain ⟨r_38, hg, h⟩ := bd_some h
                  refine mtVv (As := [.int x1, .ref aM_isTwo, .int (x3 + r_25), .int (x4 + v5_20)]) (rest := []) (ci := 7) (wr := []) (w2 := [(aM, .inr (7, fs_M)), (aM_s, .inl (cI, 99, .inl r_38.1)), (aM_isTwo, .inl (cZ, 28561, .inl r_38.2))]) ⟨hx, hb, hml, hown, hts⟩ (ihd _ r_37 M_isTwo_23 x1 (x3 + r_25) (x4 + v5_20) r_38 hg) (cwV 4 hts gX8_marks_X8_marks rfl rfl rfl cd_X8_marks ⟨Nat.le_refl _, by show 8 + (8 + 11) + (70 + 27 * dd) ≤ 70 + 27 * (dd + 1); omega⟩) hP hD hK hS hA [0, 1, 2] [] [0, 1, 2] (by decide) (by decide) (by decide) (by decide) rfl rfl rfl rfl rfl rfl hl.1 rfl (Nat.le_of_ble_eq_true rfl) dX8_marks_98 ⟨Nat.zero_le _, Nat.zero_le _⟩ (fun H locs hP hD hS => ?_)
                  refine lv_aload_n hx hb dX8_marks_101 rfl (lv_at hl 1 rfl) ?_
                  refine lv_iload hx hb dX8_marks_102 (lv_at hl 7 rfl) ?_
                  refine lv_iconst (v := (-1)) hx hb dX8_marks_104 (by decide) ?_
                  obtain ⟨r_39, hg, h⟩ := bd_some h
                  refine mtVv (As := [.int v6_21, .int (-1)]) (rest := []) (ci := 7) (wr := [(aM_isTwo, .inl (cZ, 28561, .inl r_38.2))]) (w2 := [(aM, .inr (7, fs_M)), (aM_s, .inl (cI, 99, .inl r_39)), (aM_isTwo, .inl (cZ, 28561, .inl r_38.2))]) ⟨hx, hb, hml, hown, hts⟩ (k_X8_leaves l dC dI cI cZ cS N aM aM_s fs_M _ r_38.1 v6_21 (-1) hf_M_s r_39 hg) (cwV 2 hts gX8_marks_X8_leaves rfl rfl rfl cd_X8_leaves ⟨Nat.le_trans (m := 3) (Nat.le_of_ble_eq_true rfl) (Nat.le_add_right _ _), Nat.le_trans (m := 70) (Nat.le_of_ble_eq_true rfl) (Nat.le_add_right _ _)⟩) hP hD hK hS hA [0, 1] [2] [1, 2, 0] (by decide) (by decide) (by decide) (by decide) rfl rfl rfl rfl rfl rfl hl.1 rfl (Nat.le_of_ble_eq_true rfl) dX8_marks_105 ⟨Nat.zero_le _, Nat.zero_le _⟩ (fun H locs hP hD hS => ?_)
                  refine lv_iload hx hb dX8_marks_108 (lv_at hl 6 rfl) ?_
                  refine lv_bipush (v := 13) hx hb dX8_marks_110 (by decide) ?_
                  refine lv_imul hx hb dX8_marks_112 ?_
                  refine lv_istore (lv' := [(5, .int (v5_20 * 13)), (7, .int (x3 + r_25)), (0, .ref aM), (1, .int x1), (2, .ref aM_isTwo), (3, .int x3), (4, .int x4), (6, .int v6_21)]) hx hb dX8_marks_113 hl (by decide) rfl (fun ls hl => ?_)
                  refine lv_iinc (v := (v6_21 + 1)) (lv' := [(6, .int (v6_21 + 1)), (5, .int (v5_20 * 13)), (7, .int (x3 + r_25)), (0, .ref aM), (1, .int x1), (2, .ref aM_isTwo), (3, .int x3), (4, .int x4)]) hx hb dX8_marks_115 hl (k := 7) rfl rfl (by decide) rfl (fun ls hl => ?_)
                  refine lv_goto (tgt := 21) hx hb dX8_marks_118 (by decide) ?_
                  exact ihn_19 (v5_20 * 13) (v6_21 + 1) r_39 r_38.2 ls _ _ h (lv_sub hl [3, 4, 5, 6, 7, 1, 0] rfl) hP hD hS
    exact L21_18 N 1 0 M_s M_isTwo ls _ _ h (lv_sub hl [2, 3, 4, 5, 6, 1, 0] rfl) hP hD hS
  · have h := it_p c_2 h
    refine lv_aload_n hx hb dX8_marks_9 rfl (lv_at hl 2 rfl) ?_
    refine lv_iload hx hb dX8_marks_10 (lv_at hl 4 rfl) ?_
    refine lv_iconst (v := 1) hx hb dX8_marks_12 (by decide) ?_
    obtain ⟨hi, h⟩ := ck_some h
    refine va_zast hx hb hK hP hD hS 2 1 rfl rfl (gi_in hi) dX8_marks_13 (fun H locs hP hD hS => ?_)
    have hP : va_P (dC, dI) vwCl [(aM, .inr (7, fs_M)), (aM_s, .inl (cI, 99, .inl M_s)), (aM_isTwo, .inl (cZ, 28561, .inl (upd M_isTwo x4.toNatClampNeg (vp_nar .boolean 1))))] H := hP
    have hD : va_D A [(aM, .inr (7, fs_M)), (aM_s, .inl (cI, 99, .inl M_s)), (aM_isTwo, .inl (cZ, 28561, .inl (upd M_isTwo x4.toNatClampNeg (vp_nar .boolean 1))))] := hD
    have h := Option.some.inj h
    exact W.vret hx hb hr (fun t ht hW => ⟨⟨(), rfl, trivial, by (try rw [← h]); rw [ht]; exact hP, va_K.moved hW.alike hK, by (try rw [← h]); exact hD⟩, hS.F ht⟩) hS.2.2 dX8_marks_14
def f_X8_worthOf_L7 (N : Nat) (M_s : Nat → Int32) : Nat → Int32 → Int32 → Int32 → Option (Int32)
  | 0, _, _, _ => none
  | n + 1, v2, v3, v4 =>
    ck (gi 1 99) (if (M_s (1 : Int32).toNatClampNeg) ≤ v4 then (some (v2)) else ((f_X8_worth N M_s v4).bind fun r_2 => f_X8_worthOf_L7 N M_s n (v2 + ((v3 - v3 / 13 * 13) * r_2)) (v3 / 13) (v4 + 1)))
def f_X8_worthOf (N : Nat) (M_s : Nat → Int32) (x1 : Int32) : Option (Int32) :=
  f_X8_worthOf_L7 N M_s N 0 x1 0
set_option maxHeartbeats 4000000 in
set_option maxRecDepth 100000 in
theorem k_X8_worthOf (l : Launch) (dC : Nat → ClassId) (dI : Nat → Nat → Nat) (cI cZ cS : ClassId) (N : Nat) (aM aM_s : Nat) (fs_M : List Value) (M_s : Nat → Int32) (x1 : Int32) (hf_M_s : fs_M[0]? = some (.ref aM_s)) (res : Int32) (h : f_X8_worthOf N M_s x1 = some res) : Met l yX8_worthOf wsX8_worthOf ({ frames := 1, cells := 0, slots := 0, locals := 21 }) (va_Pc [.ref aM, .int x1] (wd (dC, dI) cI cZ cS [(aM, .inr (7, fs_M)), (aM_s, .inl (cI, 99, .inl M_s))])) (vp_Si (fun r => r = res)) 0 0 (fun _ => False) := by
  refine Met.ofW (cc := cX8_worthOf) (maxL := 5) (ret := (some .int)) (by decide) rfl ?_
  intro p e s m args below meth c s₁ B hml hv
  obtain ⟨rfl, hP, hK, hD⟩ := hv
  have hx := B.exec
  have hb := B.bytes
  have hr := B.returns
  have hts := atoms_spec (ws := wsX8_worthOf) B.pre
  have hown : s.vm.findClass RX8 = some m.cls := findClass_of_methodNamed B.named
  have hlocks := B.notSynchronized
  have hl := lv_entry ([.ref aM, .int x1]) (n := 5) (Nat.le_of_ble_eq_true rfl)
  rw [lg_entry_eq]
  generalize (lg_sl ([.ref aM, .int x1]) ++ List.replicate (5 - (lg_sl ([.ref aM, .int x1])).length) Slot.unset).toArray = ls at hl ⊢
  have hl : lv_has ls 5 [(0, .ref aM), (1, .int x1)] := hl
  unfold f_X8_worthOf at h
  refine lv_iconst (v := 0) hx hb dX8_worthOf_0 (by decide) ?_
  refine lv_istore_n (lv' := [(2, .int 0), (0, .ref aM), (1, .int x1)]) hx hb dX8_worthOf_1 rfl hl (by decide) rfl (fun ls hl => ?_)
  refine lv_iload_n hx hb dX8_worthOf_2 rfl (lv_at hl 2 rfl) ?_
  refine lv_istore_n (lv' := [(3, .int x1), (2, .int 0), (0, .ref aM), (1, .int x1)]) hx hb dX8_worthOf_3 rfl hl (by decide) rfl (fun ls hl => ?_)
  refine lv_iconst (v := 0) hx hb dX8_worthOf_4 (by decide) ?_
  refine lv_istore (lv' := [(4, .int 0), (3, .int x1), (2, .int 0), (0, .ref aM), (1, .int x1)]) hx hb dX8_worthOf_5 hl (by decide) rfl (fun ls hl => ?_)
  have L7_2 : ∀ (n_3 : Nat) (v2_4 : Int32) (v3_5 : Int32) (v4_6 : Int32)  (ls : Array Slot), f_X8_worthOf_L7 N M_s n_3 v2_4 v3_5 v4_6 = some res → lv_has ls 5 [(0, .ref aM), (2, .int v2_4), (3, .int v3_5), (4, .int v4_6)] → W p l e (headSpec wsX8_worthOf ({ frames := 1, cells := 0, slots := 0, locals := 21 })).room s m ([.ref aM, .int x1] : List Value).toArray below meth c s.heap [] 0 0 (MQ below (vp_Si (fun r => r = res)) ([.ref aM, .int x1] : List Value).toArray s 0 0 (fun _ => False)) (F0 m 7 ls []) := by
    intro n_3
    induction n_3 with
    | zero =>
      intro v2_4 v3_5 v4_6 ls h
      simp only [f_X8_worthOf_L7] at h
      try exact absurd h (by simp)
    | succ n_3 ihn_3 =>
      intro v2_4 v3_5 v4_6 ls h hl
      rw [f_X8_worthOf_L7] at h
      refine lv_iload hx hb dX8_worthOf_7 (lv_at hl 3 rfl) ?_
      refine lv_aload_n hx hb dX8_worthOf_9 rfl (lv_at hl 0 rfl) ?_
      refine va_get (D := (dC, dI)) (ci := 7) (v := .ref aM_s) (C := RX8) (T := TX8) (N := 37) hx hb hts (fun _ h => List.mem_cons_of_mem _ (List.mem_append_right _ h)) hown hK hP 0 rfl rfl 0 (by decide) (hts (.fieldLink RX8 9 "SlateRowsModel" "s" "[I") (by decide +kernel)) (fun _ h9 => h9) hf_M_s dX8_worthOf_10 ?_
      refine lv_iconst (v := 1) hx hb dX8_worthOf_13 (by decide) ?_
      obtain ⟨hi, h⟩ := ck_some h
      refine va_iald hx hb hK hP 1 0 rfl rfl (gi_in hi) dX8_worthOf_14 ?_
      refine lv_icmp_ge (tgt := 43) hx hb dX8_worthOf_15 (by decide) (fun c_7 => ?_) (fun c_7 => ?_)
      · have h := it_p c_7 h
        refine lv_iload_n hx hb dX8_worthOf_43 rfl (lv_at hl 1 rfl) ?_
        exact W.iret hx hb hr (fun t ht hW => ⟨_, rfl, Option.some.inj h, ht⟩) (fun q hq => by cases hq) dX8_worthOf_44
      · have h := it_n c_7 h
        refine lv_iload_n hx hb dX8_worthOf_18 rfl (lv_at hl 1 rfl) ?_
        refine lv_iload_n hx hb dX8_worthOf_19 rfl (lv_at hl 2 rfl) ?_
        refine lv_bipush (v := 13) hx hb dX8_worthOf_20 (by decide) ?_
        refine lv_irem hx hb dX8_worthOf_22 (by decide) ?_
        refine lv_aload_n hx hb dX8_worthOf_23 rfl (lv_at hl 0 rfl) ?_
        refine lv_iload hx hb dX8_worthOf_24 (lv_at hl 3 rfl) ?_
        obtain ⟨r_8, hg, h⟩ := bd_some h
        refine rdV (As := [.int v4_6]) (rest := [.int (v3_5 - v3_5 / 13 * 13), .int v2_4]) (ci := 7) ⟨hx, hb, hml, hown, hts⟩ (k_X8_worth l dC dI cI cZ cS N aM aM_s fs_M M_s v4_6 hf_M_s r_8 hg) (cwV 1 hts gX8_worthOf_X8_worth rfl rfl rfl cd_X8_worth ⟨Nat.le_of_ble_eq_true rfl, Nat.le_of_ble_eq_true rfl⟩) hP hD hK [0, 1] (by decide) rfl rfl rfl rfl hl.1 rfl (Nat.le_of_ble_eq_true rfl) dX8_worthOf_26 ⟨Nat.zero_le _, Nat.zero_le _⟩ ?_
        refine lv_imul hx hb dX8_worthOf_29 ?_
        refine lv_iadd hx hb dX8_worthOf_30 ?_
        refine lv_istore_n (lv' := [(2, .int (v2_4 + ((v3_5 - v3_5 / 13 * 13) * r_8))), (0, .ref aM), (3, .int v3_5), (4, .int v4_6)]) hx hb dX8_worthOf_31 rfl hl (by decide) rfl (fun ls hl => ?_)
        refine lv_iload_n hx hb dX8_worthOf_32 rfl (lv_at hl 2 rfl) ?_
        refine lv_bipush (v := 13) hx hb dX8_worthOf_33 (by decide) ?_
        refine lv_idiv hx hb dX8_worthOf_35 (by decide) ?_
        refine lv_istore_n (lv' := [(3, .int (v3_5 / 13)), (2, .int (v2_4 + ((v3_5 - v3_5 / 13 * 13) * r_8))), (0, .ref aM), (4, .int v4_6)]) hx hb dX8_worthOf_36 rfl hl (by decide) rfl (fun ls hl => ?_)
        refine lv_iinc (v := (v4_6 + 1)) (lv' := [(4, .int (v4_6 + 1)), (3, .int (v3_5 / 13)), (2, .int (v2_4 + ((v3_5 - v3_5 / 13 * 13) * r_8))), (0, .ref aM)]) hx hb dX8_worthOf_37 hl (k := 3) rfl rfl (by decide) rfl (fun ls hl => ?_)
        refine lv_goto (tgt := 7) hx hb dX8_worthOf_40 (by decide) ?_
        exact ihn_3 (v2_4 + ((v3_5 - v3_5 / 13 * 13) * r_8)) (v3_5 / 13) (v4_6 + 1) ls h (lv_sub hl [3, 2, 1, 0] rfl)
  exact L7_2 N 0 x1 0 ls h (lv_sub hl [3, 2, 1, 0] rfl)
def f_X8_isThere_L8 (N : Nat) (M_s : Nat → Int32) : Nat → Int32 → Int32 → Int32 → Option (Bool)
  | 0, _, _, _ => none
  | n + 1, v3, v4, v5 =>
    ck (gi 1 99) (if (M_s (1 : Int32).toNatClampNeg) ≤ v5 then (some (true)) else ((f_X8_many N M_s v5).bind fun r_2 => if ((v3 - v3 / 13 * 13) + (v4 - v4 / 13 * 13)) ≤ r_2 then (f_X8_isThere_L8 N M_s n (v3 / 13) (v4 / 13) (v5 + 1)) else (some (false))))
def f_X8_isThere (N : Nat) (M_s : Nat → Int32) (x1 : Int32) (x2 : Int32) : Option (Bool) :=
  f_X8_isThere_L8 N M_s N x1 x2 0
set_option maxHeartbeats 4000000 in
set_option maxRecDepth 100000 in
theorem k_X8_isThere (l : Launch) (dC : Nat → ClassId) (dI : Nat → Nat → Nat) (cI cZ cS : ClassId) (N : Nat) (aM aM_s : Nat) (fs_M : List Value) (M_s : Nat → Int32) (x1 : Int32) (x2 : Int32) (hf_M_s : fs_M[0]? = some (.ref aM_s)) (res : Bool) (h : f_X8_isThere N M_s x1 x2 = some res) : Met l yX8_isThere wsX8_isThere ({ frames := 1, cells := 0, slots := 0, locals := 21 }) (va_Pc [.ref aM, .int x1, .int x2] (wd (dC, dI) cI cZ cS [(aM, .inr (7, fs_M)), (aM_s, .inl (cI, 99, .inl M_s))])) (vp_Si (fun r => r = b2i res)) 0 0 (fun _ => False) := by
  refine Met.ofW (cc := cX8_isThere) (maxL := 6) (ret := (some .boolean)) (by decide) rfl ?_
  intro p e s m args below meth c s₁ B hml hv
  obtain ⟨rfl, hP, hK, hD⟩ := hv
  have hx := B.exec
  have hb := B.bytes
  have hr := B.returns
  have hts := atoms_spec (ws := wsX8_isThere) B.pre
  have hown : s.vm.findClass RX8 = some m.cls := findClass_of_methodNamed B.named
  have hlocks := B.notSynchronized
  have hl := lv_entry ([.ref aM, .int x1, .int x2]) (n := 6) (Nat.le_of_ble_eq_true rfl)
  rw [lg_entry_eq]
  generalize (lg_sl ([.ref aM, .int x1, .int x2]) ++ List.replicate (6 - (lg_sl ([.ref aM, .int x1, .int x2])).length) Slot.unset).toArray = ls at hl ⊢
  have hl : lv_has ls 6 [(0, .ref aM), (1, .int x1), (2, .int x2)] := hl
  unfold f_X8_isThere at h
  refine lv_iload_n hx hb dX8_isThere_0 rfl (lv_at hl 1 rfl) ?_
  refine lv_istore_n (lv' := [(3, .int x1), (0, .ref aM), (1, .int x1), (2, .int x2)]) hx hb dX8_isThere_1 rfl hl (by decide) rfl (fun ls hl => ?_)
  refine lv_iload_n hx hb dX8_isThere_2 rfl (lv_at hl 3 rfl) ?_
  refine lv_istore (lv' := [(4, .int x2), (3, .int x1), (0, .ref aM), (1, .int x1), (2, .int x2)]) hx hb dX8_isThere_3 hl (by decide) rfl (fun ls hl => ?_)
  refine lv_iconst (v := 0) hx hb dX8_isThere_5 (by decide) ?_
  refine lv_istore (lv' := [(5, .int 0), (4, .int x2), (3, .int x1), (0, .ref aM), (1, .int x1), (2, .int x2)]) hx hb dX8_isThere_6 hl (by decide) rfl (fun ls hl => ?_)
  have L8_3 : ∀ (n_4 : Nat) (v3_5 : Int32) (v4_6 : Int32) (v5_7 : Int32)  (ls : Array Slot), f_X8_isThere_L8 N M_s n_4 v3_5 v4_6 v5_7 = some res → lv_has ls 6 [(0, .ref aM), (3, .int v3_5), (4, .int v4_6), (5, .int v5_7)] → W p l e (headSpec wsX8_isThere ({ frames := 1, cells := 0, slots := 0, locals := 21 })).room s m ([.ref aM, .int x1, .int x2] : List Value).toArray below meth c s.heap [] 0 0 (MQ below (vp_Si (fun r => r = b2i res)) ([.ref aM, .int x1, .int x2] : List Value).toArray s 0 0 (fun _ => False)) (F0 m 8 ls []) := by
    intro n_4
    induction n_4 with
    | zero =>
      intro v3_5 v4_6 v5_7 ls h
      simp only [f_X8_isThere_L8] at h
      try exact absurd h (by simp)
    | succ n_4 ihn_4 =>
      intro v3_5 v4_6 v5_7 ls h hl
      rw [f_X8_isThere_L8] at h
      refine lv_iload hx hb dX8_isThere_8 (lv_at hl 3 rfl) ?_
      refine lv_aload_n hx hb dX8_isThere_10 rfl (lv_at hl 0 rfl) ?_
      refine va_get (D := (dC, dI)) (ci := 7) (v := .ref aM_s) (C := RX8) (T := TX8) (N := 37) hx hb hts (fun _ h => List.mem_cons_of_mem _ (List.mem_append_right _ h)) hown hK hP 0 rfl rfl 0 (by decide) (hts (.fieldLink RX8 9 "SlateRowsModel" "s" "[I") (by decide +kernel)) (fun _ h9 => h9) hf_M_s dX8_isThere_11 ?_
      refine lv_iconst (v := 1) hx hb dX8_isThere_14 (by decide) ?_
      obtain ⟨hi, h⟩ := ck_some h
      refine va_iald hx hb hK hP 1 0 rfl rfl (gi_in hi) dX8_isThere_15 ?_
      refine lv_icmp_ge (tgt := 58) hx hb dX8_isThere_16 (by decide) (fun c_8 => ?_) (fun c_8 => ?_)
      · have h := it_p c_8 h
        refine lv_iconst (v := 1) hx hb dX8_isThere_58 (by decide) ?_
        exact W.zret (v := b2i true) hx hb hr (b2i_nar _) (fun t ht hW => ⟨b2i true, rfl, congrArg b2i (Option.some.inj h), ht⟩) (fun q hq => by cases hq) dX8_isThere_59
      · have h := it_n c_8 h
        refine lv_iload_n hx hb dX8_isThere_19 rfl (lv_at hl 1 rfl) ?_
        refine lv_bipush (v := 13) hx hb dX8_isThere_20 (by decide) ?_
        refine lv_irem hx hb dX8_isThere_22 (by decide) ?_
        refine lv_iload hx hb dX8_isThere_23 (lv_at hl 2 rfl) ?_
        refine lv_bipush (v := 13) hx hb dX8_isThere_25 (by decide) ?_
        refine lv_irem hx hb dX8_isThere_27 (by decide) ?_
        refine lv_iadd hx hb dX8_isThere_28 ?_
        refine lv_aload_n hx hb dX8_isThere_29 rfl (lv_at hl 0 rfl) ?_
        refine lv_iload hx hb dX8_isThere_30 (lv_at hl 3 rfl) ?_
        obtain ⟨r_9, hg, h⟩ := bd_some h
        refine rdV (As := [.int v5_7]) (rest := [.int ((v3_5 - v3_5 / 13 * 13) + (v4_6 - v4_6 / 13 * 13))]) (ci := 7) ⟨hx, hb, hml, hown, hts⟩ (k_X8_many l dC dI cI cZ cS N aM aM_s fs_M M_s v5_7 hf_M_s r_9 hg) (cwV 1 hts gX8_isThere_X8_many rfl rfl rfl cd_X8_many ⟨Nat.le_of_ble_eq_true rfl, Nat.le_of_ble_eq_true rfl⟩) hP hD hK [0, 1] (by decide) rfl rfl rfl rfl hl.1 rfl (Nat.le_of_ble_eq_true rfl) dX8_isThere_32 ⟨Nat.zero_le _, Nat.zero_le _⟩ ?_
        refine lv_icmp_le (tgt := 40) hx hb dX8_isThere_35 (by decide) (fun c_10 => ?_) (fun c_10 => ?_)
        · have h := it_p c_10 h
          refine lv_iload_n hx hb dX8_isThere_40 rfl (lv_at hl 1 rfl) ?_
          refine lv_bipush (v := 13) hx hb dX8_isThere_41 (by decide) ?_
          refine lv_idiv hx hb dX8_isThere_43 (by decide) ?_
          refine lv_istore_n (lv' := [(3, .int (v3_5 / 13)), (0, .ref aM), (4, .int v4_6), (5, .int v5_7)]) hx hb dX8_isThere_44 rfl hl (by decide) rfl (fun ls hl => ?_)
          refine lv_iload hx hb dX8_isThere_45 (lv_at hl 2 rfl) ?_
          refine lv_bipush (v := 13) hx hb dX8_isThere_47 (by decide) ?_
          refine lv_idiv hx hb dX8_isThere_49 (by decide) ?_
          refine lv_istore (lv' := [(4, .int (v4_6 / 13)), (3, .int (v3_5 / 13)), (0, .ref aM), (5, .int v5_7)]) hx hb dX8_isThere_50 hl (by decide) rfl (fun ls hl => ?_)
          refine lv_iinc (v := (v5_7 + 1)) (lv' := [(5, .int (v5_7 + 1)), (4, .int (v4_6 / 13)), (3, .int (v3_5 / 13)), (0, .ref aM)]) hx hb dX8_isThere_52 hl (k := 3) rfl rfl (by decide) rfl (fun ls hl => ?_)
          refine lv_goto (tgt := 8) hx hb dX8_isThere_55 (by decide) ?_
          exact ihn_4 (v3_5 / 13) (v4_6 / 13) (v5_7 + 1) ls h (lv_sub hl [3, 2, 1, 0] rfl)
        · have h := it_n c_10 h
          refine lv_iconst (v := 0) hx hb dX8_isThere_38 (by decide) ?_
          exact W.zret (v := b2i false) hx hb hr (b2i_nar _) (fun t ht hW => ⟨b2i false, rfl, congrArg b2i (Option.some.inj h), ht⟩) (fun q hq => by cases hq) dX8_isThere_39
  exact L8_3 N x1 x2 0 ls h (lv_sub hl [3, 2, 1, 0] rfl)
