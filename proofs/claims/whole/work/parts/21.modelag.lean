theorem cd_X8_judgeOf : yX8_judgeOf.cls = RX8 ∧ yX8_judgeOf.cls ≠ "java/lang/invoke/MethodHandle" ∧ yX8_judgeOf.cls ≠ "java/lang/invoke/VarHandle" ∧ (parseMethodDescriptor yX8_judgeOf.desc).map (fun d => d.parameters.length) = some 2 := by decide +kernel
theorem cd_X8_wrongJudge : yX8_wrongJudge.cls = RX8 ∧ yX8_wrongJudge.cls ≠ "java/lang/invoke/MethodHandle" ∧ yX8_wrongJudge.cls ≠ "java/lang/invoke/VarHandle" ∧ (parseMethodDescriptor yX8_wrongJudge.desc).map (fun d => d.parameters.length) = some 2 := by decide +kernel
theorem cd_X8_judge : yX8_judge.cls = RX8 ∧ yX8_judge.cls ≠ "java/lang/invoke/MethodHandle" ∧ yX8_judge.cls ≠ "java/lang/invoke/VarHandle" ∧ (parseMethodDescriptor yX8_judge.desc).map (fun d => d.parameters.length) = some 2 := by decide +kernel
def f_X8_judgeOf_L25 (N : Nat) (M_s : Nat → Int32) (M_size : Nat → Int32) (M_element : Nat → Int32) (x1 : Int32) (x2 : Int32) : Nat → Int32 → Int32 → (Nat → Int32) → Option (Int32 × (Nat → Int32))
  | 0, _, _, _ => none
  | n + 1, v3, v4, M_used =>
    ck (gi x2 8) (if (M_size x2.toNatClampNeg) ≤ v4 then ((f_X8_lengthOf N M_s x1).bind fun r_3 => if r_3 ≤ v3 then (some ((-4), M_used)) else (ck (gi x2 8) (some ((M_size x2.toNatClampNeg), M_used)))) else (ck (gi ((100 * x2) + v4) 800) ((f_X8_lengthOf N M_s x1).bind fun r_5 => if r_5 ≤ v3 then (some (v4, M_used)) else ((f_X8_isWidth N M_s (M_element ((100 * x2) + v4).toNatClampNeg)).bind fun r_7 => if (b2i r_7) = 0 then (some (v4, M_used)) else (ck (gi (M_element ((100 * x2) + v4).toNatClampNeg) 4) ((f_X8_many N M_s (M_element ((100 * x2) + v4).toNatClampNeg)).bind fun r_9 => if (M_used (M_element ((100 * x2) + v4).toNatClampNeg).toNatClampNeg) = r_9 then (some (v4, M_used)) else (ck (gi (M_element ((100 * x2) + v4).toNatClampNeg) 4) (ck (gi (M_element ((100 * x2) + v4).toNatClampNeg) 4) ((f_X8_inches N M_s (M_element ((100 * x2) + v4).toNatClampNeg)).bind fun r_11 => (f_X8_lengthOf N M_s x1).bind fun r_12 => if r_12 ≤ (v3 + r_11) then (f_X8_judgeOf_L25 N M_s M_size M_element x1 x2 n (v3 + r_11) (v4 + 1) (upd M_used (M_element ((100 * x2) + v4).toNatClampNeg).toNatClampNeg ((M_used (M_element ((100 * x2) + v4).toNatClampNeg).toNatClampNeg) + 1))) else ((f_X8_mayBe N M_s x1 (v3 + r_11)).bind fun r_14 => if (b2i r_14) = 0 then (some (v4, (upd M_used (M_element ((100 * x2) + v4).toNatClampNeg).toNatClampNeg ((M_used (M_element ((100 * x2) + v4).toNatClampNeg).toNatClampNeg) + 1)))) else (f_X8_judgeOf_L25 N M_s M_size M_element x1 x2 n (v3 + r_11) (v4 + 1) (upd M_used (M_element ((100 * x2) + v4).toNatClampNeg).toNatClampNeg ((M_used (M_element ((100 * x2) + v4).toNatClampNeg).toNatClampNeg) + 1)))))))))))))
def f_X8_judgeOf_L2 (N : Nat) (M_s : Nat → Int32) (M_size : Nat → Int32) (M_element : Nat → Int32) (x1 : Int32) (x2 : Int32) : Nat → Int32 → (Nat → Int32) → Option (Int32 × (Nat → Int32))
  | 0, _, _ => none
  | n + 1, v3, M_used =>
    if 4 ≤ v3 then (f_X8_judgeOf_L25 N M_s M_size M_element x1 x2 N 0 0 M_used) else (ck (gi v3 4) (f_X8_judgeOf_L2 N M_s M_size M_element x1 x2 n (v3 + 1) (upd M_used v3.toNatClampNeg 0)))
def f_X8_judgeOf (N : Nat) (M_s : Nat → Int32) (M_size : Nat → Int32) (M_element : Nat → Int32) (M_used : Nat → Int32) (x1 : Int32) (x2 : Int32) : Option (Int32 × (Nat → Int32)) :=
  f_X8_judgeOf_L2 N M_s M_size M_element x1 x2 N 0 M_used
set_option maxHeartbeats 4000000 in
set_option maxRecDepth 100000 in
theorem k_X8_judgeOf (l : Launch) (dC : Nat → ClassId) (dI : Nat → Nat → Nat) (cI cZ cS : ClassId) (N : Nat) (aM aM_s aM_size aM_element aM_used : Nat) (fs_M : List Value) (sz : Nat) (M_s : Nat → Int32) (M_size : Nat → Int32) (M_element : Nat → Int32) (M_used : Nat → Int32) (x1 : Int32) (x2 : Int32) (hf_M_s : fs_M[0]? = some (.ref aM_s)) (hf_M_size : fs_M[6]? = some (.ref aM_size)) (hf_M_element : fs_M[7]? = some (.ref aM_element)) (hf_M_used : fs_M[18]? = some (.ref aM_used)) (res : Int32 × (Nat → Int32)) (h : f_X8_judgeOf N M_s M_size M_element M_used x1 x2 = some res) : Met l yX8_judgeOf wsX8_judgeOf ({ frames := 3, cells := 0, slots := 0, locals := 70 }) (va_Pc [.ref aM, .int x1, .int x2] (preW (dC, dI) cI cZ cS [(aM, .inr (7, fs_M)), (aM_s, .inl (cI, 99, .inl M_s)), (aM_size, .inl (cI, 8, .inl M_size)), (aM_element, .inl (cI, 800, .inl M_element)), (aM_used, .inl (cI, 4, .inl M_used))] sz)) (va_Qi (fun (r : Int32) (_ : Unit) => r = res.1) (fun _ => qW (dC, dI) cI cZ cS (va_A [(aM, .inr (7, fs_M)), (aM_s, .inl (cI, 99, .inl M_s)), (aM_size, .inl (cI, 8, .inl M_size)), (aM_element, .inl (cI, 800, .inl M_element)), (aM_used, .inl (cI, 4, .inl M_used))] sz) [(aM, .inr (7, fs_M)), (aM_s, .inl (cI, 99, .inl M_s)), (aM_size, .inl (cI, 8, .inl M_size)), (aM_element, .inl (cI, 800, .inl M_element)), (aM_used, .inl (cI, 4, .inl res.2))]) (va_A [(aM, .inr (7, fs_M)), (aM_s, .inl (cI, 99, .inl M_s)), (aM_size, .inl (cI, 8, .inl M_size)), (aM_element, .inl (cI, 800, .inl M_element)), (aM_used, .inl (cI, 4, .inl M_used))] sz)) 0 0 (va_A [(aM, .inr (7, fs_M)), (aM_s, .inl (cI, 99, .inl M_s)), (aM_size, .inl (cI, 8, .inl M_size)), (aM_element, .inl (cI, 800, .inl M_element)), (aM_used, .inl (cI, 4, .inl M_used))] sz) := by
  refine Met.ofW (cc := cX8_judgeOf) (maxL := 6) (ret := (some .int)) (by decide) rfl ?_
  intro p e s m args below meth c s₁ B hml hv
  obtain ⟨rfl, hsz, hP, hK, hD0⟩ := hv
  have hx := B.exec
  have hb := B.bytes
  have hr := B.returns
  have hts := atoms_spec (ws := wsX8_judgeOf) B.pre
  have hown : s.vm.findClass RX8 = some m.cls := findClass_of_methodNamed B.named
  have hlocks := B.notSynchronized
  subst hsz
  have hD := hD0.self (sz := s.heap.size)
  generalize hAe : va_A [(aM, .inr (7, fs_M)), (aM_s, .inl (cI, 99, .inl M_s)), (aM_size, .inl (cI, 8, .inl M_size)), (aM_element, .inl (cI, 800, .inl M_element)), (aM_used, .inl (cI, 4, .inl M_used))] s.heap.size = A at hD ⊢
  have hA : ∀ q : Nat, s.heap.size ≤ q → A q := fun q h => by rw [← hAe]; exact Or.inr h
  have hS : va_S A s.heap s.heap [] := va_S.rf
  have hl := lv_entry ([.ref aM, .int x1, .int x2]) (n := 6) (Nat.le_of_ble_eq_true rfl)
  rw [lg_entry_eq]
  generalize (lg_sl ([.ref aM, .int x1, .int x2]) ++ List.replicate (6 - (lg_sl ([.ref aM, .int x1, .int x2])).length) Slot.unset).toArray = ls at hl ⊢
  have hl : lv_has ls 6 [(0, .ref aM), (1, .int x1), (2, .int x2)] := hl
  unfold f_X8_judgeOf at h
  refine lv_iconst (v := 0) hx hb dX8_judgeOf_0 (by decide) ?_
  refine lv_istore_n (lv' := [(3, .int 0), (0, .ref aM), (1, .int x1), (2, .int x2)]) hx hb dX8_judgeOf_1 rfl hl (by decide) rfl (fun ls hl => ?_)
  have L2_33 : ∀ (n_34 : Nat) (v3_35 : Int32) (M_used_36 : Nat → Int32) (ls : Array Slot) (H : Heap) (locs : List Loc), f_X8_judgeOf_L2 N M_s M_size M_element x1 x2 n_34 v3_35 M_used_36 = some res → lv_has ls 6 [(0, .ref aM), (1, .int x1), (2, .int x2), (3, .int v3_35)] → va_P (dC, dI) vwCl [(aM, .inr (7, fs_M)), (aM_s, .inl (cI, 99, .inl M_s)), (aM_size, .inl (cI, 8, .inl M_size)), (aM_element, .inl (cI, 800, .inl M_element)), (aM_used, .inl (cI, 4, .inl M_used_36))] H → va_D A [(aM, .inr (7, fs_M)), (aM_s, .inl (cI, 99, .inl M_s)), (aM_size, .inl (cI, 8, .inl M_size)), (aM_element, .inl (cI, 800, .inl M_element)), (aM_used, .inl (cI, 4, .inl M_used_36))] → va_S A s.heap H locs → W p l e (headSpec wsX8_judgeOf ({ frames := 3, cells := 0, slots := 0, locals := 70 })).room s m ([.ref aM, .int x1, .int x2] : List Value).toArray below meth c H locs 0 0 (MQ below (va_Qi (fun (r : Int32) (_ : Unit) => r = res.1) (fun _ => qW (dC, dI) cI cZ cS A [(aM, .inr (7, fs_M)), (aM_s, .inl (cI, 99, .inl M_s)), (aM_size, .inl (cI, 8, .inl M_size)), (aM_element, .inl (cI, 800, .inl M_element)), (aM_used, .inl (cI, 4, .inl res.2))]) A) ([.ref aM, .int x1, .int x2] : List Value).toArray s 0 0 A) (F0 m 2 ls []) := by
    intro n_34
    induction n_34 with
    | zero =>
      intro v3_35 M_used_36 ls H locs h
      simp only [f_X8_judgeOf_L2] at h
      try exact absurd h (by simp)
    | succ n_34 ihn_34 =>
      intro v3_35 M_used_36 ls H locs h hl hP hD hS
      rw [f_X8_judgeOf_L2] at h
      refine lv_iload_n hx hb dX8_judgeOf_2 rfl (lv_at hl 3 rfl) ?_
      refine lv_iconst (v := 4) hx hb dX8_judgeOf_3 (by decide) ?_
      refine lv_icmp_ge (tgt := 20) hx hb dX8_judgeOf_4 (by decide) (fun c_37 => ?_) (fun c_37 => ?_)
      · have h := it_p c_37 h
        refine lv_iconst (v := 0) hx hb dX8_judgeOf_20 (by decide) ?_
        refine lv_istore_n (lv' := [(3, .int 0), (0, .ref aM), (1, .int x1), (2, .int x2)]) hx hb dX8_judgeOf_21 rfl hl (by decide) rfl (fun ls hl => ?_)
        refine lv_iconst (v := 0) hx hb dX8_judgeOf_22 (by decide) ?_
        refine lv_istore (lv' := [(4, .int 0), (3, .int 0), (0, .ref aM), (1, .int x1), (2, .int x2)]) hx hb dX8_judgeOf_23 hl (by decide) rfl (fun ls hl => ?_)
        have L25_37 : ∀ (n_38 : Nat) (v3_39 : Int32) (v4_40 : Int32) (M_used_41 : Nat → Int32) (ls : Array Slot) (H : Heap) (locs : List Loc), f_X8_judgeOf_L25 N M_s M_size M_element x1 x2 n_38 v3_39 v4_40 M_used_41 = some res → lv_has ls 6 [(0, .ref aM), (1, .int x1), (2, .int x2), (3, .int v3_39), (4, .int v4_40)] → va_P (dC, dI) vwCl [(aM, .inr (7, fs_M)), (aM_s, .inl (cI, 99, .inl M_s)), (aM_size, .inl (cI, 8, .inl M_size)), (aM_element, .inl (cI, 800, .inl M_element)), (aM_used, .inl (cI, 4, .inl M_used_41))] H → va_D A [(aM, .inr (7, fs_M)), (aM_s, .inl (cI, 99, .inl M_s)), (aM_size, .inl (cI, 8, .inl M_size)), (aM_element, .inl (cI, 800, .inl M_element)), (aM_used, .inl (cI, 4, .inl M_used_41))] → va_S A s.heap H locs → W p l e (headSpec wsX8_judgeOf ({ frames := 3, cells := 0, slots := 0, locals := 70 })).room s m ([.ref aM, .int x1, .int x2] : List Value).toArray below meth c H locs 0 0 (MQ below (va_Qi (fun (r : Int32) (_ : Unit) => r = res.1) (fun _ => qW (dC, dI) cI cZ cS A [(aM, .inr (7, fs_M)), (aM_s, .inl (cI, 99, .inl M_s)), (aM_size, .inl (cI, 8, .inl M_size)), (aM_element, .inl (cI, 800, .inl M_element)), (aM_used, .inl (cI, 4, .inl res.2))]) A) ([.ref aM, .int x1, .int x2] : List Value).toArray s 0 0 A) (F0 m 25 ls []) := by
          intro n_38
          induction n_38 with
          | zero =>
            intro v3_39 v4_40 M_used_41 ls H locs h
            simp only [f_X8_judgeOf_L25] at h
            try exact absurd h (by simp)
          | succ n_38 ihn_38 =>
            intro v3_39 v4_40 M_used_41 ls H locs h hl hP hD hS
            rw [f_X8_judgeOf_L25] at h
            refine lv_iload hx hb dX8_judgeOf_25 (lv_at hl 4 rfl) ?_
            refine lv_aload_n hx hb dX8_judgeOf_27 rfl (lv_at hl 0 rfl) ?_
            refine va_get (D := (dC, dI)) (ci := 7) (v := .ref aM_size) (C := RX8) (T := TX8) (N := 37) hx hb hts (fun _ h => List.mem_cons_of_mem _ (List.mem_append_right _ h)) hown hK hP 0 rfl rfl 6 (by decide) (hts (.fieldLink RX8 28 "SlateRowsModel" "size" "[I") (by decide +kernel)) (fun _ h9 => h9) hf_M_size dX8_judgeOf_28 ?_
            refine lv_iload_n hx hb dX8_judgeOf_31 rfl (lv_at hl 2 rfl) ?_
            obtain ⟨hi, h⟩ := ck_some h
            refine va_iald hx hb hK hP 2 0 rfl rfl (gi_in hi) dX8_judgeOf_32 ?_
            refine lv_icmp_ge (tgt := 134) hx hb dX8_judgeOf_33 (by decide) (fun c_42 => ?_) (fun c_42 => ?_)
            · have h := it_p c_42 h
              refine lv_iload_n hx hb dX8_judgeOf_134 rfl (lv_at hl 3 rfl) ?_
              refine lv_aload_n hx hb dX8_judgeOf_135 rfl (lv_at hl 0 rfl) ?_
              refine lv_iload_n hx hb dX8_judgeOf_136 rfl (lv_at hl 1 rfl) ?_
              obtain ⟨r_43, hg, h⟩ := bd_some h
              refine rdV (As := [.int x1]) (rest := [.int v3_39]) (ci := 7) ⟨hx, hb, hml, hown, hts⟩ (k_X8_lengthOf l dC dI cI cZ cS N aM aM_s fs_M M_s x1 hf_M_s r_43 hg) (cwV 1 hts gX8_judgeOf_X8_lengthOf rfl rfl rfl cd_X8_lengthOf ⟨Nat.le_of_ble_eq_true rfl, Nat.le_of_ble_eq_true rfl⟩) hP hD hK [0, 1] (by decide) rfl rfl rfl rfl hl.1 rfl (Nat.le_of_ble_eq_true rfl) dX8_judgeOf_137 ⟨Nat.zero_le _, Nat.zero_le _⟩ ?_
              refine lv_icmp_ge (tgt := 152) hx hb dX8_judgeOf_140 (by decide) (fun c_44 => ?_) (fun c_44 => ?_)
              · have h := it_p c_44 h
                refine lv_bipush (v := (-4)) hx hb dX8_judgeOf_152 (by decide) ?_
                have h := Option.some.inj h
                exact W.iret hx hb hr (fun t ht hW => ⟨⟨_, (), rfl, by rw [← h], by (try rw [← h]); rw [ht]; exact hP, va_K.moved hW.alike hK, by (try rw [← h]); exact hD⟩, hS.F ht⟩) hS.2.2 dX8_judgeOf_154
              · have h := it_n c_44 h
                refine lv_aload_n hx hb dX8_judgeOf_143 rfl (lv_at hl 0 rfl) ?_
                refine va_get (D := (dC, dI)) (ci := 7) (v := .ref aM_size) (C := RX8) (T := TX8) (N := 37) hx hb hts (fun _ h => List.mem_cons_of_mem _ (List.mem_append_right _ h)) hown hK hP 0 rfl rfl 6 (by decide) (hts (.fieldLink RX8 28 "SlateRowsModel" "size" "[I") (by decide +kernel)) (fun _ h9 => h9) hf_M_size dX8_judgeOf_144 ?_
                refine lv_iload_n hx hb dX8_judgeOf_147 rfl (lv_at hl 2 rfl) ?_
                obtain ⟨hi, h⟩ := ck_some h
                refine va_iald hx hb hK hP 2 0 rfl rfl (gi_in hi) dX8_judgeOf_148 ?_
                refine lv_goto (tgt := 154) hx hb dX8_judgeOf_149 (by decide) ?_
                have h := Option.some.inj h
                exact W.iret hx hb hr (fun t ht hW => ⟨⟨_, (), rfl, by rw [← h], by (try rw [← h]); rw [ht]; exact hP, va_K.moved hW.alike hK, by (try rw [← h]); exact hD⟩, hS.F ht⟩) hS.2.2 dX8_judgeOf_154
            · have h := it_n c_42 h
              refine lv_aload_n hx hb dX8_judgeOf_36 rfl (lv_at hl 0 rfl) ?_
              refine va_get (D := (dC, dI)) (ci := 7) (v := .ref aM_element) (C := RX8) (T := TX8) (N := 37) hx hb hts (fun _ h => List.mem_cons_of_mem _ (List.mem_append_right _ h)) hown hK hP 0 rfl rfl 7 (by decide) (hts (.fieldLink RX8 31 "SlateRowsModel" "element" "[I") (by decide +kernel)) (fun _ h9 => h9) hf_M_element dX8_judgeOf_37 ?_
              refine lv_bipush (v := 100) hx hb dX8_judgeOf_40 (by decide) ?_
              refine lv_iload_n hx hb dX8_judgeOf_42 rfl (lv_at hl 2 rfl) ?_
              refine lv_imul hx hb dX8_judgeOf_43 ?_
              refine lv_iload hx hb dX8_judgeOf_44 (lv_at hl 4 rfl) ?_
              refine lv_iadd hx hb dX8_judgeOf_46 ?_
              obtain ⟨hi, h⟩ := ck_some h
              refine va_iald hx hb hK hP 3 0 rfl rfl (gi_in hi) dX8_judgeOf_47 ?_
              refine lv_istore (lv' := [(5, .int (M_element ((100 * x2) + v4_40).toNatClampNeg)), (0, .ref aM), (1, .int x1), (2, .int x2), (3, .int v3_39), (4, .int v4_40)]) hx hb dX8_judgeOf_48 hl (by decide) rfl (fun ls hl => ?_)
              refine lv_iload_n hx hb dX8_judgeOf_50 rfl (lv_at hl 4 rfl) ?_
              refine lv_aload_n hx hb dX8_judgeOf_51 rfl (lv_at hl 1 rfl) ?_
              refine lv_iload_n hx hb dX8_judgeOf_52 rfl (lv_at hl 2 rfl) ?_
              obtain ⟨r_45, hg, h⟩ := bd_some h
              refine rdV (As := [.int x1]) (rest := [.int v3_39]) (ci := 7) ⟨hx, hb, hml, hown, hts⟩ (k_X8_lengthOf l dC dI cI cZ cS N aM aM_s fs_M M_s x1 hf_M_s r_45 hg) (cwV 1 hts gX8_judgeOf_X8_lengthOf rfl rfl rfl cd_X8_lengthOf ⟨Nat.le_of_ble_eq_true rfl, Nat.le_of_ble_eq_true rfl⟩) hP hD hK [0, 1] (by decide) rfl rfl rfl rfl hl.1 rfl (Nat.le_of_ble_eq_true rfl) dX8_judgeOf_53 ⟨Nat.zero_le _, Nat.zero_le _⟩ ?_
              refine lv_icmp_ge (tgt := 84) hx hb dX8_judgeOf_56 (by decide) (fun c_46 => ?_) (fun c_46 => ?_)
              · have h := it_p c_46 h
                refine lv_iload hx hb dX8_judgeOf_84 (lv_at hl 5 rfl) ?_
                have h := Option.some.inj h
                exact W.iret hx hb hr (fun t ht hW => ⟨⟨_, (), rfl, by rw [← h], by (try rw [← h]); rw [ht]; exact hP, va_K.moved hW.alike hK, by (try rw [← h]); exact hD⟩, hS.F ht⟩) hS.2.2 dX8_judgeOf_86
              · have h := it_n c_46 h
                refine lv_aload_n hx hb dX8_judgeOf_59 rfl (lv_at hl 1 rfl) ?_
                refine lv_iload hx hb dX8_judgeOf_60 (lv_at hl 0 rfl) ?_
                obtain ⟨r_47, hg, h⟩ := bd_some h
                refine rdV (As := [.int (M_element ((100 * x2) + v4_40).toNatClampNeg)]) (rest := []) (ci := 7) ⟨hx, hb, hml, hown, hts⟩ (k_X8_isWidth l dC dI cI cZ cS N aM aM_s fs_M M_s (M_element ((100 * x2) + v4_40).toNatClampNeg) hf_M_s r_47 hg) (cwV 1 hts gX8_judgeOf_X8_isWidth rfl rfl rfl cd_X8_isWidth ⟨Nat.le_of_ble_eq_true rfl, Nat.le_of_ble_eq_true rfl⟩) hP hD hK [0, 1] (by decide) rfl rfl rfl rfl hl.1 rfl (Nat.le_of_ble_eq_true rfl) dX8_judgeOf_62 ⟨Nat.zero_le _, Nat.zero_le _⟩ ?_
                refine lv_if_eq (tgt := 84) hx hb dX8_judgeOf_65 (by decide) (fun c_48 => ?_) (fun c_48 => ?_)
                · have h := it_p c_48 h
                  refine lv_iload hx hb dX8_judgeOf_84 (lv_at hl 5 rfl) ?_
                  have h := Option.some.inj h
                  exact W.iret hx hb hr (fun t ht hW => ⟨⟨_, (), rfl, by rw [← h], by (try rw [← h]); rw [ht]; exact hP, va_K.moved hW.alike hK, by (try rw [← h]); exact hD⟩, hS.F ht⟩) hS.2.2 dX8_judgeOf_86
                · have h := it_n c_48 h
                  refine lv_aload_n hx hb dX8_judgeOf_68 rfl (lv_at hl 1 rfl) ?_
                  refine va_get (D := (dC, dI)) (ci := 7) (v := .ref aM_used) (C := RX8) (T := TX8) (N := 37) hx hb hts (fun _ h => List.mem_cons_of_mem _ (List.mem_append_right _ h)) hown hK hP 0 rfl rfl 18 (by decide) (hts (.fieldLink RX8 43 "SlateRowsModel" "used" "[I") (by decide +kernel)) (fun _ h9 => h9) hf_M_used dX8_judgeOf_69 ?_
                  refine lv_iload hx hb dX8_judgeOf_72 (lv_at hl 0 rfl) ?_
                  obtain ⟨hi, h⟩ := ck_some h
                  refine va_iald hx hb hK hP 4 0 rfl rfl (gi_in hi) dX8_judgeOf_74 ?_
                  refine lv_aload_n hx hb dX8_judgeOf_75 rfl (lv_at hl 1 rfl) ?_
                  refine lv_iload hx hb dX8_judgeOf_76 (lv_at hl 0 rfl) ?_
                  obtain ⟨r_49, hg, h⟩ := bd_some h
                  refine rdV (As := [.int (M_element ((100 * x2) + v4_40).toNatClampNeg)]) (rest := [.int (M_used_41 (M_element ((100 * x2) + v4_40).toNatClampNeg).toNatClampNeg)]) (ci := 7) ⟨hx, hb, hml, hown, hts⟩ (k_X8_many l dC dI cI cZ cS N aM aM_s fs_M M_s (M_element ((100 * x2) + v4_40).toNatClampNeg) hf_M_s r_49 hg) (cwV 1 hts gX8_judgeOf_X8_many rfl rfl rfl cd_X8_many ⟨Nat.le_of_ble_eq_true rfl, Nat.le_of_ble_eq_true rfl⟩) hP hD hK [0, 1] (by decide) rfl rfl rfl rfl hl.1 rfl (Nat.le_of_ble_eq_true rfl) dX8_judgeOf_78 ⟨Nat.zero_le _, Nat.zero_le _⟩ ?_
                  refine lv_icmp_ne (tgt := 87) hx hb dX8_judgeOf_81 (by decide) (fun c_50 => ?_) (fun c_50 => ?_)
                  · have h := it_n c_50 h
                    refine lv_aload_n hx hb dX8_judgeOf_87 rfl (lv_at hl 1 rfl) ?_
                    refine va_get (D := (dC, dI)) (ci := 7) (v := .ref aM_used) (C := RX8) (T := TX8) (N := 37) hx hb hts (fun _ h => List.mem_cons_of_mem _ (List.mem_append_right _ h)) hown hK hP 0 rfl rfl 18 (by decide) (hts (.fieldLink RX8 43 "SlateRowsModel" "used" "[I") (by decide +kernel)) (fun _ h9 => h9) hf_M_used dX8_judgeOf_88 ?_
                    refine lv_iload hx hb dX8_judgeOf_91 (lv_at hl 0 rfl) ?_
                    refine lv_dup2_11 hx hb dX8_judgeOf_93 rfl rfl ?_
                    obtain ⟨hi, h⟩ := ck_some h
                    refine va_iald hx hb hK hP 4 0 rfl rfl (gi_in hi) dX8_judgeOf_94 ?_
                    refine lv_iconst (v := 1) hx hb dX8_judgeOf_95 (by decide) ?_
                    refine lv_iadd hx hb dX8_judgeOf_96 ?_
                    obtain ⟨hi, h⟩ := ck_some h
                    refine va_iast hx hb hK hP hD hS 4 0 rfl rfl (gi_in hi) dX8_judgeOf_97 (fun H locs hP hD hS => ?_)
                    have hP : va_P (dC, dI) vwCl [(aM, .inr (7, fs_M)), (aM_s, .inl (cI, 99, .inl M_s)), (aM_size, .inl (cI, 8, .inl M_size)), (aM_element, .inl (cI, 800, .inl M_element)), (aM_used, .inl (cI, 4, .inl (upd M_used_41 (M_element ((100 * x2) + v4_40).toNatClampNeg).toNatClampNeg ((M_used_41 (M_element ((100 * x2) + v4_40).toNatClampNeg).toNatClampNeg) + 1))))] H := hP
                    have hD : va_D A [(aM, .inr (7, fs_M)), (aM_s, .inl (cI, 99, .inl M_s)), (aM_size, .inl (cI, 8, .inl M_size)), (aM_element, .inl (cI, 800, .inl M_element)), (aM_used, .inl (cI, 4, .inl (upd M_used_41 (M_element ((100 * x2) + v4_40).toNatClampNeg).toNatClampNeg ((M_used_41 (M_element ((100 * x2) + v4_40).toNatClampNeg).toNatClampNeg) + 1))))] := hD
                    refine lv_iload_n hx hb dX8_judgeOf_98 rfl (lv_at hl 4 rfl) ?_
                    refine lv_aload_n hx hb dX8_judgeOf_99 rfl (lv_at hl 1 rfl) ?_
                    refine lv_iload hx hb dX8_judgeOf_100 (lv_at hl 0 rfl) ?_
                    obtain ⟨r_51, hg, h⟩ := bd_some h
                    refine rdV (As := [.int (M_element ((100 * x2) + v4_40).toNatClampNeg)]) (rest := [.int v3_39]) (ci := 7) ⟨hx, hb, hml, hown, hts⟩ (k_X8_inches l dC dI cI cZ cS N aM aM_s fs_M M_s (M_element ((100 * x2) + v4_40).toNatClampNeg) hf_M_s r_51 hg) (cwV 1 hts gX8_judgeOf_X8_inches rfl rfl rfl cd_X8_inches ⟨Nat.le_of_ble_eq_true rfl, Nat.le_of_ble_eq_true rfl⟩) hP hD hK [0, 1] (by decide) rfl rfl rfl rfl hl.1 rfl (Nat.le_of_ble_eq_true rfl) dX8_judgeOf_102 ⟨Nat.zero_le _, Nat.zero_le _⟩ ?_
                    refine lv_iadd hx hb dX8_judgeOf_105 ?_
                    refine lv_istore_n (lv' := [(3, .int (v3_39 + r_51)), (5, .int (M_element ((100 * x2) + v4_40).toNatClampNeg)), (0, .ref aM), (1, .int x1), (2, .int x2), (4, .int v4_40)]) hx hb dX8_judgeOf_106 rfl hl (by decide) rfl (fun ls hl => ?_)
                    refine lv_iload_n hx hb dX8_judgeOf_107 rfl (lv_at hl 0 rfl) ?_
                    refine lv_aload_n hx hb dX8_judgeOf_108 rfl (lv_at hl 2 rfl) ?_
                    refine lv_iload_n hx hb dX8_judgeOf_109 rfl (lv_at hl 3 rfl) ?_
                    obtain ⟨r_52, hg, h⟩ := bd_some h
                    refine rdV (As := [.int x1]) (rest := [.int (v3_39 + r_51)]) (ci := 7) ⟨hx, hb, hml, hown, hts⟩ (k_X8_lengthOf l dC dI cI cZ cS N aM aM_s fs_M M_s x1 hf_M_s r_52 hg) (cwV 1 hts gX8_judgeOf_X8_lengthOf rfl rfl rfl cd_X8_lengthOf ⟨Nat.le_of_ble_eq_true rfl, Nat.le_of_ble_eq_true rfl⟩) hP hD hK [0, 1] (by decide) rfl rfl rfl rfl hl.1 rfl (Nat.le_of_ble_eq_true rfl) dX8_judgeOf_110 ⟨Nat.zero_le _, Nat.zero_le _⟩ ?_
                    refine lv_icmp_ge (tgt := 128) hx hb dX8_judgeOf_113 (by decide) (fun c_53 => ?_) (fun c_53 => ?_)
                    · have h := it_p c_53 h
                      refine lv_iinc (v := (v4_40 + 1)) (lv' := [(4, .int (v4_40 + 1)), (3, .int (v3_39 + r_51)), (5, .int (M_element ((100 * x2) + v4_40).toNatClampNeg)), (0, .ref aM), (1, .int x1), (2, .int x2)]) hx hb dX8_judgeOf_128 hl (k := 5) rfl rfl (by decide) rfl (fun ls hl => ?_)
                      refine lv_goto (tgt := 25) hx hb dX8_judgeOf_131 (by decide) ?_
                      exact ihn_38 (v3_39 + r_51) (v4_40 + 1) (upd M_used_41 (M_element ((100 * x2) + v4_40).toNatClampNeg).toNatClampNeg ((M_used_41 (M_element ((100 * x2) + v4_40).toNatClampNeg).toNatClampNeg) + 1)) ls _ _ h (lv_sub hl [3, 4, 5, 1, 0] rfl) hP hD hS
                    · have h := it_n c_53 h
                      refine lv_aload_n hx hb dX8_judgeOf_116 rfl (lv_at hl 2 rfl) ?_
                      refine lv_iload_n hx hb dX8_judgeOf_117 rfl (lv_at hl 3 rfl) ?_
                      refine lv_iload_n hx hb dX8_judgeOf_118 rfl (lv_at hl 0 rfl) ?_
                      obtain ⟨r_54, hg, h⟩ := bd_some h
                      refine rdV (As := [.int x1, .int (v3_39 + r_51)]) (rest := []) (ci := 7) ⟨hx, hb, hml, hown, hts⟩ (k_X8_mayBe l dC dI cI cZ cS N aM aM_s fs_M M_s x1 (v3_39 + r_51) hf_M_s r_54 hg) (cwV 2 hts gX8_judgeOf_X8_mayBe rfl rfl rfl cd_X8_mayBe ⟨Nat.le_of_ble_eq_true rfl, Nat.le_of_ble_eq_true rfl⟩) hP hD hK [0, 1] (by decide) rfl rfl rfl rfl hl.1 rfl (Nat.le_of_ble_eq_true rfl) dX8_judgeOf_119 ⟨Nat.zero_le _, Nat.zero_le _⟩ ?_
                      refine lv_if_ne (tgt := 128) hx hb dX8_judgeOf_122 (by decide) (fun c_55 => ?_) (fun c_55 => ?_)
                      · have h := it_n c_55 h
                        refine lv_iinc (v := (v4_40 + 1)) (lv' := [(4, .int (v4_40 + 1)), (3, .int (v3_39 + r_51)), (5, .int (M_element ((100 * x2) + v4_40).toNatClampNeg)), (0, .ref aM), (1, .int x1), (2, .int x2)]) hx hb dX8_judgeOf_128 hl (k := 5) rfl rfl (by decide) rfl (fun ls hl => ?_)
                        refine lv_goto (tgt := 25) hx hb dX8_judgeOf_131 (by decide) ?_
                        exact ihn_38 (v3_39 + r_51) (v4_40 + 1) (upd M_used_41 (M_element ((100 * x2) + v4_40).toNatClampNeg).toNatClampNeg ((M_used_41 (M_element ((100 * x2) + v4_40).toNatClampNeg).toNatClampNeg) + 1)) ls _ _ h (lv_sub hl [3, 4, 5, 1, 0] rfl) hP hD hS
                      · have h := it_p c_55 h
                        refine lv_iload hx hb dX8_judgeOf_125 (lv_at hl 5 rfl) ?_
                        have h := Option.some.inj h
                        exact W.iret hx hb hr (fun t ht hW => ⟨⟨_, (), rfl, by rw [← h], by (try rw [← h]); rw [ht]; exact hP, va_K.moved hW.alike hK, by (try rw [← h]); exact hD⟩, hS.F ht⟩) hS.2.2 dX8_judgeOf_127
                  · have h := it_p c_50 h
                    refine lv_iload hx hb dX8_judgeOf_84 (lv_at hl 5 rfl) ?_
                    have h := Option.some.inj h
                    exact W.iret hx hb hr (fun t ht hW => ⟨⟨_, (), rfl, by rw [← h], by (try rw [← h]); rw [ht]; exact hP, va_K.moved hW.alike hK, by (try rw [← h]); exact hD⟩, hS.F ht⟩) hS.2.2 dX8_judgeOf_86
        exact L25_37 N 0 0 M_used_36 ls _ _ h (lv_sub hl [2, 3, 4, 1, 0] rfl) hP hD hS
      · have h := it_n c_37 h
        refine lv_aload_n hx hb dX8_judgeOf_7 rfl (lv_at hl 0 rfl) ?_
        refine va_get (D := (dC, dI)) (ci := 7) (v := .ref aM_used) (C := RX8) (T := TX8) (N := 37) hx hb hts (fun _ h => List.mem_cons_of_mem _ (List.mem_append_right _ h)) hown hK hP 0 rfl rfl 18 (by decide) (hts (.fieldLink RX8 43 "SlateRowsModel" "used" "[I") (by decide +kernel)) (fun _ h9 => h9) hf_M_used dX8_judgeOf_8 ?_
        refine lv_iload_n hx hb dX8_judgeOf_11 rfl (lv_at hl 3 rfl) ?_
        refine lv_iconst (v := 0) hx hb dX8_judgeOf_12 (by decide) ?_
        obtain ⟨hi, h⟩ := ck_some h
        refine va_iast hx hb hK hP hD hS 4 0 rfl rfl (gi_in hi) dX8_judgeOf_13 (fun H locs hP hD hS => ?_)
        have hP : va_P (dC, dI) vwCl [(aM, .inr (7, fs_M)), (aM_s, .inl (cI, 99, .inl M_s)), (aM_size, .inl (cI, 8, .inl M_size)), (aM_element, .inl (cI, 800, .inl M_element)), (aM_used, .inl (cI, 4, .inl (upd M_used_36 v3_35.toNatClampNeg 0)))] H := hP
        have hD : va_D A [(aM, .inr (7, fs_M)), (aM_s, .inl (cI, 99, .inl M_s)), (aM_size, .inl (cI, 8, .inl M_size)), (aM_element, .inl (cI, 800, .inl M_element)), (aM_used, .inl (cI, 4, .inl (upd M_used_36 v3_35.toNatClampNeg 0)))] := hD
        refine lv_iinc (v := (v3_35 + 1)) (lv' := [(3, .int (v3_35 + 1)), (0, .ref aM), (1, .int x1), (2, .int x2)]) hx hb dX8_judgeOf_14 hl (k := 3) rfl rfl (by decide) rfl (fun ls hl => ?_)
        refine lv_goto (tgt := 2) hx hb dX8_judgeOf_17 (by decide) ?_
        exact ihn_34 (v3_35 + 1) (upd M_used_36 v3_35.toNatClampNeg 0) ls _ _ h (lv_sub hl [1, 2, 3, 0] rfl) hP hD hS
  exact L2_33 N 0 M_used ls _ _ h (lv_sub hl [1, 2, 3, 0] rfl) hP hD hS
def f_X8_wrongJudge (N : Nat) (M_s : Nat → Int32) (x1 : Int32) (x2 : Int32) : Option (Int32) :=
  (f_X8_isRow N M_s x1).bind fun r_1 => if (b2i r_1) = 0 then (some ((-1))) else ((f_X8_isShelf N x2).bind fun r_3 => if (b2i r_3) = 0 then (some ((-1))) else ((f_X8_isLaid N M_s x1).bind fun r_5 => if (b2i r_5) = 0 then (some (0)) else (some ((-3)))))
set_option maxHeartbeats 4000000 in
set_option maxRecDepth 100000 in
theorem k_X8_wrongJudge (l : Launch) (dC : Nat → ClassId) (dI : Nat → Nat → Nat) (cI cZ cS : ClassId) (N : Nat) (aM aM_s : Nat) (fs_M : List Value) (M_s : Nat → Int32) (x1 : Int32) (x2 : Int32) (hf_M_s : fs_M[0]? = some (.ref aM_s)) (res : Int32) (h : f_X8_wrongJudge N M_s x1 x2 = some res) : Met l yX8_wrongJudge wsX8_wrongJudge ({ frames := 2, cells := 0, slots := 0, locals := 46 }) (va_Pc [.ref aM, .int x1, .int x2] (wd (dC, dI) cI cZ cS [(aM, .inr (7, fs_M)), (aM_s, .inl (cI, 99, .inl M_s))])) (vp_Si (fun r => r = res)) 0 0 (fun _ => False) := by
  refine Met.ofW (cc := cX8_wrongJudge) (maxL := 3) (ret := (some .int)) (by decide) rfl ?_
  intro p e s m args below meth c s₁ B hml hv
  obtain ⟨rfl, hP, hK, hD⟩ := hv
  have hx := B.exec
  have hb := B.bytes
  have hr := B.returns
  have hts := atoms_spec (ws := wsX8_wrongJudge) B.pre
  have hown : s.vm.findClass RX8 = some m.cls := findClass_of_methodNamed B.named
  have hlocks := B.notSynchronized
  have hl := lv_entry ([.ref aM, .int x1, .int x2]) (n := 3) (Nat.le_of_ble_eq_true rfl)
  rw [lg_entry_eq]
  generalize (lg_sl ([.ref aM, .int x1, .int x2]) ++ List.replicate (3 - (lg_sl ([.ref aM, .int x1, .int x2])).length) Slot.unset).toArray = ls at hl ⊢
  have hl : lv_has ls 3 [(0, .ref aM), (1, .int x1), (2, .int x2)] := hl
  unfold f_X8_wrongJudge at h
  refine lv_aload_n hx hb dX8_wrongJudge_0 rfl (lv_at hl 0 rfl) ?_
  refine lv_iload_n hx hb dX8_wrongJudge_1 rfl (lv_at hl 1 rfl) ?_
  obtain ⟨r_1, hg, h⟩ := bd_some h
  refine rdV (As := [.int x1]) (rest := []) (ci := 7) ⟨hx, hb, hml, hown, hts⟩ (k_X8_isRow l dC dI cI cZ cS N aM aM_s fs_M M_s x1 hf_M_s r_1 hg) (cwV 1 hts gX8_wrongJudge_X8_isRow rfl rfl rfl cd_X8_isRow ⟨Nat.le_of_ble_eq_true rfl, Nat.le_of_ble_eq_true rfl⟩) hP hD hK [0, 1] (by decide) rfl rfl rfl rfl hl.1 rfl (Nat.le_of_ble_eq_true rfl) dX8_wrongJudge_2 ⟨Nat.zero_le _, Nat.zero_le _⟩ ?_
  refine lv_if_eq (tgt := 15) hx hb dX8_wrongJudge_5 (by decide) (fun c_2 => ?_) (fun c_2 => ?_)
  · have h := it_p c_2 h
    refine lv_iconst (v := (-1)) hx hb dX8_wrongJudge_15 (by decide) ?_
    exact W.iret hx hb hr (fun t ht hW => ⟨_, rfl, Option.some.inj h, ht⟩) (fun q hq => by cases hq) dX8_wrongJudge_16
  · have h := it_n c_2 h
    refine lv_iload_n hx hb dX8_wrongJudge_8 rfl (lv_at hl 2 rfl) ?_
    obtain ⟨r_3, hg, h⟩ := bd_some h
    refine rdS (As := [.int x2]) (rest := []) ⟨hx, hb, hml, hown, hts⟩ (k_X8_isShelf l dC dI cI cZ cS N x2 r_3 hg) (va_cwS 1 hts gX8_wrongJudge_X8_isShelf rfl rfl rfl cd_X8_isShelf ⟨Nat.le_of_ble_eq_true rfl, Nat.le_of_ble_eq_true rfl⟩) hP hD hK [] (by decide) rfl rfl hl.1 rfl (Nat.le_of_ble_eq_true rfl) dX8_wrongJudge_9 ⟨Nat.zero_le _, Nat.zero_le _⟩ ?_
    refine lv_if_ne (tgt := 17) hx hb dX8_wrongJudge_12 (by decide) (fun c_4 => ?_) (fun c_4 => ?_)
    · have h := it_n c_4 h
      refine lv_aload_n hx hb dX8_wrongJudge_17 rfl (lv_at hl 0 rfl) ?_
      refine lv_iload_n hx hb dX8_wrongJudge_18 rfl (lv_at hl 1 rfl) ?_
      obtain ⟨r_5, hg, h⟩ := bd_some h
      refine rdV (As := [.int x1]) (rest := []) (ci := 7) ⟨hx, hb, hml, hown, hts⟩ (k_X8_isLaid l dC dI cI cZ cS N aM aM_s fs_M M_s x1 hf_M_s r_5 hg) (cwV 1 hts gX8_wrongJudge_X8_isLaid rfl rfl rfl cd_X8_isLaid ⟨Nat.le_of_ble_eq_true rfl, Nat.le_of_ble_eq_true rfl⟩) hP hD hK [0, 1] (by decide) rfl rfl rfl rfl hl.1 rfl (Nat.le_of_ble_eq_true rfl) dX8_wrongJudge_19 ⟨Nat.zero_le _, Nat.zero_le _⟩ ?_
      refine lv_if_eq (tgt := 30) hx hb dX8_wrongJudge_22 (by decide) (fun c_6 => ?_) (fun c_6 => ?_)
      · have h := it_p c_6 h
        refine lv_iconst (v := 0) hx hb dX8_wrongJudge_30 (by decide) ?_
        exact W.iret hx hb hr (fun t ht hW => ⟨_, rfl, Option.some.inj h, ht⟩) (fun q hq => by cases hq) dX8_wrongJudge_31
      · have h := it_n c_6 h
        refine lv_bipush (v := (-3)) hx hb dX8_wrongJudge_25 (by decide) ?_
        refine lv_goto (tgt := 31) hx hb dX8_wrongJudge_27 (by decide) ?_
        exact W.iret hx hb hr (fun t ht hW => ⟨_, rfl, Option.some.inj h, ht⟩) (fun q hq => by cases hq) dX8_wrongJudge_31
    · have h := it_p c_4 h
      refine lv_iconst (v := (-1)) hx hb dX8_wrongJudge_15 (by decide) ?_
      exact W.iret hx hb hr (fun t ht hW => ⟨_, rfl, Option.some.inj h, ht⟩) (fun q hq => by cases hq) dX8_wrongJudge_16
def f_X8_judge (N : Nat) (M_s : Nat → Int32) (M_kept : Nat → Int32) (M_sort : Nat → Int32) (M_size : Nat → Int32) (M_element : Nat → Int32) (M_used : Nat → Int32) (x1 : Int32) (x2 : Int32) : Option (Int32 × (Nat → Int32)) :=
  (f_X8_wrongJudge N M_s x1 x2).bind fun r_1 => if r_1 = 0 then ((f_X8_wrongRow N M_kept M_sort x2 (-1)).bind fun r_5 => if r_5 = 0 then ((f_X8_judgeOf N M_s M_size M_element M_used x1 x2).bind fun r_7 => some (r_7.1, r_7.2)) else (some (r_5, M_used))) else (if r_1 = 0 then ((f_X8_judgeOf N M_s M_size M_element M_used x1 x2).bind fun r_4 => some (r_4.1, r_4.2)) else (some (r_1, M_used)))
set_option maxHeartbeats 4000000 in
set_option maxRecDepth 100000 in
theorem k_X8_judge (l : Launch) (dC : Nat → ClassId) (dI : Nat → Nat → Nat) (cI cZ cS : ClassId) (N : Nat) (aM aM_s aM_kept aM_sort aM_size aM_element aM_used : Nat) (fs_M : List Value) (sz : Nat) (M_s : Nat → Int32) (M_kept : Nat → Int32) (M_sort : Nat → Int32) (M_size : Nat → Int32) (M_element : Nat → Int32) (M_used : Nat → Int32) (x1 : Int32) (x2 : Int32) (hf_M_s : fs_M[0]? = some (.ref aM_s)) (hf_M_kept : fs_M[4]? = some (.ref aM_kept)) (hf_M_sort : fs_M[5]? = some (.ref aM_sort)) (hf_M_size : fs_M[6]? = some (.ref aM_size)) (hf_M_element : fs_M[7]? = some (.ref aM_element)) (hf_M_used : fs_M[18]? = some (.ref aM_used)) (res : Int32 × (Nat → Int32)) (h : f_X8_judge N M_s M_kept M_sort M_size M_element M_used x1 x2 = some res) : Met l yX8_judge wsX8_judge ({ frames := 4, cells := 0, slots := 0, locals := 95 }) (va_Pc [.ref aM, .int x1, .int x2] (preW (dC, dI) cI cZ cS [(aM, .inr (7, fs_M)), (aM_s, .inl (cI, 99, .inl M_s)), (aM_kept, .inl (cI, 8, .inl M_kept)), (aM_sort, .inl (cI, 8, .inl M_sort)), (aM_size, .inl (cI, 8, .inl M_size)), (aM_element, .inl (cI, 800, .inl M_element)), (aM_used, .inl (cI, 4, .inl M_used))] sz)) (va_Qi (fun (r : Int32) (_ : Unit) => r = res.1) (fun _ => qW (dC, dI) cI cZ cS (va_A [(aM, .inr (7, fs_M)), (aM_s, .inl (cI, 99, .inl M_s)), (aM_kept, .inl (cI, 8, .inl M_kept)), (aM_sort, .inl (cI, 8, .inl M_sort)), (aM_size, .inl (cI, 8, .inl M_size)), (aM_element, .inl (cI, 800, .inl M_element)), (aM_used, .inl (cI, 4, .inl M_used))] sz) [(aM, .inr (7, fs_M)), (aM_s, .inl (cI, 99, .inl M_s)), (aM_kept, .inl (cI, 8, .inl M_kept)), (aM_sort, .inl (cI, 8, .inl M_sort)), (aM_size, .inl (cI, 8, .inl M_size)), (aM_element, .inl (cI, 800, .inl M_element)), (aM_used, .inl (cI, 4, .inl res.2))]) (va_A [(aM, .inr (7, fs_M)), (aM_s, .inl (cI, 99, .inl M_s)), (aM_kept, .inl (cI, 8, .inl M_kept)), (aM_sort, .inl (cI, 8, .inl M_sort)), (aM_size, .inl (cI, 8, .inl M_size)), (aM_element, .inl (cI, 800, .inl M_element)), (aM_used, .inl (cI, 4, .inl M_used))] sz)) 0 0 (va_A [(aM, .inr (7, fs_M)), (aM_s, .inl (cI, 99, .inl M_s)), (aM_kept, .inl (cI, 8, .inl M_kept)), (aM_sort, .inl (cI, 8, .inl M_sort)), (aM_size, .inl (cI, 8, .inl M_size)), (aM_element, .inl (cI, 800, .inl M_element)), (aM_used, .inl (cI, 4, .inl M_used))] sz) := by
  refine Met.ofW (cc := cX8_judge) (maxL := 4) (ret := (some .int)) (by decide) rfl ?_
  intro p e s m args below meth c s₁ B hml hv
  obtain ⟨rfl, hsz, hP, hK, hD0⟩ := hv
  have hx := B.exec
  have hb := B.bytes
  have hr := B.returns
  have hts := atoms_spec (ws := wsX8_judge) B.pre
  have hown : s.vm.findClass RX8 = some m.cls := findClass_of_methodNamed B.named
  have hlocks := B.notSynchronized
  subst hsz
  have hD := hD0.self (sz := s.heap.size)
  generalize hAe : va_A [(aM, .inr (7, fs_M)), (aM_s, .inl (cI, 99, .inl M_s)), (aM_kept, .inl (cI, 8, .inl M_kept)), (aM_sort, .inl (cI, 8, .inl M_sort)), (aM_size, .inl (cI, 8, .inl M_size)), (aM_element, .inl (cI, 800, .inl M_element)), (aM_used, .inl (cI, 4, .inl M_used))] s.heap.size = A at hD ⊢
  have hA : ∀ q : Nat, s.heap.size ≤ q → A q := fun q h => by rw [← hAe]; exact Or.inr h
  have hS : va_S A s.heap s.heap [] := va_S.rf
  have hl := lv_entry ([.ref aM, .int x1, .int x2]) (n := 4) (Nat.le_of_ble_eq_true rfl)
  rw [lg_entry_eq]
  generalize (lg_sl ([.ref aM, .int x1, .int x2]) ++ List.replicate (4 - (lg_sl ([.ref aM, .int x1, .int x2])).length) Slot.unset).toArray = ls at hl ⊢
  have hl : lv_has ls 4 [(0, .ref aM), (1, .int x1), (2, .int x2)] := hl
  unfold f_X8_judge at h
  refine lv_aload_n hx hb dX8_judge_0 rfl (lv_at hl 0 rfl) ?_
  refine lv_iload_n hx hb dX8_judge_1 rfl (lv_at hl 1 rfl) ?_
  refine lv_iload_n hx hb dX8_judge_2 rfl (lv_at hl 2 rfl) ?_
  obtain ⟨r_1, hg, h⟩ := bd_some h
  refine rdV (As := [.int x1, .int x2]) (rest := []) (ci := 7) ⟨hx, hb, hml, hown, hts⟩ (k_X8_wrongJudge l dC dI cI cZ cS N aM aM_s fs_M M_s x1 x2 hf_M_s r_1 hg) (cwV 2 hts gX8_judge_X8_wrongJudge rfl rfl rfl cd_X8_wrongJudge ⟨Nat.le_of_ble_eq_true rfl, Nat.le_of_ble_eq_true rfl⟩) hP hD hK [0, 1] (by decide) rfl rfl rfl rfl hl.1 rfl (Nat.le_of_ble_eq_true rfl) dX8_judge_3 ⟨Nat.zero_le _, Nat.zero_le _⟩ ?_
  refine lv_istore_n (lv' := [(3, .int r_1), (0, .ref aM), (1, .int x1), (2, .int x2)]) hx hb dX8_judge_6 rfl hl (by decide) rfl (fun ls hl => ?_)
  refine lv_iload_n hx hb dX8_judge_7 rfl (lv_at hl 0 rfl) ?_
  refine lv_if_ne (tgt := 18) hx hb dX8_judge_8 (by decide) (fun c_2 => ?_) (fun c_2 => ?_)
  · have h := it_n c_2 h
    refine lv_iload_n hx hb dX8_judge_18 rfl (lv_at hl 0 rfl) ?_
    refine lv_if_eq (tgt := 26) hx hb dX8_judge_19 (by decide) (fun c_3 => ?_) (fun c_3 => ?_)
    · have h := it_p c_3 h
      refine lv_aload_n hx hb dX8_judge_26 rfl (lv_at hl 1 rfl) ?_
      refine lv_iload_n hx hb dX8_judge_27 rfl (lv_at hl 2 rfl) ?_
      refine lv_iload_n hx hb dX8_judge_28 rfl (lv_at hl 3 rfl) ?_
      obtain ⟨r_4, hg, h⟩ := bd_some h
      refine mtVi (As := [.int x1, .int x2]) (rest := []) (ci := 7) (wr := [(aM_kept, .inl (cI, 8, .inl M_kept)), (aM_sort, .inl (cI, 8, .inl M_sort))]) (w2 := [(aM, .inr (7, fs_M)), (aM_s, .inl (cI, 99, .inl M_s)), (aM_kept, .inl (cI, 8, .inl M_kept)), (aM_sort, .inl (cI, 8, .inl M_sort)), (aM_size, .inl (cI, 8, .inl M_size)), (aM_element, .inl (cI, 800, .inl M_element)), (aM_used, .inl (cI, 4, .inl r_4.2))]) ⟨hx, hb, hml, hown, hts⟩ (k_X8_judgeOf l dC dI cI cZ cS N aM aM_s aM_size aM_element aM_used fs_M _ M_s M_size M_element M_used x1 x2 hf_M_s hf_M_size hf_M_element hf_M_used r_4 hg) (cwV 2 hts gX8_judge_X8_judgeOf rfl rfl rfl cd_X8_judgeOf ⟨Nat.le_of_ble_eq_true rfl, Nat.le_of_ble_eq_true rfl⟩) hP hD hK hS hA [0, 1, 4, 5, 6] [2, 3] [2, 3, 0, 1, 4, 5, 6] (by decide) (by decide) (by decide) (by decide) rfl rfl rfl rfl rfl rfl hl.1 rfl (Nat.le_of_ble_eq_true rfl) dX8_judge_29 ⟨Nat.zero_le _, Nat.zero_le _⟩ (fun H locs hP hD hS => ?_)
      have h := Option.some.inj h
      exact W.iret hx hb hr (fun t ht hW => ⟨⟨_, (), rfl, by rw [← h], by (try rw [← h]); rw [ht]; exact hP, va_K.moved hW.alike hK, by (try rw [← h]); exact hD⟩, hS.F ht⟩) hS.2.2 dX8_judge_32
    · have h := it_n c_3 h
      refine lv_iload_n hx hb dX8_judge_22 rfl (lv_at hl 0 rfl) ?_
      refine lv_goto (tgt := 32) hx hb dX8_judge_23 (by decide) ?_
      have h := Option.some.inj h
      exact W.iret hx hb hr (fun t ht hW => ⟨⟨_, (), rfl, by rw [← h], by (try rw [← h]); rw [ht]; exact hP, va_K.moved hW.alike hK, by (try rw [← h]); exact hD⟩, hS.F ht⟩) hS.2.2 dX8_judge_32
  · have h := it_p c_2 h
    refine lv_aload_n hx hb dX8_judge_11 rfl (lv_at hl 1 rfl) ?_
    refine lv_iload_n hx hb dX8_judge_12 rfl (lv_at hl 3 rfl) ?_
    refine lv_iconst (v := (-1)) hx hb dX8_judge_13 (by decide) ?_
    obtain ⟨r_5, hg, h⟩ := bd_some h
    refine rdV (As := [.int x2, .int (-1)]) (rest := []) (ci := 7) ⟨hx, hb, hml, hown, hts⟩ (k_X8_wrongRow l dC dI cI cZ cS N aM aM_kept aM_sort fs_M M_kept M_sort x2 (-1) hf_M_kept hf_M_sort r_5 hg) (cwV 2 hts gX8_judge_X8_wrongRow rfl rfl rfl cd_X8_wrongRow ⟨Nat.le_of_ble_eq_true rfl, Nat.le_of_ble_eq_true rfl⟩) hP hD hK [0, 2, 3] (by decide) rfl rfl rfl rfl hl.1 rfl (Nat.le_of_ble_eq_true rfl) dX8_judge_14 ⟨Nat.zero_le _, Nat.zero_le _⟩ ?_
    refine lv_istore_n (lv' := [(3, .int r_5), (0, .ref aM), (1, .int x1), (2, .int x2)]) hx hb dX8_judge_17 rfl hl (by decide) rfl (fun ls hl => ?_)
    refine lv_iload_n hx hb dX8_judge_18 rfl (lv_at hl 0 rfl) ?_
    refine lv_if_eq (tgt := 26) hx hb dX8_judge_19 (by decide) (fun c_6 => ?_) (fun c_6 => ?_)
    · have h := it_p c_6 h
      refine lv_aload_n hx hb dX8_judge_26 rfl (lv_at hl 1 rfl) ?_
      refine lv_iload_n hx hb dX8_judge_27 rfl (lv_at hl 2 rfl) ?_
      refine lv_iload_n hx hb dX8_judge_28 rfl (lv_at hl 3 rfl) ?_
      obtain ⟨r_7, hg, h⟩ := bd_some h
      refine mtVi (As := [.int x1, .int x2]) (rest := []) (ci := 7) (wr := [(aM_kept, .inl (cI, 8, .inl M_kept)), (aM_sort, .inl (cI, 8, .inl M_sort))]) (w2 := [(aM, .inr (7, fs_M)), (aM_s, .inl (cI, 99, .inl M_s)), (aM_kept, .inl (cI, 8, .inl M_kept)), (aM_sort, .inl (cI, 8, .inl M_sort)), (aM_size, .inl (cI, 8, .inl M_size)), (aM_element, .inl (cI, 800, .inl M_element)), (aM_used, .inl (cI, 4, .inl r_7.2))]) ⟨hx, hb, hml, hown, hts⟩ (k_X8_judgeOf l dC dI cI cZ cS N aM aM_s aM_size aM_element aM_used fs_M _ M_s M_size M_element M_used x1 x2 hf_M_s hf_M_size hf_M_element hf_M_used r_7 hg) (cwV 2 hts gX8_judge_X8_judgeOf rfl rfl rfl cd_X8_judgeOf ⟨Nat.le_of_ble_eq_true rfl, Nat.le_of_ble_eq_true rfl⟩) hP hD hK hS hA [0, 1, 4, 5, 6] [2, 3] [2, 3, 0, 1, 4, 5, 6] (by decide) (by decide) (by decide) (by decide) rfl rfl rfl rfl rfl rfl hl.1 rfl (Nat.le_of_ble_eq_true rfl) dX8_judge_29 ⟨Nat.zero_le _, Nat.zero_le _⟩ (fun H locs hP hD hS => ?_)
      have h := Option.some.inj h
      exact W.iret hx hb hr (fun t ht hW => ⟨⟨_, (), rfl, by rw [← h], by (try rw [← h]); rw [ht]; exact hP, va_K.moved hW.alike hK, by (try rw [← h]); exact hD⟩, hS.F ht⟩) hS.2.2 dX8_judge_32
    · have h := it_n c_6 h
      refine lv_iload_n hx hb dX8_judge_22 rfl (lv_at hl 0 rfl) ?_
      refine lv_goto (tgt := 32) hx hb dX8_judge_23 (by decide) ?_
      have h := Option.some.inj h
      exact W.iret hx hb hr (fun t ht hW => ⟨⟨_, (), rfl, by rw [← h], by (try rw [← h]); rw [ht]; exact hP, va_K.moved hW.alike hK, by (try rw [← h]); exact hD⟩, hS.F ht⟩) hS.2.2 dX8_judge_32
