theorem cd_X8_lay : yX8_lay.cls = RX8 ∧ yX8_lay.cls ≠ "java/lang/invoke/MethodHandle" ∧ yX8_lay.cls ≠ "java/lang/invoke/VarHandle" ∧ (parseMethodDescriptor yX8_lay.desc).map (fun d => d.parameters.length) = some 2 := by decide +kernel
theorem cd_X8_takeUp : yX8_takeUp.cls = RX8 ∧ yX8_takeUp.cls ≠ "java/lang/invoke/MethodHandle" ∧ yX8_takeUp.cls ≠ "java/lang/invoke/VarHandle" ∧ (parseMethodDescriptor yX8_takeUp.desc).map (fun d => d.parameters.length) = some 1 := by decide +kernel
def f_X8_lay_L41 (N : Nat) (M_kept : Nat → Int32) (M_sort : Nat → Int32) (M_size : Nat → Int32) (M_element : Nat → Int32) (M_used : Nat → Int32) (x1 : Int32) (x2 : Int32) : Nat → Int32 → (Nat → Int32) → Option (Int32 × (Nat → Int32) × (Nat → Int32))
  | 0, _, _ => none
  | n + 1, v4, M_s =>
    ck (gi x2 8) (if (M_size x2.toNatClampNeg) ≤ v4 then (ck (gi x2 8) (ck (gi ((15 + (14 * x1)) + 1) 99) ((f_X8_cutOf N (upd M_s ((15 + (14 * x1)) + 1).toNatClampNeg (M_size x2.toNatClampNeg)) x1).bind fun r_7 => some (r_7, (upd M_s ((15 + (14 * x1)) + 1).toNatClampNeg (M_size x2.toNatClampNeg)), M_used)))) else (ck (gi ((100 * x2) + v4) 800) (ck (gi (((15 + (14 * x1)) + 2) + v4) 99) ((f_X8_leaves N (upd M_s (((15 + (14 * x1)) + 2) + v4).toNatClampNeg (M_element ((100 * x2) + v4).toNatClampNeg)) (M_element ((100 * x2) + v4).toNatClampNeg) 1).bind fun r_8 => f_X8_lay_L41 N M_kept M_sort M_size M_element M_used x1 x2 n (v4 + 1) r_8))))
def f_X8_lay (N : Nat) (M_s : Nat → Int32) (M_kept : Nat → Int32) (M_sort : Nat → Int32) (M_size : Nat → Int32) (M_element : Nat → Int32) (M_used : Nat → Int32) (x1 : Int32) (x2 : Int32) : Option (Int32 × (Nat → Int32) × (Nat → Int32)) :=
  (f_X8_wrongJudge N M_s x1 x2).bind fun r_1 => if r_1 = 0 then ((f_X8_wrongRow N M_kept M_sort x2 (-1)).bind fun r_15 => if r_15 = 0 then ((f_X8_judgeOf N M_s M_size M_element M_used x1 x2).bind fun r_17 => if r_17.1 = (-4) then (f_X8_lay_L41 N M_kept M_sort M_size M_element r_17.2 x1 x2 N 0 M_s) else (some ((-3), M_s, r_17.2))) else (some (r_15, M_s, M_used))) else (if r_1 = 0 then ((f_X8_judgeOf N M_s M_size M_element M_used x1 x2).bind fun r_4 => if r_4.1 = (-4) then (f_X8_lay_L41 N M_kept M_sort M_size M_element r_4.2 x1 x2 N 0 M_s) else (some ((-3), M_s, r_4.2))) else (some (r_1, M_s, M_used)))
set_option maxHeartbeats 4000000 in
set_option maxRecDepth 100000 in
theorem k_X8_lay (l : Launch) (dC : Nat → ClassId) (dI : Nat → Nat → Nat) (cI cZ cS : ClassId) (N : Nat) (aM aM_s aM_kept aM_sort aM_size aM_element aM_used : Nat) (fs_M : List Value) (sz : Nat) (M_s : Nat → Int32) (M_kept : Nat → Int32) (M_sort : Nat → Int32) (M_size : Nat → Int32) (M_element : Nat → Int32) (M_used : Nat → Int32) (x1 : Int32) (x2 : Int32) (hf_M_s : fs_M[0]? = some (.ref aM_s)) (hf_M_kept : fs_M[4]? = some (.ref aM_kept)) (hf_M_sort : fs_M[5]? = some (.ref aM_sort)) (hf_M_size : fs_M[6]? = some (.ref aM_size)) (hf_M_element : fs_M[7]? = some (.ref aM_element)) (hf_M_used : fs_M[18]? = some (.ref aM_used)) (res : Int32 × (Nat → Int32) × (Nat → Int32)) (h : f_X8_lay N M_s M_kept M_sort M_size M_element M_used x1 x2 = some res) : Met l yX8_lay wsX8_lay ({ frames := 4, cells := 0, slots := 0, locals := 95 }) (va_Pc [.ref aM, .int x1, .int x2] (preW (dC, dI) cI cZ cS [(aM, .inr (7, fs_M)), (aM_s, .inl (cI, 99, .inl M_s)), (aM_kept, .inl (cI, 8, .inl M_kept)), (aM_sort, .inl (cI, 8, .inl M_sort)), (aM_size, .inl (cI, 8, .inl M_size)), (aM_element, .inl (cI, 800, .inl M_element)), (aM_used, .inl (cI, 4, .inl M_used))] sz)) (va_Qi (fun (r : Int32) (_ : Unit) => r = res.1) (fun _ => qW (dC, dI) cI cZ cS (va_A [(aM, .inr (7, fs_M)), (aM_s, .inl (cI, 99, .inl M_s)), (aM_kept, .inl (cI, 8, .inl M_kept)), (aM_sort, .inl (cI, 8, .inl M_sort)), (aM_size, .inl (cI, 8, .inl M_size)), (aM_element, .inl (cI, 800, .inl M_element)), (aM_used, .inl (cI, 4, .inl M_used))] sz) [(aM, .inr (7, fs_M)), (aM_s, .inl (cI, 99, .inl res.2.1)), (aM_kept, .inl (cI, 8, .inl M_kept)), (aM_sort, .inl (cI, 8, .inl M_sort)), (aM_size, .inl (cI, 8, .inl M_size)), (aM_element, .inl (cI, 800, .inl M_element)), (aM_used, .inl (cI, 4, .inl res.2.2))]) (va_A [(aM, .inr (7, fs_M)), (aM_s, .inl (cI, 99, .inl M_s)), (aM_kept, .inl (cI, 8, .inl M_kept)), (aM_sort, .inl (cI, 8, .inl M_sort)), (aM_size, .inl (cI, 8, .inl M_size)), (aM_element, .inl (cI, 800, .inl M_element)), (aM_used, .inl (cI, 4, .inl M_used))] sz)) 0 0 (va_A [(aM, .inr (7, fs_M)), (aM_s, .inl (cI, 99, .inl M_s)), (aM_kept, .inl (cI, 8, .inl M_kept)), (aM_sort, .inl (cI, 8, .inl M_sort)), (aM_size, .inl (cI, 8, .inl M_size)), (aM_element, .inl (cI, 800, .inl M_element)), (aM_used, .inl (cI, 4, .inl M_used))] sz) := by
  refine Met.ofW (cc := cX8_lay) (maxL := 6) (ret := (some .int)) (by decide) rfl ?_
  intro p e s m args below meth c s₁ B hml hv
  obtain ⟨rfl, hsz, hP, hK, hD0⟩ := hv
  have hx := B.exec
  have hb := B.bytes
  have hr := B.returns
  have hts := atoms_spec (ws := wsX8_lay) B.pre
  have hown : s.vm.findClass RX8 = some m.cls := findClass_of_methodNamed B.named
  have hlocks := B.notSynchronized
  subst hsz
  have hD := hD0.self (sz := s.heap.size)
  generalize hAe : va_A [(aM, .inr (7, fs_M)), (aM_s, .inl (cI, 99, .inl M_s)), (aM_kept, .inl (cI, 8, .inl M_kept)), (aM_sort, .inl (cI, 8, .inl M_sort)), (aM_size, .inl (cI, 8, .inl M_size)), (aM_element, .inl (cI, 800, .inl M_element)), (aM_used, .inl (cI, 4, .inl M_used))] s.heap.size = A at hD ⊢
  have hA : ∀ q : Nat, s.heap.size ≤ q → A q := fun q h => by rw [← hAe]; exact Or.inr h
  have hS : va_S A s.heap s.heap [] := va_S.rf
  have hl := lv_entry ([.ref aM, .int x1, .int x2]) (n := 6) (Nat.le_of_ble_eq_true rfl)
  rw [lg_entry_eq]
  generalize (lg_sl ([.ref aM, .int x1, .int x2]) ++ List.replicate (6 - (lg_sl ([.ref aM, .int x1, .int x2])).length) Slot.unset).toArray = ls at hl ⊢
  have hl : lv_has ls 6 [(0, .ref aM), (1, .int x1), (2, .int x2)] := hl
  unfold f_X8_lay at h
  refine lv_aload_n hx hb dX8_lay_0 rfl (lv_at hl 0 rfl) ?_
  refine lv_iload_n hx hb dX8_lay_1 rfl (lv_at hl 1 rfl) ?_
  refine lv_iload_n hx hb dX8_lay_2 rfl (lv_at hl 2 rfl) ?_
  obtain ⟨r_1, hg, h⟩ := bd_some h
  refine rdV (As := [.int x1, .int x2]) (rest := []) (ci := 7) ⟨hx, hb, hml, hown, hts⟩ (k_X8_wrongJudge l dC dI cI cZ cS N aM aM_s fs_M M_s x1 x2 hf_M_s r_1 hg) (cwV 2 hts gX8_lay_X8_wrongJudge rfl rfl rfl cd_X8_wrongJudge ⟨Nat.le_of_ble_eq_true rfl, Nat.le_of_ble_eq_true rfl⟩) hP hD hK [0, 1] (by decide) rfl rfl rfl rfl hl.1 rfl (Nat.le_of_ble_eq_true rfl) dX8_lay_3 ⟨Nat.zero_le _, Nat.zero_le _⟩ ?_
  refine lv_istore_n (lv' := [(3, .int r_1), (0, .ref aM), (1, .int x1), (2, .int x2)]) hx hb dX8_lay_6 rfl hl (by decide) rfl (fun ls hl => ?_)
  refine lv_iload_n hx hb dX8_lay_7 rfl (lv_at hl 0 rfl) ?_
  refine lv_if_ne (tgt := 18) hx hb dX8_lay_8 (by decide) (fun c_2 => ?_) (fun c_2 => ?_)
  · have h := it_n c_2 h
    refine lv_iload_n hx hb dX8_lay_18 rfl (lv_at hl 0 rfl) ?_
    refine lv_if_eq (tgt := 24) hx hb dX8_lay_19 (by decide) (fun c_3 => ?_) (fun c_3 => ?_)
    · have h := it_p c_3 h
      refine lv_aload_n hx hb dX8_lay_24 rfl (lv_at hl 1 rfl) ?_
      refine lv_iload_n hx hb dX8_lay_25 rfl (lv_at hl 2 rfl) ?_
      refine lv_iload_n hx hb dX8_lay_26 rfl (lv_at hl 3 rfl) ?_
      obtain ⟨r_4, hg, h⟩ := bd_some h
      refine mtVi (As := [.int x1, .int x2]) (rest := []) (ci := 7) (wr := [(aM_kept, .inl (cI, 8, .inl M_kept)), (aM_sort, .inl (cI, 8, .inl M_sort))]) (w2 := [(aM, .inr (7, fs_M)), (aM_s, .inl (cI, 99, .inl M_s)), (aM_kept, .inl (cI, 8, .inl M_kept)), (aM_sort, .inl (cI, 8, .inl M_sort)), (aM_size, .inl (cI, 8, .inl M_size)), (aM_element, .inl (cI, 800, .inl M_element)), (aM_used, .inl (cI, 4, .inl r_4.2))]) ⟨hx, hb, hml, hown, hts⟩ (k_X8_judgeOf l dC dI cI cZ cS N aM aM_s aM_size aM_element aM_used fs_M _ M_s M_size M_element M_used x1 x2 hf_M_s hf_M_size hf_M_element hf_M_used r_4 hg) (cwV 2 hts gX8_lay_X8_judgeOf rfl rfl rfl cd_X8_judgeOf ⟨Nat.le_of_ble_eq_true rfl, Nat.le_of_ble_eq_true rfl⟩) hP hD hK hS hA [0, 1, 4, 5, 6] [2, 3] [2, 3, 0, 1, 4, 5, 6] (by decide) (by decide) (by decide) (by decide) rfl rfl rfl rfl rfl rfl hl.1 rfl (Nat.le_of_ble_eq_true rfl) dX8_lay_27 ⟨Nat.zero_le _, Nat.zero_le _⟩ (fun H locs hP hD hS => ?_)
      refine lv_bipush (v := (-4)) hx hb dX8_lay_30 (by decide) ?_
      refine lv_icmp_eq (tgt := 38) hx hb dX8_lay_32 (by decide) (fun c_5 => ?_) (fun c_5 => ?_)
      · have h := it_p c_5 h
        refine lv_iconst (v := 0) hx hb dX8_lay_38 (by decide) ?_
        refine lv_istore (lv' := [(4, .int 0), (3, .int r_1), (0, .ref aM), (1, .int x1), (2, .int x2)]) hx hb dX8_lay_39 hl (by decide) rfl (fun ls hl => ?_)
        have L41_8 : ∀ (n_9 : Nat) (v4_10 : Int32) (M_s_11 : Nat → Int32) (ls : Array Slot) (H : Heap) (locs : List Loc), f_X8_lay_L41 N M_kept M_sort M_size M_element r_4.2 x1 x2 n_9 v4_10 M_s_11 = some res → lv_has ls 6 [(0, .ref aM), (1, .int x1), (2, .int x2), (4, .int v4_10)] → va_P (dC, dI) vwCl [(aM, .inr (7, fs_M)), (aM_s, .inl (cI, 99, .inl M_s_11)), (aM_kept, .inl (cI, 8, .inl M_kept)), (aM_sort, .inl (cI, 8, .inl M_sort)), (aM_size, .inl (cI, 8, .inl M_size)), (aM_element, .inl (cI, 800, .inl M_element)), (aM_used, .inl (cI, 4, .inl r_4.2))] H → va_D A [(aM, .inr (7, fs_M)), (aM_s, .inl (cI, 99, .inl M_s_11)), (aM_kept, .inl (cI, 8, .inl M_kept)), (aM_sort, .inl (cI, 8, .inl M_sort)), (aM_size, .inl (cI, 8, .inl M_size)), (aM_element, .inl (cI, 800, .inl M_element)), (aM_used, .inl (cI, 4, .inl r_4.2))] → va_S A s.heap H locs → W p l e (headSpec wsX8_lay ({ frames := 4, cells := 0, slots := 0, locals := 95 })).room s m ([.ref aM, .int x1, .int x2] : List Value).toArray below meth c H locs 0 0 (MQ below (va_Qi (fun (r : Int32) (_ : Unit) => r = res.1) (fun _ => qW (dC, dI) cI cZ cS A [(aM, .inr (7, fs_M)), (aM_s, .inl (cI, 99, .inl res.2.1)), (aM_kept, .inl (cI, 8, .inl M_kept)), (aM_sort, .inl (cI, 8, .inl M_sort)), (aM_size, .inl (cI, 8, .inl M_size)), (aM_element, .inl (cI, 800, .inl M_element)), (aM_used, .inl (cI, 4, .inl res.2.2))]) A) ([.ref aM, .int x1, .int x2] : List Value).toArray s 0 0 A) (F0 m 41 ls []) := by
          intro n_9
          induction n_9 with
          | zero =>
            intro v4_10 M_s_11 ls H locs h
            simp only [f_X8_lay_L41] at h
            try exact absurd h (by simp)
          | succ n_9 ihn_9 =>
            intro v4_10 M_s_11 ls H locs h hl hP hD hS
            rw [f_X8_lay_L41] at h
            refine lv_iload hx hb dX8_lay_41 (lv_at hl 3 rfl) ?_
            refine lv_aload_n hx hb dX8_lay_43 rfl (lv_at hl 0 rfl) ?_
            refine va_get (D := (dC, dI)) (ci := 7) (v := .ref aM_size) (C := RX8) (T := TX8) (N := 37) hx hb hts (fun _ h => List.mem_cons_of_mem _ (List.mem_append_right _ h)) hown hK hP 0 rfl rfl 6 (by decide) (hts (.fieldLink RX8 28 "SlateRowsModel" "size" "[I") (by decide +kernel)) (fun _ h9 => h9) hf_M_size dX8_lay_44 ?_
            refine lv_iload_n hx hb dX8_lay_47 rfl (lv_at hl 2 rfl) ?_
            obtain ⟨hi, h⟩ := ck_some h
            refine va_iald hx hb hK hP 4 0 rfl rfl (gi_in hi) dX8_lay_48 ?_
            refine lv_icmp_ge (tgt := 98) hx hb dX8_lay_49 (by decide) (fun c_12 => ?_) (fun c_12 => ?_)
            · have h := it_p c_12 h
              refine lv_aload_n hx hb dX8_lay_98 rfl (lv_at hl 0 rfl) ?_
              refine va_get (D := (dC, dI)) (ci := 7) (v := .ref aM_s) (C := RX8) (T := TX8) (N := 37) hx hb hts (fun _ h => List.mem_cons_of_mem _ (List.mem_append_right _ h)) hown hK hP 0 rfl rfl 0 (by decide) (hts (.fieldLink RX8 9 "SlateRowsModel" "s" "[I") (by decide +kernel)) (fun _ h9 => h9) hf_M_s dX8_lay_99 ?_
              refine lv_bipush (v := 15) hx hb dX8_lay_102 (by decide) ?_
              refine lv_bipush (v := 14) hx hb dX8_lay_104 (by decide) ?_
              refine lv_iload_n hx hb dX8_lay_106 rfl (lv_at hl 1 rfl) ?_
              refine lv_imul hx hb dX8_lay_107 ?_
              refine lv_iadd hx hb dX8_lay_108 ?_
              refine lv_iconst (v := 1) hx hb dX8_lay_109 (by decide) ?_
              refine lv_iadd hx hb dX8_lay_110 ?_
              refine lv_aload_n hx hb dX8_lay_111 rfl (lv_at hl 0 rfl) ?_
              refine va_get (D := (dC, dI)) (ci := 7) (v := .ref aM_size) (C := RX8) (T := TX8) (N := 37) hx hb hts (fun _ h => List.mem_cons_of_mem _ (List.mem_append_right _ h)) hown hK hP 0 rfl rfl 6 (by decide) (hts (.fieldLink RX8 28 "SlateRowsModel" "size" "[I") (by decide +kernel)) (fun _ h9 => h9) hf_M_size dX8_lay_112 ?_
              refine lv_iload_n hx hb dX8_lay_115 rfl (lv_at hl 2 rfl) ?_
              obtain ⟨hi, h⟩ := ck_some h
              refine va_iald hx hb hK hP 4 0 rfl rfl (gi_in hi) dX8_lay_116 ?_
              obtain ⟨hi, h⟩ := ck_some h
              refine va_iast hx hb hK hP hD hS 1 0 rfl rfl (gi_in hi) dX8_lay_117 (fun H locs hP hD hS => ?_)
              have hP : va_P (dC, dI) vwCl [(aM, .inr (7, fs_M)), (aM_s, .inl (cI, 99, .inl (upd M_s_11 ((15 + (14 * x1)) + 1).toNatClampNeg (M_size x2.toNatClampNeg)))), (aM_kept, .inl (cI, 8, .inl M_kept)), (aM_sort, .inl (cI, 8, .inl M_sort)), (aM_size, .inl (cI, 8, .inl M_size)), (aM_element, .inl (cI, 800, .inl M_element)), (aM_used, .inl (cI, 4, .inl r_4.2))] H := hP
              have hD : va_D A [(aM, .inr (7, fs_M)), (aM_s, .inl (cI, 99, .inl (upd M_s_11 ((15 + (14 * x1)) + 1).toNatClampNeg (M_size x2.toNatClampNeg)))), (aM_kept, .inl (cI, 8, .inl M_kept)), (aM_sort, .inl (cI, 8, .inl M_sort)), (aM_size, .inl (cI, 8, .inl M_size)), (aM_element, .inl (cI, 800, .inl M_element)), (aM_used, .inl (cI, 4, .inl r_4.2))] := hD
              refine lv_aload_n hx hb dX8_lay_118 rfl (lv_at hl 0 rfl) ?_
              refine lv_iload_n hx hb dX8_lay_119 rfl (lv_at hl 1 rfl) ?_
              obtain ⟨r_13, hg, h⟩ := bd_some h
              refine rdV (As := [.int x1]) (rest := []) (ci := 7) ⟨hx, hb, hml, hown, hts⟩ (k_X8_cutOf l dC dI cI cZ cS N aM aM_s fs_M (upd M_s_11 ((15 + (14 * x1)) + 1).toNatClampNeg (M_size x2.toNatClampNeg)) x1 hf_M_s r_13 hg) (cwV 1 hts gX8_lay_X8_cutOf rfl rfl rfl cd_X8_cutOf ⟨Nat.le_of_ble_eq_true rfl, Nat.le_of_ble_eq_true rfl⟩) hP hD hK [0, 1] (by decide) rfl rfl rfl rfl hl.1 rfl (Nat.le_of_ble_eq_true rfl) dX8_lay_120 ⟨Nat.zero_le _, Nat.zero_le _⟩ ?_
              have h := Option.some.inj h
              exact W.iret hx hb hr (fun t ht hW => ⟨⟨_, (), rfl, by rw [← h], by (try rw [← h]); rw [ht]; exact hP, va_K.moved hW.alike hK, by (try rw [← h]); exact hD⟩, hS.F ht⟩) hS.2.2 dX8_lay_123
            · have h := it_n c_12 h
              refine lv_aload_n hx hb dX8_lay_52 rfl (lv_at hl 0 rfl) ?_
              refine va_get (D := (dC, dI)) (ci := 7) (v := .ref aM_element) (C := RX8) (T := TX8) (N := 37) hx hb hts (fun _ h => List.mem_cons_of_mem _ (List.mem_append_right _ h)) hown hK hP 0 rfl rfl 7 (by decide) (hts (.fieldLink RX8 31 "SlateRowsModel" "element" "[I") (by decide +kernel)) (fun _ h9 => h9) hf_M_element dX8_lay_53 ?_
              refine lv_bipush (v := 100) hx hb dX8_lay_56 (by decide) ?_
              refine lv_iload_n hx hb dX8_lay_58 rfl (lv_at hl 2 rfl) ?_
              refine lv_imul hx hb dX8_lay_59 ?_
              refine lv_iload hx hb dX8_lay_60 (lv_at hl 3 rfl) ?_
              refine lv_iadd hx hb dX8_lay_62 ?_
              obtain ⟨hi, h⟩ := ck_some h
              refine va_iald hx hb hK hP 5 0 rfl rfl (gi_in hi) dX8_lay_63 ?_
              refine lv_istore (lv' := [(5, .int (M_element ((100 * x2) + v4_10).toNatClampNeg)), (0, .ref aM), (1, .int x1), (2, .int x2), (4, .int v4_10)]) hx hb dX8_lay_64 hl (by decide) rfl (fun ls hl => ?_)
              refine lv_aload_n hx hb dX8_lay_66 rfl (lv_at hl 1 rfl) ?_
              refine va_get (D := (dC, dI)) (ci := 7) (v := .ref aM_s) (C := RX8) (T := TX8) (N := 37) hx hb hts (fun _ h => List.mem_cons_of_mem _ (List.mem_append_right _ h)) hown hK hP 0 rfl rfl 0 (by decide) (hts (.fieldLink RX8 9 "SlateRowsModel" "s" "[I") (by decide +kernel)) (fun _ h9 => h9) hf_M_s dX8_lay_67 ?_
              refine lv_bipush (v := 15) hx hb dX8_lay_70 (by decide) ?_
              refine lv_bipush (v := 14) hx hb dX8_lay_72 (by decide) ?_
              refine lv_iload_n hx hb dX8_lay_74 rfl (lv_at hl 2 rfl) ?_
              refine lv_imul hx hb dX8_lay_75 ?_
              refine lv_iadd hx hb dX8_lay_76 ?_
              refine lv_iconst (v := 2) hx hb dX8_lay_77 (by decide) ?_
              refine lv_iadd hx hb dX8_lay_78 ?_
              refine lv_iload hx hb dX8_lay_79 (lv_at hl 4 rfl) ?_
              refine lv_iadd hx hb dX8_lay_81 ?_
              refine lv_iload hx hb dX8_lay_82 (lv_at hl 0 rfl) ?_
              obtain ⟨hi, h⟩ := ck_some h
              refine va_iast hx hb hK hP hD hS 1 0 rfl rfl (gi_in hi) dX8_lay_84 (fun H locs hP hD hS => ?_)
              have hP : va_P (dC, dI) vwCl [(aM, .inr (7, fs_M)), (aM_s, .inl (cI, 99, .inl (upd M_s_11 (((15 + (14 * x1)) + 2) + v4_10).toNatClampNeg (M_element ((100 * x2) + v4_10).toNatClampNeg)))), (aM_kept, .inl (cI, 8, .inl M_kept)), (aM_sort, .inl (cI, 8, .inl M_sort)), (aM_size, .inl (cI, 8, .inl M_size)), (aM_element, .inl (cI, 800, .inl M_element)), (aM_used, .inl (cI, 4, .inl r_4.2))] H := hP
              have hD : va_D A [(aM, .inr (7, fs_M)), (aM_s, .inl (cI, 99, .inl (upd M_s_11 (((15 + (14 * x1)) + 2) + v4_10).toNatClampNeg (M_element ((100 * x2) + v4_10).toNatClampNeg)))), (aM_kept, .inl (cI, 8, .inl M_kept)), (aM_sort, .inl (cI, 8, .inl M_sort)), (aM_size, .inl (cI, 8, .inl M_size)), (aM_element, .inl (cI, 800, .inl M_element)), (aM_used, .inl (cI, 4, .inl r_4.2))] := hD
              refine lv_aload_n hx hb dX8_lay_85 rfl (lv_at hl 1 rfl) ?_
              refine lv_iload hx hb dX8_lay_86 (lv_at hl 0 rfl) ?_
              refine lv_iconst (v := 1) hx hb dX8_lay_88 (by decide) ?_
              obtain ⟨r_14, hg, h⟩ := bd_some h
              refine mtVv (As := [.int (M_element ((100 * x2) + v4_10).toNatClampNeg), .int 1]) (rest := []) (ci := 7) (wr := [(aM_kept, .inl (cI, 8, .inl M_kept)), (aM_sort, .inl (cI, 8, .inl M_sort)), (aM_size, .inl (cI, 8, .inl M_size)), (aM_element, .inl (cI, 800, .inl M_element)), (aM_used, .inl (cI, 4, .inl r_4.2))]) (w2 := [(aM, .inr (7, fs_M)), (aM_s, .inl (cI, 99, .inl r_14)), (aM_kept, .inl (cI, 8, .inl M_kept)), (aM_sort, .inl (cI, 8, .inl M_sort)), (aM_size, .inl (cI, 8, .inl M_size)), (aM_element, .inl (cI, 800, .inl M_element)), (aM_used, .inl (cI, 4, .inl r_4.2))]) ⟨hx, hb, hml, hown, hts⟩ (k_X8_leaves l dC dI cI cZ cS N aM aM_s fs_M _ (upd M_s_11 (((15 + (14 * x1)) + 2) + v4_10).toNatClampNeg (M_element ((100 * x2) + v4_10).toNatClampNeg)) (M_element ((100 * x2) + v4_10).toNatClampNeg) 1 hf_M_s r_14 hg) (cwV 2 hts gX8_lay_X8_leaves rfl rfl rfl cd_X8_leaves ⟨Nat.le_of_ble_eq_true rfl, Nat.le_of_ble_eq_true rfl⟩) hP hD hK hS hA [0, 1] [2, 3, 4, 5, 6] [5, 6, 0, 1, 2, 3, 4] (by decide) (by decide) (by decide) (by decide) rfl rfl rfl rfl rfl rfl hl.1 rfl (Nat.le_of_ble_eq_true rfl) dX8_lay_89 ⟨Nat.zero_le _, Nat.zero_le _⟩ (fun H locs hP hD hS => ?_)
              refine lv_iinc (v := (v4_10 + 1)) (lv' := [(4, .int (v4_10 + 1)), (5, .int (M_element ((100 * x2) + v4_10).toNatClampNeg)), (0, .ref aM), (1, .int x1), (2, .int x2)]) hx hb dX8_lay_92 hl (k := 4) rfl rfl (by decide) rfl (fun ls hl => ?_)
              refine lv_goto (tgt := 41) hx hb dX8_lay_95 (by decide) ?_
              exact ihn_9 (v4_10 + 1) r_14 ls _ _ h (lv_sub hl [2, 3, 4, 0] rfl) hP hD hS
        exact L41_8 N 0 M_s ls _ _ h (lv_sub hl [2, 3, 4, 0] rfl) hP hD hS
      · have h := it_n c_5 h
        refine lv_bipush (v := (-3)) hx hb dX8_lay_35 (by decide) ?_
        have h := Option.some.inj h
        exact W.iret hx hb hr (fun t ht hW => ⟨⟨_, (), rfl, by rw [← h], by (try rw [← h]); rw [ht]; exact hP, va_K.moved hW.alike hK, by (try rw [← h]); exact hD⟩, hS.F ht⟩) hS.2.2 dX8_lay_37
    · have h := it_n c_3 h
      refine lv_iload_n hx hb dX8_lay_22 rfl (lv_at hl 0 rfl) ?_
      have h := Option.some.inj h
      exact W.iret hx hb hr (fun t ht hW => ⟨⟨_, (), rfl, by rw [← h], by (try rw [← h]); rw [ht]; exact hP, va_K.moved hW.alike hK, by (try rw [← h]); exact hD⟩, hS.F ht⟩) hS.2.2 dX8_lay_23
  · have h := it_p c_2 h
    refine lv_aload_n hx hb dX8_lay_11 rfl (lv_at hl 1 rfl) ?_
    refine lv_iload_n hx hb dX8_lay_12 rfl (lv_at hl 3 rfl) ?_
    refine lv_iconst (v := (-1)) hx hb dX8_lay_13 (by decide) ?_
    obtain ⟨r_15, hg, h⟩ := bd_some h
    refine rdV (As := [.int x2, .int (-1)]) (rest := []) (ci := 7) ⟨hx, hb, hml, hown, hts⟩ (k_X8_wrongRow l dC dI cI cZ cS N aM aM_kept aM_sort fs_M M_kept M_sort x2 (-1) hf_M_kept hf_M_sort r_15 hg) (cwV 2 hts gX8_lay_X8_wrongRow rfl rfl rfl cd_X8_wrongRow ⟨Nat.le_of_ble_eq_true rfl, Nat.le_of_ble_eq_true rfl⟩) hP hD hK [0, 2, 3] (by decide) rfl rfl rfl rfl hl.1 rfl (Nat.le_of_ble_eq_true rfl) dX8_lay_14 ⟨Nat.zero_le _, Nat.zero_le _⟩ ?_
    refine lv_istore_n (lv' := [(3, .int r_15), (0, .ref aM), (1, .int x1), (2, .int x2)]) hx hb dX8_lay_17 rfl hl (by decide) rfl (fun ls hl => ?_)
    refine lv_iload_n hx hb dX8_lay_18 rfl (lv_at hl 0 rfl) ?_
    refine lv_if_eq (tgt := 24) hx hb dX8_lay_19 (by decide) (fun c_16 => ?_) (fun c_16 => ?_)
    · have h := it_p c_16 h
      refine lv_aload_n hx hb dX8_lay_24 rfl (lv_at hl 1 rfl) ?_
      refine lv_iload_n hx hb dX8_lay_25 rfl (lv_at hl 2 rfl) ?_
      refine lv_iload_n hx hb dX8_lay_26 rfl (lv_at hl 3 rfl) ?_
      obtain ⟨r_17, hg, h⟩ := bd_some h
      refine mtVi (As := [.int x1, .int x2]) (rest := []) (ci := 7) (wr := [(aM_kept, .inl (cI, 8, .inl M_kept)), (aM_sort, .inl (cI, 8, .inl M_sort))]) (w2 := [(aM, .inr (7, fs_M)), (aM_s, .inl (cI, 99, .inl M_s)), (aM_kept, .inl (cI, 8, .inl M_kept)), (aM_sort, .inl (cI, 8, .inl M_sort)), (aM_size, .inl (cI, 8, .inl M_size)), (aM_element, .inl (cI, 800, .inl M_element)), (aM_used, .inl (cI, 4, .inl r_17.2))]) ⟨hx, hb, hml, hown, hts⟩ (k_X8_judgeOf l dC dI cI cZ cS N aM aM_s aM_size aM_element aM_used fs_M _ M_s M_size M_element M_used x1 x2 hf_M_s hf_M_size hf_M_element hf_M_used r_17 hg) (cwV 2 hts gX8_lay_X8_judgeOf rfl rfl rfl cd_X8_judgeOf ⟨Nat.le_of_ble_eq_true rfl, Nat.le_of_ble_eq_true rfl⟩) hP hD hK hS hA [0, 1, 4, 5, 6] [2, 3] [2, 3, 0, 1, 4, 5, 6] (by decide) (by decide) (by decide) (by decide) rfl rfl rfl rfl rfl rfl hl.1 rfl (Nat.le_of_ble_eq_true rfl) dX8_lay_27 ⟨Nat.zero_le _, Nat.zero_le _⟩ (fun H locs hP hD hS => ?_)
      refine lv_bipush (v := (-4)) hx hb dX8_lay_30 (by decide) ?_
      refine lv_icmp_eq (tgt := 38) hx hb dX8_lay_32 (by decide) (fun c_18 => ?_) (fun c_18 => ?_)
      · have h := it_p c_18 h
        refine lv_iconst (v := 0) hx hb dX8_lay_38 (by decide) ?_
        refine lv_istore (lv' := [(4, .int 0), (3, .int r_15), (0, .ref aM), (1, .int x1), (2, .int x2)]) hx hb dX8_lay_39 hl (by decide) rfl (fun ls hl => ?_)
        have L41_18 : ∀ (n_19 : Nat) (v4_20 : Int32) (M_s_21 : Nat → Int32) (ls : Array Slot) (H : Heap) (locs : List Loc), f_X8_lay_L41 N M_kept M_sort M_size M_element r_17.2 x1 x2 n_19 v4_20 M_s_21 = some res → lv_has ls 6 [(0, .ref aM), (1, .int x1), (2, .int x2), (4, .int v4_20)] → va_P (dC, dI) vwCl [(aM, .inr (7, fs_M)), (aM_s, .inl (cI, 99, .inl M_s_21)), (aM_kept, .inl (cI, 8, .inl M_kept)), (aM_sort, .inl (cI, 8, .inl M_sort)), (aM_size, .inl (cI, 8, .inl M_size)), (aM_element, .inl (cI, 800, .inl M_element)), (aM_used, .inl (cI, 4, .inl r_17.2))] H → va_D A [(aM, .inr (7, fs_M)), (aM_s, .inl (cI, 99, .inl M_s_21)), (aM_kept, .inl (cI, 8, .inl M_kept)), (aM_sort, .inl (cI, 8, .inl M_sort)), (aM_size, .inl (cI, 8, .inl M_size)), (aM_element, .inl (cI, 800, .inl M_element)), (aM_used, .inl (cI, 4, .inl r_17.2))] → va_S A s.heap H locs → W p l e (headSpec wsX8_lay ({ frames := 4, cells := 0, slots := 0, locals := 95 })).room s m ([.ref aM, .int x1, .int x2] : List Value).toArray below meth c H locs 0 0 (MQ below (va_Qi (fun (r : Int32) (_ : Unit) => r = res.1) (fun _ => qW (dC, dI) cI cZ cS A [(aM, .inr (7, fs_M)), (aM_s, .inl (cI, 99, .inl res.2.1)), (aM_kept, .inl (cI, 8, .inl M_kept)), (aM_sort, .inl (cI, 8, .inl M_sort)), (aM_size, .inl (cI, 8, .inl M_size)), (aM_element, .inl (cI, 800, .inl M_element)), (aM_used, .inl (cI, 4, .inl res.2.2))]) A) ([.ref aM, .int x1, .int x2] : List Value).toArray s 0 0 A) (F0 m 41 ls []) := by
          intro n_19
          induction n_19 with
          | zero =>
            intro v4_20 M_s_21 ls H locs h
            simp only [f_X8_lay_L41] at h
            try exact absurd h (by simp)
          | succ n_19 ihn_19 =>
            intro v4_20 M_s_21 ls H locs h hl hP hD hS
            rw [f_X8_lay_L41] at h
            refine lv_iload hx hb dX8_lay_41 (lv_at hl 3 rfl) ?_
            refine lv_aload_n hx hb dX8_lay_43 rfl (lv_at hl 0 rfl) ?_
            refine va_get (D := (dC, dI)) (ci := 7) (v := .ref aM_size) (C := RX8) (T := TX8) (N := 37) hx hb hts (fun _ h => List.mem_cons_of_mem _ (List.mem_append_right _ h)) hown hK hP 0 rfl rfl 6 (by decide) (hts (.fieldLink RX8 28 "SlateRowsModel" "size" "[I") (by decide +kernel)) (fun _ h9 => h9) hf_M_size dX8_lay_44 ?_
            refine lv_iload_n hx hb dX8_lay_47 rfl (lv_at hl 2 rfl) ?_
            obtain ⟨hi, h⟩ := ck_some h
            refine va_iald hx hb hK hP 4 0 rfl rfl (gi_in hi) dX8_lay_48 ?_
            refine lv_icmp_ge (tgt := 98) hx hb dX8_lay_49 (by decide) (fun c_22 => ?_) (fun c_22 => ?_)
            · have h := it_p c_22 h
              refine lv_aload_n hx hb dX8_lay_98 rfl (lv_at hl 0 rfl) ?_
              refine va_get (D := (dC, dI)) (ci := 7) (v := .ref aM_s) (C := RX8) (T := TX8) (N := 37) hx hb hts (fun _ h => List.mem_cons_of_mem _ (List.mem_append_right _ h)) hown hK hP 0 rfl rfl 0 (by decide) (hts (.fieldLink RX8 9 "SlateRowsModel" "s" "[I") (by decide +kernel)) (fun _ h9 => h9) hf_M_s dX8_lay_99 ?_
              refine lv_bipush (v := 15) hx hb dX8_lay_102 (by decide) ?_
              refine lv_bipush (v := 14) hx hb dX8_lay_104 (by decide) ?_
              refine lv_iload_n hx hb dX8_lay_106 rfl (lv_at hl 1 rfl) ?_
              refine lv_imul hx hb dX8_lay_107 ?_
              refine lv_iadd hx hb dX8_lay_108 ?_
              refine lv_iconst (v := 1) hx hb dX8_lay_109 (by decide) ?_
              refine lv_iadd hx hb dX8_lay_110 ?_
              refine lv_aload_n hx hb dX8_lay_111 rfl (lv_at hl 0 rfl) ?_
              refine va_get (D := (dC, dI)) (ci := 7) (v := .ref aM_size) (C := RX8) (T := TX8) (N := 37) hx hb hts (fun _ h => List.mem_cons_of_mem _ (List.mem_append_right _ h)) hown hK hP 0 rfl rfl 6 (by decide) (hts (.fieldLink RX8 28 "SlateRowsModel" "size" "[I") (by decide +kernel)) (fun _ h9 => h9) hf_M_size dX8_lay_112 ?_
              refine lv_iload_n hx hb dX8_lay_115 rfl (lv_at hl 2 rfl) ?_
              obtain ⟨hi, h⟩ := ck_some h
              refine va_iald hx hb hK hP 4 0 rfl rfl (gi_in hi) dX8_lay_116 ?_
              obtain ⟨hi, h⟩ := ck_some h
              refine va_iast hx hb hK hP hD hS 1 0 rfl rfl (gi_in hi) dX8_lay_117 (fun H locs hP hD hS => ?_)
              have hP : va_P (dC, dI) vwCl [(aM, .inr (7, fs_M)), (aM_s, .inl (cI, 99, .inl (upd M_s_21 ((15 + (14 * x1)) + 1).toNatClampNeg (M_size x2.toNatClampNeg)))), (aM_kept, .inl (cI, 8, .inl M_kept)), (aM_sort, .inl (cI, 8, .inl M_sort)), (aM_size, .inl (cI, 8, .inl M_size)), (aM_element, .inl (cI, 800, .inl M_element)), (aM_used, .inl (cI, 4, .inl r_17.2))] H := hP
              have hD : va_D A [(aM, .inr (7, fs_M)), (aM_s, .inl (cI, 99, .inl (upd M_s_21 ((15 + (14 * x1)) + 1).toNatClampNeg (M_size x2.toNatClampNeg)))), (aM_kept, .inl (cI, 8, .inl M_kept)), (aM_sort, .inl (cI, 8, .inl M_sort)), (aM_size, .inl (cI, 8, .inl M_size)), (aM_element, .inl (cI, 800, .inl M_element)), (aM_used, .inl (cI, 4, .inl r_17.2))] := hD
              refine lv_aload_n hx hb dX8_lay_118 rfl (lv_at hl 0 rfl) ?_
              refine lv_iload_n hx hb dX8_lay_119 rfl (lv_at hl 1 rfl) ?_
              obtain ⟨r_23, hg, h⟩ := bd_some h
              refine rdV (As := [.int x1]) (rest := []) (ci := 7) ⟨hx, hb, hml, hown, hts⟩ (k_X8_cutOf l dC dI cI cZ cS N aM aM_s fs_M (upd M_s_21 ((15 + (14 * x1)) + 1).toNatClampNeg (M_size x2.toNatClampNeg)) x1 hf_M_s r_23 hg) (cwV 1 hts gX8_lay_X8_cutOf rfl rfl rfl cd_X8_cutOf ⟨Nat.le_of_ble_eq_true rfl, Nat.le_of_ble_eq_true rfl⟩) hP hD hK [0, 1] (by decide) rfl rfl rfl rfl hl.1 rfl (Nat.le_of_ble_eq_true rfl) dX8_lay_120 ⟨Nat.zero_le _, Nat.zero_le _⟩ ?_
              have h := Option.some.inj h
              exact W.iret hx hb hr (fun t ht hW => ⟨⟨_, (), rfl, by rw [← h], by (try rw [← h]); rw [ht]; exact hP, va_K.moved hW.alike hK, by (try rw [← h]); exact hD⟩, hS.F ht⟩) hS.2.2 dX8_lay_123
            · have h := it_n c_22 h
              refine lv_aload_n hx hb dX8_lay_52 rfl (lv_at hl 0 rfl) ?_
              refine va_get (D := (dC, dI)) (ci := 7) (v := .ref aM_element) (C := RX8) (T := TX8) (N := 37) hx hb hts (fun _ h => List.mem_cons_of_mem _ (List.mem_append_right _ h)) hown hK hP 0 rfl rfl 7 (by decide) (hts (.fieldLink RX8 31 "SlateRowsModel" "element" "[I") (by decide +kernel)) (fun _ h9 => h9) hf_M_element dX8_lay_53 ?_
              refine lv_bipush (v := 100) hx hb dX8_lay_56 (by decide) ?_
              refine lv_iload_n hx hb dX8_lay_58 rfl (lv_at hl 2 rfl) ?_
              refine lv_imul hx hb dX8_lay_59 ?_
              refine lv_iload hx hb dX8_lay_60 (lv_at hl 3 rfl) ?_
              refine lv_iadd hx hb dX8_lay_62 ?_
              obtain ⟨hi, h⟩ := ck_some h
              refine va_iald hx hb hK hP 5 0 rfl rfl (gi_in hi) dX8_lay_63 ?_
              refine lv_istore (lv' := [(5, .int (M_element ((100 * x2) + v4_20).toNatClampNeg)), (0, .ref aM), (1, .int x1), (2, .int x2), (4, .int v4_20)]) hx hb dX8_lay_64 hl (by decide) rfl (fun ls hl => ?_)
              refine lv_aload_n hx hb dX8_lay_66 rfl (lv_at hl 1 rfl) ?_
              refine va_get (D := (dC, dI)) (ci := 7) (v := .ref aM_s) (C := RX8) (T := TX8) (N := 37) hx hb hts (fun _ h => List.mem_cons_of_mem _ (List.mem_append_right _ h)) hown hK hP 0 rfl rfl 0 (by decide) (hts (.fieldLink RX8 9 "SlateRowsModel" "s" "[I") (by decide +kernel)) (fun _ h9 => h9) hf_M_s dX8_lay_67 ?_
              refine lv_bipush (v := 15) hx hb dX8_lay_70 (by decide) ?_
              refine lv_bipush (v := 14) hx hb dX8_lay_72 (by decide) ?_
              refine lv_iload_n hx hb dX8_lay_74 rfl (lv_at hl 2 rfl) ?_
              refine lv_imul hx hb dX8_lay_75 ?_
              refine lv_iadd hx hb dX8_lay_76 ?_
              refine lv_iconst (v := 2) hx hb dX8_lay_77 (by decide) ?_
              refine lv_iadd hx hb dX8_lay_78 ?_
              refine lv_iload hx hb dX8_lay_79 (lv_at hl 4 rfl) ?_
              refine lv_iadd hx hb dX8_lay_81 ?_
              refine lv_iload hx hb dX8_lay_82 (lv_at hl 0 rfl) ?_
              obtain ⟨hi, h⟩ := ck_some h
              refine va_iast hx hb hK hP hD hS 1 0 rfl rfl (gi_in hi) dX8_lay_84 (fun H locs hP hD hS => ?_)
              have hP : va_P (dC, dI) vwCl [(aM, .inr (7, fs_M)), (aM_s, .inl (cI, 99, .inl (upd M_s_21 (((15 + (14 * x1)) + 2) + v4_20).toNatClampNeg (M_element ((100 * x2) + v4_20).toNatClampNeg)))), (aM_kept, .inl (cI, 8, .inl M_kept)), (aM_sort, .inl (cI, 8, .inl M_sort)), (aM_size, .inl (cI, 8, .inl M_size)), (aM_element, .inl (cI, 800, .inl M_element)), (aM_used, .inl (cI, 4, .inl r_17.2))] H := hP
              have hD : va_D A [(aM, .inr (7, fs_M)), (aM_s, .inl (cI, 99, .inl (upd M_s_21 (((15 + (14 * x1)) + 2) + v4_20).toNatClampNeg (M_element ((100 * x2) + v4_20).toNatClampNeg)))), (aM_kept, .inl (cI, 8, .inl M_kept)), (aM_sort, .inl (cI, 8, .inl M_sort)), (aM_size, .inl (cI, 8, .inl M_size)), (aM_element, .inl (cI, 800, .inl M_element)), (aM_used, .inl (cI, 4, .inl r_17.2))] := hD
              refine lv_aload_n hx hb dX8_lay_85 rfl (lv_at hl 1 rfl) ?_
              refine lv_iload hx hb dX8_lay_86 (lv_at hl 0 rfl) ?_
              refine lv_iconst (v := 1) hx hb dX8_lay_88 (by decide) ?_
              obtain ⟨r_24, hg, h⟩ := bd_some h
              refine mtVv (As := [.int (M_element ((100 * x2) + v4_20).toNatClampNeg), .int 1]) (rest := []) (ci := 7) (wr := [(aM_kept, .inl (cI, 8, .inl M_kept)), (aM_sort, .inl (cI, 8, .inl M_sort)), (aM_size, .inl (cI, 8, .inl M_size)), (aM_element, .inl (cI, 800, .inl M_element)), (aM_used, .inl (cI, 4, .inl r_17.2))]) (w2 := [(aM, .inr (7, fs_M)), (aM_s, .inl (cI, 99, .inl r_24)), (aM_kept, .inl (cI, 8, .inl M_kept)), (aM_sort, .inl (cI, 8, .inl M_sort)), (aM_size, .inl (cI, 8, .inl M_size)), (aM_element, .inl (cI, 800, .inl M_element)), (aM_used, .inl (cI, 4, .inl r_17.2))]) ⟨hx, hb, hml, hown, hts⟩ (k_X8_leaves l dC dI cI cZ cS N aM aM_s fs_M _ (upd M_s_21 (((15 + (14 * x1)) + 2) + v4_20).toNatClampNeg (M_element ((100 * x2) + v4_20).toNatClampNeg)) (M_element ((100 * x2) + v4_20).toNatClampNeg) 1 hf_M_s r_24 hg) (cwV 2 hts gX8_lay_X8_leaves rfl rfl rfl cd_X8_leaves ⟨Nat.le_of_ble_eq_true rfl, Nat.le_of_ble_eq_true rfl⟩) hP hD hK hS hA [0, 1] [2, 3, 4, 5, 6] [5, 6, 0, 1, 2, 3, 4] (by decide) (by decide) (by decide) (by decide) rfl rfl rfl rfl rfl rfl hl.1 rfl (Nat.le_of_ble_eq_true rfl) dX8_lay_89 ⟨Nat.zero_le _, Nat.zero_le _⟩ (fun H locs hP hD hS => ?_)
              refine lv_iinc (v := (v4_20 + 1)) (lv' := [(4, .int (v4_20 + 1)), (5, .int (M_element ((100 * x2) + v4_20).toNatClampNeg)), (0, .ref aM), (1, .int x1), (2, .int x2)]) hx hb dX8_lay_92 hl (k := 4) rfl rfl (by decide) rfl (fun ls hl => ?_)
              refine lv_goto (tgt := 41) hx hb dX8_lay_95 (by decide) ?_
              exact ihn_19 (v4_20 + 1) r_24 ls _ _ h (lv_sub hl [2, 3, 4, 0] rfl) hP hD hS
        exact L41_18 N 0 M_s ls _ _ h (lv_sub hl [2, 3, 4, 0] rfl) hP hD hS
      · have h := it_n c_18 h
        refine lv_bipush (v := (-3)) hx hb dX8_lay_35 (by decide) ?_
        have h := Option.some.inj h
        exact W.iret hx hb hr (fun t ht hW => ⟨⟨_, (), rfl, by rw [← h], by (try rw [← h]); rw [ht]; exact hP, va_K.moved hW.alike hK, by (try rw [← h]); exact hD⟩, hS.F ht⟩) hS.2.2 dX8_lay_37
    · have h := it_n c_16 h
      refine lv_iload_n hx hb dX8_lay_22 rfl (lv_at hl 0 rfl) ?_
      have h := Option.some.inj h
      exact W.iret hx hb hr (fun t ht hW => ⟨⟨_, (), rfl, by rw [← h], by (try rw [← h]); rw [ht]; exact hP, va_K.moved hW.alike hK, by (try rw [← h]); exact hD⟩, hS.F ht⟩) hS.2.2 dX8_lay_23
def f_X8_takeUp_L50 (N : Nat) (x1 : Int32) (x2 : Int32) : Nat → Int32 → Int32 → (Nat → Int32) → Option (Int32 × (Nat → Int32))
  | 0, _, _, _ => none
  | n + 1, v3, v4, M_s =>
    if x2 ≤ v4 then (ck (gi ((15 + (14 * x1)) + 1) 99) (some (v3, (upd M_s ((15 + (14 * x1)) + 1).toNatClampNeg 0)))) else ((f_X8_slateOf N M_s x1 v4).bind fun r_9 => (f_X8_many N M_s r_9).bind fun r_10 => if r_10 = 12 then (f_X8_takeUp_L50 N x1 x2 n v3 (v4 + 1) M_s) else ((f_X8_slateOf N M_s x1 v4).bind fun r_12 => (f_X8_leaves N M_s r_12 (-1)).bind fun r_13 => f_X8_takeUp_L50 N x1 x2 n (v3 + 1) (v4 + 1) r_13))
def f_X8_takeUp (N : Nat) (M_s : Nat → Int32) (x1 : Int32) : Option (Int32 × (Nat → Int32)) :=
  (f_X8_isRow N M_s x1).bind fun r_1 => if (b2i r_1) = 0 then (some ((-1), M_s)) else ((f_X8_isLaid N M_s x1).bind fun r_3 => if (b2i r_3) = 0 then (some ((-3), M_s)) else ((f_X8_cutOf N M_s x1).bind fun r_5 => if r_5 ≤ 0 then ((f_X8_slates N M_s x1).bind fun r_7 => f_X8_takeUp_L50 N x1 r_7 N 0 0 M_s) else ((f_X8_slates N M_s x1).bind fun r_24 => f_X8_takeUp_L50 N x1 (r_24 - 1) N 0 0 M_s)))
set_option maxHeartbeats 4000000 in
set_option maxRecDepth 100000 in
theorem k_X8_takeUp (l : Launch) (dC : Nat → ClassId) (dI : Nat → Nat → Nat) (cI cZ cS : ClassId) (N : Nat) (aM aM_s : Nat) (fs_M : List Value) (sz : Nat) (M_s : Nat → Int32) (x1 : Int32) (hf_M_s : fs_M[0]? = some (.ref aM_s)) (res : Int32 × (Nat → Int32)) (h : f_X8_takeUp N M_s x1 = some res) : Met l yX8_takeUp wsX8_takeUp ({ frames := 3, cells := 0, slots := 0, locals := 66 }) (va_Pc [.ref aM, .int x1] (preW (dC, dI) cI cZ cS [(aM, .inr (7, fs_M)), (aM_s, .inl (cI, 99, .inl M_s))] sz)) (va_Qi (fun (r : Int32) (_ : Unit) => r = res.1) (fun _ => qW (dC, dI) cI cZ cS (va_A [(aM, .inr (7, fs_M)), (aM_s, .inl (cI, 99, .inl M_s))] sz) [(aM, .inr (7, fs_M)), (aM_s, .inl (cI, 99, .inl res.2))]) (va_A [(aM, .inr (7, fs_M)), (aM_s, .inl (cI, 99, .inl M_s))] sz)) 0 0 (va_A [(aM, .inr (7, fs_M)), (aM_s, .inl (cI, 99, .inl M_s))] sz) := by
  refine Met.ofW (cc := cX8_takeUp) (maxL := 5) (ret := (some .int)) (by decide) rfl ?_
  intro p e s m args below meth c s₁ B hml hv
  obtain ⟨rfl, hsz, hP, hK, hD0⟩ := hv
  have hx := B.exec
  have hb := B.bytes
  have hr := B.returns
  have hts := atoms_spec (ws := wsX8_takeUp) B.pre
  have hown : s.vm.findClass RX8 = some m.cls := findClass_of_methodNamed B.named
  have hlocks := B.notSynchronized
  subst hsz
  have hD := hD0.self (sz := s.heap.size)
  generalize hAe : va_A [(aM, .inr (7, fs_M)), (aM_s, .inl (cI, 99, .inl M_s))] s.heap.size = A at hD ⊢
  have hA : ∀ q : Nat, s.heap.size ≤ q → A q := fun q h => by rw [← hAe]; exact Or.inr h
  have hS : va_S A s.heap s.heap [] := va_S.rf
  have hl := lv_entry ([.ref aM, .int x1]) (n := 5) (Nat.le_of_ble_eq_true rfl)
  rw [lg_entry_eq]
  generalize (lg_sl ([.ref aM, .int x1]) ++ List.replicate (5 - (lg_sl ([.ref aM, .int x1])).length) Slot.unset).toArray = ls at hl ⊢
  have hl : lv_has ls 5 [(0, .ref aM), (1, .int x1)] := hl
  unfold f_X8_takeUp at h
  refine lv_aload_n hx hb dX8_takeUp_0 rfl (lv_at hl 0 rfl) ?_
  refine lv_iload_n hx hb dX8_takeUp_1 rfl (lv_at hl 1 rfl) ?_
  obtain ⟨r_1, hg, h⟩ := bd_some h
  refine rdV (As := [.int x1]) (rest := []) (ci := 7) ⟨hx, hb, hml, hown, hts⟩ (k_X8_isRow l dC dI cI cZ cS N aM aM_s fs_M M_s x1 hf_M_s r_1 hg) (cwV 1 hts gX8_takeUp_X8_isRow rfl rfl rfl cd_X8_isRow ⟨Nat.le_of_ble_eq_true rfl, Nat.le_of_ble_eq_true rfl⟩) hP hD hK [0, 1] (by decide) rfl rfl rfl rfl hl.1 rfl (Nat.le_of_ble_eq_true rfl) dX8_takeUp_2 ⟨Nat.zero_le _, Nat.zero_le _⟩ ?_
  refine lv_if_ne (tgt := 10) hx hb dX8_takeUp_5 (by decide) (fun c_2 => ?_) (fun c_2 => ?_)
  · have h := it_n c_2 h
    refine lv_aload_n hx hb dX8_takeUp_10 rfl (lv_at hl 0 rfl) ?_
    refine lv_iload_n hx hb dX8_takeUp_11 rfl (lv_at hl 1 rfl) ?_
    obtain ⟨r_3, hg, h⟩ := bd_some h
    refine rdV (As := [.int x1]) (rest := []) (ci := 7) ⟨hx, hb, hml, hown, hts⟩ (k_X8_isLaid l dC dI cI cZ cS N aM aM_s fs_M M_s x1 hf_M_s r_3 hg) (cwV 1 hts gX8_takeUp_X8_isLaid rfl rfl rfl cd_X8_isLaid ⟨Nat.le_of_ble_eq_true rfl, Nat.le_of_ble_eq_true rfl⟩) hP hD hK [0, 1] (by decide) rfl rfl rfl rfl hl.1 rfl (Nat.le_of_ble_eq_true rfl) dX8_takeUp_12 ⟨Nat.zero_le _, Nat.zero_le _⟩ ?_
    refine lv_if_ne (tgt := 21) hx hb dX8_takeUp_15 (by decide) (fun c_4 => ?_) (fun c_4 => ?_)
    · have h := it_n c_4 h
      refine lv_aload_n hx hb dX8_takeUp_21 rfl (lv_at hl 0 rfl) ?_
      refine lv_iload_n hx hb dX8_takeUp_22 rfl (lv_at hl 1 rfl) ?_
      obtain ⟨r_5, hg, h⟩ := bd_some h
      refine rdV (As := [.int x1]) (rest := []) (ci := 7) ⟨hx, hb, hml, hown, hts⟩ (k_X8_cutOf l dC dI cI cZ cS N aM aM_s fs_M M_s x1 hf_M_s r_5 hg) (cwV 1 hts gX8_takeUp_X8_cutOf rfl rfl rfl cd_X8_cutOf ⟨Nat.le_of_ble_eq_true rfl, Nat.le_of_ble_eq_true rfl⟩) hP hD hK [0, 1] (by decide) rfl rfl rfl rfl hl.1 rfl (Nat.le_of_ble_eq_true rfl) dX8_takeUp_23 ⟨Nat.zero_le _, Nat.zero_le _⟩ ?_
      refine lv_if_le (tgt := 39) hx hb dX8_takeUp_26 (by decide) (fun c_6 => ?_) (fun c_6 => ?_)
      · have h := it_p c_6 h
        refine lv_aload_n hx hb dX8_takeUp_39 rfl (lv_at hl 0 rfl) ?_
        refine lv_iload_n hx hb dX8_takeUp_40 rfl (lv_at hl 1 rfl) ?_
        obtain ⟨r_7, hg, h⟩ := bd_some h
        refine rdV (As := [.int x1]) (rest := []) (ci := 7) ⟨hx, hb, hml, hown, hts⟩ (k_X8_slates l dC dI cI cZ cS N aM aM_s fs_M M_s x1 hf_M_s r_7 hg) (cwV 1 hts gX8_takeUp_X8_slates rfl rfl rfl cd_X8_slates ⟨Nat.le_of_ble_eq_true rfl, Nat.le_of_ble_eq_true rfl⟩) hP hD hK [0, 1] (by decide) rfl rfl rfl rfl hl.1 rfl (Nat.le_of_ble_eq_true rfl) dX8_takeUp_41 ⟨Nat.zero_le _, Nat.zero_le _⟩ ?_
        refine lv_istore_n (lv' := [(2, .int r_7), (0, .ref aM), (1, .int x1)]) hx hb dX8_takeUp_44 rfl hl (by decide) rfl (fun ls hl => ?_)
        refine lv_iconst (v := 0) hx hb dX8_takeUp_45 (by decide) ?_
        refine lv_istore_n (lv' := [(3, .int 0), (2, .int r_7), (0, .ref aM), (1, .int x1)]) hx hb dX8_takeUp_46 rfl hl (by decide) rfl (fun ls hl => ?_)
        refine lv_iconst (v := 0) hx hb dX8_takeUp_47 (by decide) ?_
        refine lv_istore (lv' := [(4, .int 0), (3, .int 0), (2, .int r_7), (0, .ref aM), (1, .int x1)]) hx hb dX8_takeUp_48 hl (by decide) rfl (fun ls hl => ?_)
        have L50_13 : ∀ (n_14 : Nat) (v3_15 : Int32) (v4_16 : Int32) (M_s_17 : Nat → Int32) (ls : Array Slot) (H : Heap) (locs : List Loc), f_X8_takeUp_L50 N x1 r_7 n_14 v3_15 v4_16 M_s_17 = some res → lv_has ls 5 [(0, .ref aM), (1, .int x1), (2, .int r_7), (3, .int v3_15), (4, .int v4_16)] → va_P (dC, dI) vwCl [(aM, .inr (7, fs_M)), (aM_s, .inl (cI, 99, .inl M_s_17))] H → va_D A [(aM, .inr (7, fs_M)), (aM_s, .inl (cI, 99, .inl M_s_17))] → va_S A s.heap H locs → W p l e (headSpec wsX8_takeUp ({ frames := 3, cells := 0, slots := 0, locals := 66 })).room s m ([.ref aM, .int x1] : List Value).toArray below meth c H locs 0 0 (MQ below (va_Qi (fun (r : Int32) (_ : Unit) => r = res.1) (fun _ => qW (dC, dI) cI cZ cS A [(aM, .inr (7, fs_M)), (aM_s, .inl (cI, 99, .inl res.2))]) A) ([.ref aM, .int x1] : List Value).toArray s 0 0 A) (F0 m 50 ls []) := by
          intro n_14
          induction n_14 with
          | zero =>
            intro v3_15 v4_16 M_s_17 ls H locs h
            simp only [f_X8_takeUp_L50] at h
            try exact absurd h (by simp)
          | succ n_14 ihn_14 =>
            intro v3_15 v4_16 M_s_17 ls H locs h hl hP hD hS
            rw [f_X8_takeUp_L50] at h
            refine lv_iload hx hb dX8_takeUp_50 (lv_at hl 4 rfl) ?_
            refine lv_iload_n hx hb dX8_takeUp_52 rfl (lv_at hl 2 rfl) ?_
            refine lv_icmp_ge (tgt := 96) hx hb dX8_takeUp_53 (by decide) (fun c_18 => ?_) (fun c_18 => ?_)
            · have h := it_p c_18 h
              refine lv_aload_n hx hb dX8_takeUp_96 rfl (lv_at hl 0 rfl) ?_
              refine va_get (D := (dC, dI)) (ci := 7) (v := .ref aM_s) (C := RX8) (T := TX8) (N := 37) hx hb hts (fun _ h => List.mem_cons_of_mem _ (List.mem_append_right _ h)) hown hK hP 0 rfl rfl 0 (by decide) (hts (.fieldLink RX8 9 "SlateRowsModel" "s" "[I") (by decide +kernel)) (fun _ h9 => h9) hf_M_s dX8_takeUp_97 ?_
              refine lv_bipush (v := 15) hx hb dX8_takeUp_100 (by decide) ?_
              refine lv_bipush (v := 14) hx hb dX8_takeUp_102 (by decide) ?_
              refine lv_iload_n hx hb dX8_takeUp_104 rfl (lv_at hl 1 rfl) ?_
              refine lv_imul hx hb dX8_takeUp_105 ?_
              refine lv_iadd hx hb dX8_takeUp_106 ?_
              refine lv_iconst (v := 1) hx hb dX8_takeUp_107 (by decide) ?_
              refine lv_iadd hx hb dX8_takeUp_108 ?_
              refine lv_iconst (v := 0) hx hb dX8_takeUp_109 (by decide) ?_
              obtain ⟨hi, h⟩ := ck_some h
              refine va_iast hx hb hK hP hD hS 1 0 rfl rfl (gi_in hi) dX8_takeUp_110 (fun H locs hP hD hS => ?_)
              have hP : va_P (dC, dI) vwCl [(aM, .inr (7, fs_M)), (aM_s, .inl (cI, 99, .inl (upd M_s_17 ((15 + (14 * x1)) + 1).toNatClampNeg 0)))] H := hP
              have hD : va_D A [(aM, .inr (7, fs_M)), (aM_s, .inl (cI, 99, .inl (upd M_s_17 ((15 + (14 * x1)) + 1).toNatClampNeg 0)))] := hD
              refine lv_iload_n hx hb dX8_takeUp_111 rfl (lv_at hl 3 rfl) ?_
              have h := Option.some.inj h
              exact W.iret hx hb hr (fun t ht hW => ⟨⟨_, (), rfl, by rw [← h], by (try rw [← h]); rw [ht]; exact hP, va_K.moved hW.alike hK, by (try rw [← h]); exact hD⟩, hS.F ht⟩) hS.2.2 dX8_takeUp_112
            · have h := it_n c_18 h
              refine lv_aload_n hx hb dX8_takeUp_56 rfl (lv_at hl 0 rfl) ?_
              refine lv_aload_n hx hb dX8_takeUp_57 rfl (lv_at hl 0 rfl) ?_
              refine lv_iload_n hx hb dX8_takeUp_58 rfl (lv_at hl 1 rfl) ?_
              refine lv_iload hx hb dX8_takeUp_59 (lv_at hl 4 rfl) ?_
              obtain ⟨r_19, hg, h⟩ := bd_some h
              refine rdV (As := [.int x1, .int v4_16]) (rest := [.ref aM]) (ci := 7) ⟨hx, hb, hml, hown, hts⟩ (k_X8_slateOf l dC dI cI cZ cS N aM aM_s fs_M M_s_17 x1 v4_16 hf_M_s r_19 hg) (cwV 2 hts gX8_takeUp_X8_slateOf rfl rfl rfl cd_X8_slateOf ⟨Nat.le_of_ble_eq_true rfl, Nat.le_of_ble_eq_true rfl⟩) hP hD hK [0, 1] (by decide) rfl rfl rfl rfl hl.1 rfl (Nat.le_of_ble_eq_true rfl) dX8_takeUp_61 ⟨Nat.zero_le _, Nat.zero_le _⟩ ?_
              obtain ⟨r_20, hg, h⟩ := bd_some h
              refine rdV (As := [.int r_19]) (rest := []) (ci := 7) ⟨hx, hb, hml, hown, hts⟩ (k_X8_many l dC dI cI cZ cS N aM aM_s fs_M M_s_17 r_19 hf_M_s r_20 hg) (cwV 1 hts gX8_takeUp_X8_many rfl rfl rfl cd_X8_many ⟨Nat.le_of_ble_eq_true rfl, Nat.le_of_ble_eq_true rfl⟩) hP hD hK [0, 1] (by decide) rfl rfl rfl rfl hl.1 rfl (Nat.le_of_ble_eq_true rfl) dX8_takeUp_64 ⟨Nat.zero_le _, Nat.zero_le _⟩ ?_
              refine lv_bipush (v := 12) hx hb dX8_takeUp_67 (by decide) ?_
              refine lv_icmp_ne (tgt := 75) hx hb dX8_takeUp_69 (by decide) (fun c_21 => ?_) (fun c_21 => ?_)
              · have h := it_n c_21 h
                refine lv_aload_n hx hb dX8_takeUp_75 rfl (lv_at hl 0 rfl) ?_
                refine lv_aload_n hx hb dX8_takeUp_76 rfl (lv_at hl 0 rfl) ?_
                refine lv_iload_n hx hb dX8_takeUp_77 rfl (lv_at hl 1 rfl) ?_
                refine lv_iload hx hb dX8_takeUp_78 (lv_at hl 4 rfl) ?_
                obtain ⟨r_22, hg, h⟩ := bd_some h
                refine rdV (As := [.int x1, .int v4_16]) (rest := [.ref aM]) (ci := 7) ⟨hx, hb, hml, hown, hts⟩ (k_X8_slateOf l dC dI cI cZ cS N aM aM_s fs_M M_s_17 x1 v4_16 hf_M_s r_22 hg) (cwV 2 hts gX8_takeUp_X8_slateOf rfl rfl rfl cd_X8_slateOf ⟨Nat.le_of_ble_eq_true rfl, Nat.le_of_ble_eq_true rfl⟩) hP hD hK [0, 1] (by decide) rfl rfl rfl rfl hl.1 rfl (Nat.le_of_ble_eq_true rfl) dX8_takeUp_80 ⟨Nat.zero_le _, Nat.zero_le _⟩ ?_
                refine lv_iconst (v := (-1)) hx hb dX8_takeUp_83 (by decide) ?_
                obtain ⟨r_23, hg, h⟩ := bd_some h
                refine mtVv (As := [.int r_22, .int (-1)]) (rest := []) (ci := 7) (wr := []) (w2 := [(aM, .inr (7, fs_M)), (aM_s, .inl (cI, 99, .inl r_23))]) ⟨hx, hb, hml, hown, hts⟩ (k_X8_leaves l dC dI cI cZ cS N aM aM_s fs_M _ M_s_17 r_22 (-1) hf_M_s r_23 hg) (cwV 2 hts gX8_takeUp_X8_leaves rfl rfl rfl cd_X8_leaves ⟨Nat.le_of_ble_eq_true rfl, Nat.le_of_ble_eq_true rfl⟩) hP hD hK hS hA [0, 1] [] [0, 1] (by decide) (by decide) (by decide) (by decide) rfl rfl rfl rfl rfl rfl hl.1 rfl (Nat.le_of_ble_eq_true rfl) dX8_takeUp_84 ⟨Nat.zero_le _, Nat.zero_le _⟩ (fun H locs hP hD hS => ?_)
                refine lv_iinc (v := (v3_15 + 1)) (lv' := [(3, .int (v3_15 + 1)), (0, .ref aM), (1, .int x1), (2, .int r_7), (4, .int v4_16)]) hx hb dX8_takeUp_87 hl (k := 3) rfl rfl (by decide) rfl (fun ls hl => ?_)
                refine lv_iinc (v := (v4_16 + 1)) (lv' := [(4, .int (v4_16 + 1)), (3, .int (v3_15 + 1)), (0, .ref aM), (1, .int x1), (2, .int r_7)]) hx hb dX8_takeUp_90 hl (k := 4) rfl rfl (by decide) rfl (fun ls hl => ?_)
                refine lv_goto (tgt := 50) hx hb dX8_takeUp_93 (by decide) ?_
                exact ihn_14 (v3_15 + 1) (v4_16 + 1) r_23 ls _ _ h (lv_sub hl [2, 3, 4, 1, 0] rfl) hP hD hS
              · have h := it_p c_21 h
                refine lv_goto (tgt := 90) hx hb dX8_takeUp_72 (by decide) ?_
                refine lv_iinc (v := (v4_16 + 1)) (lv' := [(4, .int (v4_16 + 1)), (0, .ref aM), (1, .int x1), (2, .int r_7), (3, .int v3_15)]) hx hb dX8_takeUp_90 hl (k := 4) rfl rfl (by decide) rfl (fun ls hl => ?_)
                refine lv_goto (tgt := 50) hx hb dX8_takeUp_93 (by decide) ?_
                exact ihn_14 v3_15 (v4_16 + 1) M_s_17 ls _ _ h (lv_sub hl [1, 2, 3, 4, 0] rfl) hP hD hS
        exact L50_13 N 0 0 M_s ls _ _ h (lv_sub hl [3, 4, 2, 1, 0] rfl) hP hD hS
      · have h := it_n c_6 h
        refine lv_aload_n hx hb dX8_takeUp_29 rfl (lv_at hl 0 rfl) ?_
        refine lv_iload_n hx hb dX8_takeUp_30 rfl (lv_at hl 1 rfl) ?_
        obtain ⟨r_24, hg, h⟩ := bd_some h
        refine rdV (As := [.int x1]) (rest := []) (ci := 7) ⟨hx, hb, hml, hown, hts⟩ (k_X8_slates l dC dI cI cZ cS N aM aM_s fs_M M_s x1 hf_M_s r_24 hg) (cwV 1 hts gX8_takeUp_X8_slates rfl rfl rfl cd_X8_slates ⟨Nat.le_of_ble_eq_true rfl, Nat.le_of_ble_eq_true rfl⟩) hP hD hK [0, 1] (by decide) rfl rfl rfl rfl hl.1 rfl (Nat.le_of_ble_eq_true rfl) dX8_takeUp_31 ⟨Nat.zero_le _, Nat.zero_le _⟩ ?_
        refine lv_iconst (v := 1) hx hb dX8_takeUp_34 (by decide) ?_
        refine lv_isub hx hb dX8_takeUp_35 ?_
        refine lv_goto (tgt := 44) hx hb dX8_takeUp_36 (by decide) ?_
        refine lv_istore_n (lv' := [(2, .int (r_24 - 1)), (0, .ref aM), (1, .int x1)]) hx hb dX8_takeUp_44 rfl hl (by decide) rfl (fun ls hl => ?_)
        refine lv_iconst (v := 0) hx hb dX8_takeUp_45 (by decide) ?_
        refine lv_istore_n (lv' := [(3, .int 0), (2, .int (r_24 - 1)), (0, .ref aM), (1, .int x1)]) hx hb dX8_takeUp_46 rfl hl (by decide) rfl (fun ls hl => ?_)
        refine lv_iconst (v := 0) hx hb dX8_takeUp_47 (by decide) ?_
        refine lv_istore (lv' := [(4, .int 0), (3, .int 0), (2, .int (r_24 - 1)), (0, .ref aM), (1, .int x1)]) hx hb dX8_takeUp_48 hl (by decide) rfl (fun ls hl => ?_)
        have L50_24 : ∀ (n_25 : Nat) (v3_26 : Int32) (v4_27 : Int32) (M_s_28 : Nat → Int32) (ls : Array Slot) (H : Heap) (locs : List Loc), f_X8_takeUp_L50 N x1 (r_24 - 1) n_25 v3_26 v4_27 M_s_28 = some res → lv_has ls 5 [(0, .ref aM), (1, .int x1), (2, .int (r_24 - 1)), (3, .int v3_26), (4, .int v4_27)] → va_P (dC, dI) vwCl [(aM, .inr (7, fs_M)), (aM_s, .inl (cI, 99, .inl M_s_28))] H → va_D A [(aM, .inr (7, fs_M)), (aM_s, .inl (cI, 99, .inl M_s_28))] → va_S A s.heap H locs → W p l e (headSpec wsX8_takeUp ({ frames := 3, cells := 0, slots := 0, locals := 66 })).room s m ([.ref aM, .int x1] : List Value).toArray below meth c H locs 0 0 (MQ below (va_Qi (fun (r : Int32) (_ : Unit) => r = res.1) (fun _ => qW (dC, dI) cI cZ cS A [(aM, .inr (7, fs_M)), (aM_s, .inl (cI, 99, .inl res.2))]) A) ([.ref aM, .int x1] : List Value).toArray s 0 0 A) (F0 m 50 ls []) := by
          intro n_25
          induction n_25 with
          | zero =>
            intro v3_26 v4_27 M_s_28 ls H locs h
            simp only [f_X8_takeUp_L50] at h
            try exact absurd h (by simp)
          | succ n_25 ihn_25 =>
            intro v3_26 v4_27 M_s_28 ls H locs h hl hP hD hS
            rw [f_X8_takeUp_L50] at h
            refine lv_iload hx hb dX8_takeUp_50 (lv_at hl 4 rfl) ?_
            refine lv_iload_n hx hb dX8_takeUp_52 rfl (lv_at hl 2 rfl) ?_
            refine lv_icmp_ge (tgt := 96) hx hb dX8_takeUp_53 (by decide) (fun c_29 => ?_) (fun c_29 => ?_)
            · have h := it_p c_29 h
              refine lv_aload_n hx hb dX8_takeUp_96 rfl (lv_at hl 0 rfl) ?_
              refine va_get (D := (dC, dI)) (ci := 7) (v := .ref aM_s) (C := RX8) (T := TX8) (N := 37) hx hb hts (fun _ h => List.mem_cons_of_mem _ (List.mem_append_right _ h)) hown hK hP 0 rfl rfl 0 (by decide) (hts (.fieldLink RX8 9 "SlateRowsModel" "s" "[I") (by decide +kernel)) (fun _ h9 => h9) hf_M_s dX8_takeUp_97 ?_
              refine lv_bipush (v := 15) hx hb dX8_takeUp_100 (by decide) ?_
              refine lv_bipush (v := 14) hx hb dX8_takeUp_102 (by decide) ?_
              refine lv_iload_n hx hb dX8_takeUp_104 rfl (lv_at hl 1 rfl) ?_
              refine lv_imul hx hb dX8_takeUp_105 ?_
              refine lv_iadd hx hb dX8_takeUp_106 ?_
              refine lv_iconst (v := 1) hx hb dX8_takeUp_107 (by decide) ?_
              refine lv_iadd hx hb dX8_takeUp_108 ?_
              refine lv_iconst (v := 0) hx hb dX8_takeUp_109 (by decide) ?_
              obtain ⟨hi, h⟩ := ck_some h
              refine va_iast hx hb hK hP hD hS 1 0 rfl rfl (gi_in hi) dX8_takeUp_110 (fun H locs hP hD hS => ?_)
              have hP : va_P (dC, dI) vwCl [(aM, .inr (7, fs_M)), (aM_s, .inl (cI, 99, .inl (upd M_s_28 ((15 + (14 * x1)) + 1).toNatClampNeg 0)))] H := hP
              have hD : va_D A [(aM, .inr (7, fs_M)), (aM_s, .inl (cI, 99, .inl (upd M_s_28 ((15 + (14 * x1)) + 1).toNatClampNeg 0)))] := hD
              refine lv_iload_n hx hb dX8_takeUp_111 rfl (lv_at hl 3 rfl) ?_
              have h := Option.some.inj h
              exact W.iret hx hb hr (fun t ht hW => ⟨⟨_, (), rfl, by rw [← h], by (try rw [← h]); rw [ht]; exact hP, va_K.moved hW.alike hK, by (try rw [← h]); exact hD⟩, hS.F ht⟩) hS.2.2 dX8_takeUp_112
            · have h := it_n c_29 h
              refine lv_aload_n hx hb dX8_takeUp_56 rfl (lv_at hl 0 rfl) ?_
              refine lv_aload_n hx hb dX8_takeUp_57 rfl (lv_at hl 0 rfl) ?_
              refine lv_iload_n hx hb dX8_takeUp_58 rfl (lv_at hl 1 rfl) ?_
              refine lv_iload hx hb dX8_takeUp_59 (lv_at hl 4 rfl) ?_
              obtain ⟨r_30, hg, h⟩ := bd_some h
              refine rdV (As := [.int x1, .int v4_27]) (rest := [.ref aM]) (ci := 7) ⟨hx, hb, hml, hown, hts⟩ (k_X8_slateOf l dC dI cI cZ cS N aM aM_s fs_M M_s_28 x1 v4_27 hf_M_s r_30 hg) (cwV 2 hts gX8_takeUp_X8_slateOf rfl rfl rfl cd_X8_slateOf ⟨Nat.le_of_ble_eq_true rfl, Nat.le_of_ble_eq_true rfl⟩) hP hD hK [0, 1] (by decide) rfl rfl rfl rfl hl.1 rfl (Nat.le_of_ble_eq_true rfl) dX8_takeUp_61 ⟨Nat.zero_le _, Nat.zero_le _⟩ ?_
              obtain ⟨r_31, hg, h⟩ := bd_some h
              refine rdV (As := [.int r_30]) (rest := []) (ci := 7) ⟨hx, hb, hml, hown, hts⟩ (k_X8_many l dC dI cI cZ cS N aM aM_s fs_M M_s_28 r_30 hf_M_s r_31 hg) (cwV 1 hts gX8_takeUp_X8_many rfl rfl rfl cd_X8_many ⟨Nat.le_of_ble_eq_true rfl, Nat.le_of_ble_eq_true rfl⟩) hP hD hK [0, 1] (by decide) rfl rfl rfl rfl hl.1 rfl (Nat.le_of_ble_eq_true rfl) dX8_takeUp_64 ⟨Nat.zero_le _, Nat.zero_le _⟩ ?_
              refine lv_bipush (v := 12) hx hb dX8_takeUp_67 (by decide) ?_
              refine lv_icmp_ne (tgt := 75) hx hb dX8_takeUp_69 (by decide) (fun c_32 => ?_) (fun c_32 => ?_)
              · have h := it_n c_32 h
                refine lv_aload_n hx hb dX8_takeUp_75 rfl (lv_at hl 0 rfl) ?_
                refine lv_aload_n hx hb dX8_takeUp_76 rfl (lv_at hl 0 rfl) ?_
                refine lv_iload_n hx hb dX8_takeUp_77 rfl (lv_at hl 1 rfl) ?_
                refine lv_iload hx hb dX8_takeUp_78 (lv_at hl 4 rfl) ?_
                obtain ⟨r_33, hg, h⟩ := bd_some h
                refine rdV (As := [.int x1, .int v4_27]) (rest := [.ref aM]) (ci := 7) ⟨hx, hb, hml, hown, hts⟩ (k_X8_slateOf l dC dI cI cZ cS N aM aM_s fs_M M_s_28 x1 v4_27 hf_M_s r_33 hg) (cwV 2 hts gX8_takeUp_X8_slateOf rfl rfl rfl cd_X8_slateOf ⟨Nat.le_of_ble_eq_true rfl, Nat.le_of_ble_eq_true rfl⟩) hP hD hK [0, 1] (by decide) rfl rfl rfl rfl hl.1 rfl (Nat.le_of_ble_eq_true rfl) dX8_takeUp_80 ⟨Nat.zero_le _, Nat.zero_le _⟩ ?_
                refine lv_iconst (v := (-1)) hx hb dX8_takeUp_83 (by decide) ?_
                obtain ⟨r_34, hg, h⟩ := bd_some h
                refine mtVv (As := [.int r_33, .int (-1)]) (rest := []) (ci := 7) (wr := []) (w2 := [(aM, .inr (7, fs_M)), (aM_s, .inl (cI, 99, .inl r_34))]) ⟨hx, hb, hml, hown, hts⟩ (k_X8_leaves l dC dI cI cZ cS N aM aM_s fs_M _ M_s_28 r_33 (-1) hf_M_s r_34 hg) (cwV 2 hts gX8_takeUp_X8_leaves rfl rfl rfl cd_X8_leaves ⟨Nat.le_of_ble_eq_true rfl, Nat.le_of_ble_eq_true rfl⟩) hP hD hK hS hA [0, 1] [] [0, 1] (by decide) (by decide) (by decide) (by decide) rfl rfl rfl rfl rfl rfl hl.1 rfl (Nat.le_of_ble_eq_true rfl) dX8_takeUp_84 ⟨Nat.zero_le _, Nat.zero_le _⟩ (fun H locs hP hD hS => ?_)
                refine lv_iinc (v := (v3_26 + 1)) (lv' := [(3, .int (v3_26 + 1)), (0, .ref aM), (1, .int x1), (2, .int (r_24 - 1)), (4, .int v4_27)]) hx hb dX8_takeUp_87 hl (k := 3) rfl rfl (by decide) rfl (fun ls hl => ?_)
                refine lv_iinc (v := (v4_27 + 1)) (lv' := [(4, .int (v4_27 + 1)), (3, .int (v3_26 + 1)), (0, .ref aM), (1, .int x1), (2, .int (r_24 - 1))]) hx hb dX8_takeUp_90 hl (k := 4) rfl rfl (by decide) rfl (fun ls hl => ?_)
                refine lv_goto (tgt := 50) hx hb dX8_takeUp_93 (by decide) ?_
                exact ihn_25 (v3_26 + 1) (v4_27 + 1) r_34 ls _ _ h (lv_sub hl [2, 3, 4, 1, 0] rfl) hP hD hS
              · have h := it_p c_32 h
                refine lv_goto (tgt := 90) hx hb dX8_takeUp_72 (by decide) ?_
                refine lv_iinc (v := (v4_27 + 1)) (lv' := [(4, .int (v4_27 + 1)), (0, .ref aM), (1, .int x1), (2, .int (r_24 - 1)), (3, .int v3_26)]) hx hb dX8_takeUp_90 hl (k := 4) rfl rfl (by decide) rfl (fun ls hl => ?_)
                refine lv_goto (tgt := 50) hx hb dX8_takeUp_93 (by decide) ?_
                exact ihn_25 v3_26 (v4_27 + 1) M_s_28 ls _ _ h (lv_sub hl [1, 2, 3, 4, 0] rfl) hP hD hS
        exact L50_24 N 0 0 M_s ls _ _ h (lv_sub hl [3, 4, 2, 1, 0] rfl) hP hD hS
    · have h := it_p c_4 h
      refine lv_bipush (v := (-3)) hx hb dX8_takeUp_18 (by decide) ?_
      have h := Option.some.inj h
      exact W.iret hx hb hr (fun t ht hW => ⟨⟨_, (), rfl, by rw [← h], by (try rw [← h]); rw [ht]; exact hP, va_K.moved hW.alike hK, by (try rw [← h]); exact hD⟩, hS.F ht⟩) hS.2.2 dX8_takeUp_20
  · have h := it_p c_2 h
    refine lv_iconst (v := (-1)) hx hb dX8_takeUp_8 (by decide) ?_
    have h := Option.some.inj h
    exact W.iret hx hb hr (fun t ht hW => ⟨⟨_, (), rfl, by rw [← h], by (try rw [← h]); rw [ht]; exact hP, va_K.moved hW.alike hK, by (try rw [← h]); exact hD⟩, hS.F ht⟩) hS.2.2 dX8_takeUp_9
