theorem cd_X8_comes : yX8_comes.cls = RX8 ∧ yX8_comes.cls ≠ "java/lang/invoke/MethodHandle" ∧ yX8_comes.cls ≠ "java/lang/invoke/VarHandle" ∧ (parseMethodDescriptor yX8_comes.desc).map (fun d => d.parameters.length) = some 1 := by decide +kernel
theorem cd_X8_wrongRow : yX8_wrongRow.cls = RX8 ∧ yX8_wrongRow.cls ≠ "java/lang/invoke/MethodHandle" ∧ yX8_wrongRow.cls ≠ "java/lang/invoke/VarHandle" ∧ (parseMethodDescriptor yX8_wrongRow.desc).map (fun d => d.parameters.length) = some 2 := by decide +kernel
def f_X8_comes_L188 (N : Nat) (M_numbers : Nat → Int32) : Nat → Int32 → (Nat → Int32) → Option (Bool × (Nat → Int32))
  | 0, _, _ => none
  | n + 1, v3, M_read =>
    if 3 ≤ v3 then (ck (gi 1 99) (ck (gi 1 99) (some (true, (upd M_read (1 : Int32).toNatClampNeg ((M_read (1 : Int32).toNatClampNeg) + 1)))))) else (ck (gi 1 99) (ck (gi v3 3) (ck (gi ((3 + (3 * (M_read (1 : Int32).toNatClampNeg))) + v3) 99) (f_X8_comes_L188 N M_numbers n (v3 + 1) (upd M_read ((3 + (3 * (M_read (1 : Int32).toNatClampNeg))) + v3).toNatClampNeg (M_numbers v3.toNatClampNeg))))))
def f_X8_comes_L154 (N : Nat) (M_read : Nat → Int32) (M_numbers : Nat → Int32) (x2 : Int32) : Nat → Int32 → Option (Bool × (Nat → Int32))
  | 0, _ => none
  | n + 1, v3 =>
    ck (gi 1 99) (if (M_read (1 : Int32).toNatClampNeg) ≤ v3 then (f_X8_comes_L188 N M_numbers N 0 M_read) else (ck (gi (3 + (3 * v3)) 99) (if (M_read (3 + (3 * v3)).toNatClampNeg) = x2 then (some (false, M_read)) else (f_X8_comes_L154 N M_read M_numbers x2 n (v3 + 1)))))
def f_X8_comes (N : Nat) (M_read : Nat → Int32) (M_numbers : Nat → Int32) (x1 : Int32) : Option (Bool × (Nat → Int32)) :=
  ck (gi 0 3) (if x1 = 108 then (ck (gi 0 99) (if 20 < (M_numbers (0 : Int32).toNatClampNeg) then (some (false, (upd M_read (0 : Int32).toNatClampNeg (M_numbers (0 : Int32).toNatClampNeg)))) else (some (true, (upd M_read (0 : Int32).toNatClampNeg (M_numbers (0 : Int32).toNatClampNeg)))))) else (if x1 = 114 then ((f_X8_isIn N ((M_numbers (0 : Int32).toNatClampNeg).toInt64) 10 60).bind fun r_22 => if (b2i r_22) = 0 then (some (false, M_read)) else (ck (gi 2 99) (if (M_read (2 : Int32).toNatClampNeg) = 6 then (some (false, M_read)) else (ck (gi 2 99) (ck (gi (15 + (14 * (M_read (2 : Int32).toNatClampNeg))) 99) (ck (gi 2 99) (ck (gi ((15 + (14 * ((upd M_read (15 + (14 * (M_read (2 : Int32).toNatClampNeg))).toNatClampNeg (M_numbers (0 : Int32).toNatClampNeg)) (2 : Int32).toNatClampNeg))) + 1) 99) (ck (gi 2 99) (ck (gi 2 99) (some (true, (upd (upd (upd M_read (15 + (14 * (M_read (2 : Int32).toNatClampNeg))).toNatClampNeg (M_numbers (0 : Int32).toNatClampNeg)) ((15 + (14 * ((upd M_read (15 + (14 * (M_read (2 : Int32).toNatClampNeg))).toNatClampNeg (M_numbers (0 : Int32).toNatClampNeg)) (2 : Int32).toNatClampNeg))) + 1).toNatClampNeg 0) (2 : Int32).toNatClampNeg (((upd (upd M_read (15 + (14 * (M_read (2 : Int32).toNatClampNeg))).toNatClampNeg (M_numbers (0 : Int32).toNatClampNeg)) ((15 + (14 * ((upd M_read (15 + (14 * (M_read (2 : Int32).toNatClampNeg))).toNatClampNeg (M_numbers (0 : Int32).toNatClampNeg)) (2 : Int32).toNatClampNeg))) + 1).toNatClampNeg 0) (2 : Int32).toNatClampNeg) + 1))))))))))))) else ((f_X8_isIn N ((M_numbers (0 : Int32).toNatClampNeg).toInt64) 5 30).bind fun r_3 => if (b2i r_3) = 0 then (some (false, M_read)) else (ck (gi 1 3) (if 12 < (M_numbers (1 : Int32).toNatClampNeg) then (some (false, M_read)) else (ck (gi 1 99) (if (M_read (1 : Int32).toNatClampNeg) = 4 then (some (false, M_read)) else (f_X8_comes_L154 N M_read M_numbers (M_numbers (0 : Int32).toNatClampNeg) N 0))))))))
set_option maxHeartbeats 4000000 in
set_option maxRecDepth 100000 in
theorem k_X8_comes (l : Launch) (dC : Nat → ClassId) (dI : Nat → Nat → Nat) (cI cZ cS : ClassId) (N : Nat) (aM aM_read aM_numbers : Nat) (fs_M : List Value) (sz : Nat) (M_read : Nat → Int32) (M_numbers : Nat → Int32) (x1 : Int32) (hf_M_read : fs_M[2]? = some (.ref aM_read)) (hf_M_numbers : fs_M[17]? = some (.ref aM_numbers)) (res : Bool × (Nat → Int32)) (h : f_X8_comes N M_read M_numbers x1 = some res) : Met l yX8_comes wsX8_comes ({ frames := 1, cells := 0, slots := 0, locals := 25 }) (va_Pc [.ref aM, .int x1] (preW (dC, dI) cI cZ cS [(aM, .inr (7, fs_M)), (aM_read, .inl (cI, 99, .inl M_read)), (aM_numbers, .inl (cI, 3, .inl M_numbers))] sz)) (va_Qi (fun (r : Int32) (_ : Unit) => r = b2i res.1) (fun _ => qW (dC, dI) cI cZ cS (va_A [(aM, .inr (7, fs_M)), (aM_read, .inl (cI, 99, .inl M_read)), (aM_numbers, .inl (cI, 3, .inl M_numbers))] sz) [(aM, .inr (7, fs_M)), (aM_read, .inl (cI, 99, .inl res.2)), (aM_numbers, .inl (cI, 3, .inl M_numbers))]) (va_A [(aM, .inr (7, fs_M)), (aM_read, .inl (cI, 99, .inl M_read)), (aM_numbers, .inl (cI, 3, .inl M_numbers))] sz)) 0 0 (va_A [(aM, .inr (7, fs_M)), (aM_read, .inl (cI, 99, .inl M_read)), (aM_numbers, .inl (cI, 3, .inl M_numbers))] sz) := by
  refine Met.ofW (cc := cX8_comes) (maxL := 4) (ret := (some .boolean)) (by decide) rfl ?_
  intro p e s m args below meth c s₁ B hml hv
  obtain ⟨rfl, hsz, hP, hK, hD0⟩ := hv
  have hx := B.exec
  have hb := B.bytes
  have hr := B.returns
  have hts := atoms_spec (ws := wsX8_comes) B.pre
  have hown : s.vm.findClass RX8 = some m.cls := findClass_of_methodNamed B.named
  have hlocks := B.notSynchronized
  subst hsz
  have hD := hD0.self (sz := s.heap.size)
  generalize hAe : va_A [(aM, .inr (7, fs_M)), (aM_read, .inl (cI, 99, .inl M_read)), (aM_numbers, .inl (cI, 3, .inl M_numbers))] s.heap.size = A at hD ⊢
  have hA : ∀ q : Nat, s.heap.size ≤ q → A q := fun q h => by rw [← hAe]; exact Or.inr h
  have hS : va_S A s.heap s.heap [] := va_S.rf
  have hl := lv_entry ([.ref aM, .int x1]) (n := 4) (Nat.le_of_ble_eq_true rfl)
  rw [lg_entry_eq]
  generalize (lg_sl ([.ref aM, .int x1]) ++ List.replicate (4 - (lg_sl ([.ref aM, .int x1])).length) Slot.unset).toArray = ls at hl ⊢
  have hl : lv_has ls 4 [(0, .ref aM), (1, .int x1)] := hl
  unfold f_X8_comes at h
  refine lv_aload_n hx hb dX8_comes_0 rfl (lv_at hl 0 rfl) ?_
  refine va_get (D := (dC, dI)) (ci := 7) (v := .ref aM_numbers) (C := RX8) (T := TX8) (N := 37) hx hb hts (fun _ h => List.mem_cons_of_mem _ (List.mem_append_right _ h)) hown hK hP 0 rfl rfl 17 (by decide) (hts (.fieldLink RX8 40 "SlateRowsModel" "numbers" "[I") (by decide +kernel)) (fun _ h9 => h9) hf_M_numbers dX8_comes_1 ?_
  refine lv_iconst (v := 0) hx hb dX8_comes_4 (by decide) ?_
  obtain ⟨hi, h⟩ := ck_some h
  refine va_iald hx hb hK hP 2 0 rfl rfl (gi_in hi) dX8_comes_5 ?_
  refine lv_istore_n (lv' := [(2, .int (M_numbers (0 : Int32).toNatClampNeg)), (0, .ref aM), (1, .int x1)]) hx hb dX8_comes_6 rfl hl (by decide) rfl (fun ls hl => ?_)
  refine lv_iload_n hx hb dX8_comes_7 rfl (lv_at hl 2 rfl) ?_
  refine lv_bipush (v := 108) hx hb dX8_comes_8 (by decide) ?_
  refine lv_icmp_ne (tgt := 32) hx hb dX8_comes_10 (by decide) (fun c_1 => ?_) (fun c_1 => ?_)
  · have h := it_n c_1 h
    refine lv_iload_n hx hb dX8_comes_32 rfl (lv_at hl 2 rfl) ?_
    refine lv_bipush (v := 114) hx hb dX8_comes_33 (by decide) ?_
    refine lv_icmp_ne (tgt := 115) hx hb dX8_comes_35 (by decide) (fun c_2 => ?_) (fun c_2 => ?_)
    · have h := it_n c_2 h
      refine lv_iload_n hx hb dX8_comes_115 rfl (lv_at hl 0 rfl) ?_
      refine lv_i2l hx hb dX8_comes_116 rfl ?_
      refine lv_ldc2 (v := 5) hx hb hown (hts (.constantLong RX8 108 (5)) (by decide +kernel)) dX8_comes_117 ?_
      refine lv_ldc2 (v := 30) hx hb hown (hts (.constantLong RX8 110 (30)) (by decide +kernel)) dX8_comes_120 ?_
      obtain ⟨r_3, hg, h⟩ := bd_some h
      refine rdS (As := [.long ((M_numbers (0 : Int32).toNatClampNeg).toInt64), .long 5, .long 30]) (rest := []) ⟨hx, hb, hml, hown, hts⟩ (k_X8_isIn l dC dI cI cZ cS N ((M_numbers (0 : Int32).toNatClampNeg).toInt64) 5 30 r_3 hg) (va_cwS 3 hts gX8_comes_X8_isIn rfl rfl rfl cd_X8_isIn ⟨Nat.le_of_ble_eq_true rfl, Nat.le_of_ble_eq_true rfl⟩) hP hD hK [] (by decide) rfl rfl hl.1 rfl (Nat.le_of_ble_eq_true rfl) dX8_comes_123 ⟨Nat.zero_le _, Nat.zero_le _⟩ ?_
      refine lv_if_eq (tgt := 150) hx hb dX8_comes_126 (by decide) (fun c_4 => ?_) (fun c_4 => ?_)
      · have h := it_p c_4 h
        refine lv_iconst (v := 0) hx hb dX8_comes_150 (by decide) ?_
        have h := Option.some.inj h
        exact W.zret (v := b2i false) hx hb hr (b2i_nar _) (fun t ht hW => ⟨⟨_, (), rfl, by rw [← h], by (try rw [← h]); rw [ht]; exact hP, va_K.moved hW.alike hK, by (try rw [← h]); exact hD⟩, hS.F ht⟩) hS.2.2 dX8_comes_151
      · have h := it_n c_4 h
        refine lv_aload_n hx hb dX8_comes_129 rfl (lv_at hl 1 rfl) ?_
        refine va_get (D := (dC, dI)) (ci := 7) (v := .ref aM_numbers) (C := RX8) (T := TX8) (N := 37) hx hb hts (fun _ h => List.mem_cons_of_mem _ (List.mem_append_right _ h)) hown hK hP 0 rfl rfl 17 (by decide) (hts (.fieldLink RX8 40 "SlateRowsModel" "numbers" "[I") (by decide +kernel)) (fun _ h9 => h9) hf_M_numbers dX8_comes_130 ?_
        refine lv_iconst (v := 1) hx hb dX8_comes_133 (by decide) ?_
        obtain ⟨hi, h⟩ := ck_some h
        refine va_iald hx hb hK hP 2 0 rfl rfl (gi_in hi) dX8_comes_134 ?_
        refine lv_bipush (v := 12) hx hb dX8_comes_135 (by decide) ?_
        refine lv_icmp_gt (tgt := 150) hx hb dX8_comes_137 (by decide) (fun c_5 => ?_) (fun c_5 => ?_)
        · have h := it_p c_5 h
          refine lv_iconst (v := 0) hx hb dX8_comes_150 (by decide) ?_
          have h := Option.some.inj h
          exact W.zret (v := b2i false) hx hb hr (b2i_nar _) (fun t ht hW => ⟨⟨_, (), rfl, by rw [← h], by (try rw [← h]); rw [ht]; exact hP, va_K.moved hW.alike hK, by (try rw [← h]); exact hD⟩, hS.F ht⟩) hS.2.2 dX8_comes_151
        · have h := it_n c_5 h
          refine lv_aload_n hx hb dX8_comes_140 rfl (lv_at hl 1 rfl) ?_
          refine va_get (D := (dC, dI)) (ci := 7) (v := .ref aM_read) (C := RX8) (T := TX8) (N := 37) hx hb hts (fun _ h => List.mem_cons_of_mem _ (List.mem_append_right _ h)) hown hK hP 0 rfl rfl 2 (by decide) (hts (.fieldLink RX8 16 "SlateRowsModel" "read" "[I") (by decide +kernel)) (fun _ h9 => h9) hf_M_read dX8_comes_141 ?_
          refine lv_iconst (v := 1) hx hb dX8_comes_144 (by decide) ?_
          obtain ⟨hi, h⟩ := ck_some h
          refine va_iald hx hb hK hP 1 0 rfl rfl (gi_in hi) dX8_comes_145 ?_
          refine lv_iconst (v := 4) hx hb dX8_comes_146 (by decide) ?_
          refine lv_icmp_ne (tgt := 152) hx hb dX8_comes_147 (by decide) (fun c_6 => ?_) (fun c_6 => ?_)
          · have h := it_n c_6 h
            refine lv_iconst (v := 0) hx hb dX8_comes_152 (by decide) ?_
            refine lv_istore_n (lv' := [(3, .int 0), (2, .int (M_numbers (0 : Int32).toNatClampNeg)), (0, .ref aM), (1, .int x1)]) hx hb dX8_comes_153 rfl hl (by decide) rfl (fun ls hl => ?_)
            have L154_13 : ∀ (n_14 : Nat) (v3_15 : Int32)  (ls : Array Slot) (H : Heap) (locs : List Loc), f_X8_comes_L154 N M_read M_numbers (M_numbers (0 : Int32).toNatClampNeg) n_14 v3_15 = some res → lv_has ls 4 [(0, .ref aM), (2, .int (M_numbers (0 : Int32).toNatClampNeg)), (3, .int v3_15)] → va_P (dC, dI) vwCl [(aM, .inr (7, fs_M)), (aM_read, .inl (cI, 99, .inl M_read)), (aM_numbers, .inl (cI, 3, .inl M_numbers))] H → va_D A [(aM, .inr (7, fs_M)), (aM_read, .inl (cI, 99, .inl M_read)), (aM_numbers, .inl (cI, 3, .inl M_numbers))] → va_S A s.heap H locs → W p l e (headSpec wsX8_comes ({ frames := 1, cells := 0, slots := 0, locals := 25 })).room s m ([.ref aM, .int x1] : List Value).toArray below meth c H locs 0 0 (MQ below (va_Qi (fun (r : Int32) (_ : Unit) => r = b2i res.1) (fun _ => qW (dC, dI) cI cZ cS A [(aM, .inr (7, fs_M)), (aM_read, .inl (cI, 99, .inl res.2)), (aM_numbers, .inl (cI, 3, .inl M_numbers))]) A) ([.ref aM, .int x1] : List Value).toArray s 0 0 A) (F0 m 154 ls []) := by
              intro n_14
              induction n_14 with
              | zero =>
                intro v3_15 ls H locs h
                simp only [f_X8_comes_L154] at h
                try exact absurd h (by simp)
              | succ n_14 ihn_14 =>
                intro v3_15 ls H locs h hl hP hD hS
                rw [f_X8_comes_L154] at h
                refine lv_iload_n hx hb dX8_comes_154 rfl (lv_at hl 2 rfl) ?_
                refine lv_aload_n hx hb dX8_comes_155 rfl (lv_at hl 0 rfl) ?_
                refine va_get (D := (dC, dI)) (ci := 7) (v := .ref aM_read) (C := RX8) (T := TX8) (N := 37) hx hb hts (fun _ h => List.mem_cons_of_mem _ (List.mem_append_right _ h)) hown hK hP 0 rfl rfl 2 (by decide) (hts (.fieldLink RX8 16 "SlateRowsModel" "read" "[I") (by decide +kernel)) (fun _ h9 => h9) hf_M_read dX8_comes_156 ?_
                refine lv_iconst (v := 1) hx hb dX8_comes_159 (by decide) ?_
                obtain ⟨hi, h⟩ := ck_some h
                refine va_iald hx hb hK hP 1 0 rfl rfl (gi_in hi) dX8_comes_160 ?_
                refine lv_icmp_ge (tgt := 186) hx hb dX8_comes_161 (by decide) (fun c_16 => ?_) (fun c_16 => ?_)
                · have h := it_p c_16 h
                  refine lv_iconst (v := 0) hx hb dX8_comes_186 (by decide) ?_
                  refine lv_istore_n (lv' := [(3, .int 0), (0, .ref aM), (2, .int (M_numbers (0 : Int32).toNatClampNeg))]) hx hb dX8_comes_187 rfl hl (by decide) rfl (fun ls hl => ?_)
                  have L188_16 : ∀ (n_17 : Nat) (v3_18 : Int32) (M_read_19 : Nat → Int32) (ls : Array Slot) (H : Heap) (locs : List Loc), f_X8_comes_L188 N M_numbers n_17 v3_18 M_read_19 = some res → lv_has ls 4 [(0, .ref aM), (3, .int v3_18)] → va_P (dC, dI) vwCl [(aM, .inr (7, fs_M)), (aM_read, .inl (cI, 99, .inl M_read_19)), (aM_numbers, .inl (cI, 3, .inl M_numbers))] H → va_D A [(aM, .inr (7, fs_M)), (aM_read, .inl (cI, 99, .inl M_read_19)), (aM_numbers, .inl (cI, 3, .inl M_numbers))] → va_S A s.heap H locs → W p l e (headSpec wsX8_comes ({ frames := 1, cells := 0, slots := 0, locals := 25 })).room s m ([.ref aM, .int x1] : List Value).toArray below meth c H locs 0 0 (MQ below (va_Qi (fun (r : Int32) (_ : Unit) => r = b2i res.1) (fun _ => qW (dC, dI) cI cZ cS A [(aM, .inr (7, fs_M)), (aM_read, .inl (cI, 99, .inl res.2)), (aM_numbers, .inl (cI, 3, .inl M_numbers))]) A) ([.ref aM, .int x1] : List Value).toArray s 0 0 A) (F0 m 188 ls []) := by
                    intro n_17
                    induction n_17 with
                    | zero =>
                      intro v3_18 M_read_19 ls H locs h
                      simp only [f_X8_comes_L188] at h
                      try exact absurd h (by simp)
                    | succ n_17 ihn_17 =>
                      intro v3_18 M_read_19 ls H locs h hl hP hD hS
                      rw [f_X8_comes_L188] at h
                      refine lv_iload_n hx hb dX8_comes_188 rfl (lv_at hl 1 rfl) ?_
                      refine lv_iconst (v := 3) hx hb dX8_comes_189 (by decide) ?_
                      refine lv_icmp_ge (tgt := 222) hx hb dX8_comes_190 (by decide) (fun c_20 => ?_) (fun c_20 => ?_)
                      · have h := it_p c_20 h
                        refine lv_aload_n hx hb dX8_comes_222 rfl (lv_at hl 0 rfl) ?_
                        refine va_get (D := (dC, dI)) (ci := 7) (v := .ref aM_read) (C := RX8) (T := TX8) (N := 37) hx hb hts (fun _ h => List.mem_cons_of_mem _ (List.mem_append_right _ h)) hown hK hP 0 rfl rfl 2 (by decide) (hts (.fieldLink RX8 16 "SlateRowsModel" "read" "[I") (by decide +kernel)) (fun _ h9 => h9) hf_M_read dX8_comes_223 ?_
                        refine lv_iconst (v := 1) hx hb dX8_comes_226 (by decide) ?_
                        refine lv_dup2_11 hx hb dX8_comes_227 rfl rfl ?_
                        obtain ⟨hi, h⟩ := ck_some h
                        refine va_iald hx hb hK hP 1 0 rfl rfl (gi_in hi) dX8_comes_228 ?_
                        refine lv_iconst (v := 1) hx hb dX8_comes_229 (by decide) ?_
                        refine lv_iadd hx hb dX8_comes_230 ?_
                        obtain ⟨hi, h⟩ := ck_some h
                        refine va_iast hx hb hK hP hD hS 1 0 rfl rfl (gi_in hi) dX8_comes_231 (fun H locs hP hD hS => ?_)
                        have hP : va_P (dC, dI) vwCl [(aM, .inr (7, fs_M)), (aM_read, .inl (cI, 99, .inl (upd M_read_19 (1 : Int32).toNatClampNeg ((M_read_19 (1 : Int32).toNatClampNeg) + 1)))), (aM_numbers, .inl (cI, 3, .inl M_numbers))] H := hP
                        have hD : va_D A [(aM, .inr (7, fs_M)), (aM_read, .inl (cI, 99, .inl (upd M_read_19 (1 : Int32).toNatClampNeg ((M_read_19 (1 : Int32).toNatClampNeg) + 1)))), (aM_numbers, .inl (cI, 3, .inl M_numbers))] := hD
                        refine lv_iconst (v := 1) hx hb dX8_comes_232 (by decide) ?_
                        have h := Option.some.inj h
                        exact W.zret (v := b2i true) hx hb hr (b2i_nar _) (fun t ht hW => ⟨⟨_, (), rfl, by rw [← h], by (try rw [← h]); rw [ht]; exact hP, va_K.moved hW.alike hK, by (try rw [← h]); exact hD⟩, hS.F ht⟩) hS.2.2 dX8_comes_233
                      · have h := it_n c_20 h
                        refine lv_aload_n hx hb dX8_comes_193 rfl (lv_at hl 0 rfl) ?_
                        refine va_get (D := (dC, dI)) (ci := 7) (v := .ref aM_read) (C := RX8) (T := TX8) (N := 37) hx hb hts (fun _ h => List.mem_cons_of_mem _ (List.mem_append_right _ h)) hown hK hP 0 rfl rfl 2 (by decide) (hts (.fieldLink RX8 16 "SlateRowsModel" "read" "[I") (by decide +kernel)) (fun _ h9 => h9) hf_M_read dX8_comes_194 ?_
                        refine lv_iconst (v := 3) hx hb dX8_comes_197 (by decide) ?_
                        refine lv_iconst (v := 3) hx hb dX8_comes_198 (by decide) ?_
                        refine lv_aload_n hx hb dX8_comes_199 rfl (lv_at hl 0 rfl) ?_
                        refine va_get (D := (dC, dI)) (ci := 7) (v := .ref aM_read) (C := RX8) (T := TX8) (N := 37) hx hb hts (fun _ h => List.mem_cons_of_mem _ (List.mem_append_right _ h)) hown hK hP 0 rfl rfl 2 (by decide) (hts (.fieldLink RX8 16 "SlateRowsModel" "read" "[I") (by decide +kernel)) (fun _ h9 => h9) hf_M_read dX8_comes_200 ?_
                        refine lv_iconst (v := 1) hx hb dX8_comes_203 (by decide) ?_
                        obtain ⟨hi, h⟩ := ck_some h
                        refine va_iald hx hb hK hP 1 0 rfl rfl (gi_in hi) dX8_comes_204 ?_
                        refine lv_imul hx hb dX8_comes_205 ?_
                        refine lv_iadd hx hb dX8_comes_206 ?_
                        refine lv_iload_n hx hb dX8_comes_207 rfl (lv_at hl 1 rfl) ?_
                        refine lv_iadd hx hb dX8_comes_208 ?_
                        refine lv_aload_n hx hb dX8_comes_209 rfl (lv_at hl 0 rfl) ?_
                        refine va_get (D := (dC, dI)) (ci := 7) (v := .ref aM_numbers) (C := RX8) (T := TX8) (N := 37) hx hb hts (fun _ h => List.mem_cons_of_mem _ (List.mem_append_right _ h)) hown hK hP 0 rfl rfl 17 (by decide) (hts (.fieldLink RX8 40 "SlateRowsModel" "numbers" "[I") (by decide +kernel)) (fun _ h9 => h9) hf_M_numbers dX8_comes_210 ?_
                        refine lv_iload_n hx hb dX8_comes_213 rfl (lv_at hl 1 rfl) ?_
                        obtain ⟨hi, h⟩ := ck_some h
                        refine va_iald hx hb hK hP 2 0 rfl rfl (gi_in hi) dX8_comes_214 ?_
                        obtain ⟨hi, h⟩ := ck_some h
                        refine va_iast hx hb hK hP hD hS 1 0 rfl rfl (gi_in hi) dX8_comes_215 (fun H locs hP hD hS => ?_)
                        have hP : va_P (dC, dI) vwCl [(aM, .inr (7, fs_M)), (aM_read, .inl (cI, 99, .inl (upd M_read_19 ((3 + (3 * (M_read_19 (1 : Int32).toNatClampNeg))) + v3_18).toNatClampNeg (M_numbers v3_18.toNatClampNeg)))), (aM_numbers, .inl (cI, 3, .inl M_numbers))] H := hP
                        have hD : va_D A [(aM, .inr (7, fs_M)), (aM_read, .inl (cI, 99, .inl (upd M_read_19 ((3 + (3 * (M_read_19 (1 : Int32).toNatClampNeg))) + v3_18).toNatClampNeg (M_numbers v3_18.toNatClampNeg)))), (aM_numbers, .inl (cI, 3, .inl M_numbers))] := hD
                        refine lv_iinc (v := (v3_18 + 1)) (lv' := [(3, .int (v3_18 + 1)), (0, .ref aM)]) hx hb dX8_comes_216 hl (k := 1) rfl rfl (by decide) rfl (fun ls hl => ?_)
                        refine lv_goto (tgt := 188) hx hb dX8_comes_219 (by decide) ?_
                        exact ihn_17 (v3_18 + 1) (upd M_read_19 ((3 + (3 * (M_read_19 (1 : Int32).toNatClampNeg))) + v3_18).toNatClampNeg (M_numbers v3_18.toNatClampNeg)) ls _ _ h (lv_sub hl [1, 0] rfl) hP hD hS
                  exact L188_16 N 0 M_read ls _ _ h (lv_sub hl [1, 0] rfl) hP hD hS
                · have h := it_n c_16 h
                  refine lv_aload_n hx hb dX8_comes_164 rfl (lv_at hl 0 rfl) ?_
                  refine va_get (D := (dC, dI)) (ci := 7) (v := .ref aM_read) (C := RX8) (T := TX8) (N := 37) hx hb hts (fun _ h => List.mem_cons_of_mem _ (List.mem_append_right _ h)) hown hK hP 0 rfl rfl 2 (by decide) (hts (.fieldLink RX8 16 "SlateRowsModel" "read" "[I") (by decide +kernel)) (fun _ h9 => h9) hf_M_read dX8_comes_165 ?_
                  refine lv_iconst (v := 3) hx hb dX8_comes_168 (by decide) ?_
                  refine lv_iconst (v := 3) hx hb dX8_comes_169 (by decide) ?_
                  refine lv_iload_n hx hb dX8_comes_170 rfl (lv_at hl 2 rfl) ?_
                  refine lv_imul hx hb dX8_comes_171 ?_
                  refine lv_iadd hx hb dX8_comes_172 ?_
                  obtain ⟨hi, h⟩ := ck_some h
                  refine va_iald hx hb hK hP 1 0 rfl rfl (gi_in hi) dX8_comes_173 ?_
                  refine lv_iload_n hx hb dX8_comes_174 rfl (lv_at hl 1 rfl) ?_
                  refine lv_icmp_ne (tgt := 180) hx hb dX8_comes_175 (by decide) (fun c_21 => ?_) (fun c_21 => ?_)
                  · have h := it_n c_21 h
                    refine lv_iinc (v := (v3_15 + 1)) (lv' := [(3, .int (v3_15 + 1)), (0, .ref aM), (2, .int (M_numbers (0 : Int32).toNatClampNeg))]) hx hb dX8_comes_180 hl (k := 2) rfl rfl (by decide) rfl (fun ls hl => ?_)
                    refine lv_goto (tgt := 154) hx hb dX8_comes_183 (by decide) ?_
                    exact ihn_14 (v3_15 + 1) ls _ _ h (lv_sub hl [1, 2, 0] rfl) hP hD hS
                  · have h := it_p c_21 h
                    refine lv_iconst (v := 0) hx hb dX8_comes_178 (by decide) ?_
                    have h := Option.some.inj h
                    exact W.zret (v := b2i false) hx hb hr (b2i_nar _) (fun t ht hW => ⟨⟨_, (), rfl, by rw [← h], by (try rw [← h]); rw [ht]; exact hP, va_K.moved hW.alike hK, by (try rw [← h]); exact hD⟩, hS.F ht⟩) hS.2.2 dX8_comes_179
            exact L154_13 N 0 ls _ _ h (lv_sub hl [2, 1, 0] rfl) hP hD hS
          · have h := it_p c_6 h
            refine lv_iconst (v := 0) hx hb dX8_comes_150 (by decide) ?_
            have h := Option.some.inj h
            exact W.zret (v := b2i false) hx hb hr (b2i_nar _) (fun t ht hW => ⟨⟨_, (), rfl, by rw [← h], by (try rw [← h]); rw [ht]; exact hP, va_K.moved hW.alike hK, by (try rw [← h]); exact hD⟩, hS.F ht⟩) hS.2.2 dX8_comes_151
    · have h := it_p c_2 h
      refine lv_iload_n hx hb dX8_comes_38 rfl (lv_at hl 0 rfl) ?_
      refine lv_i2l hx hb dX8_comes_39 rfl ?_
      refine lv_ldc2 (v := 10) hx hb hown (hts (.constantLong RX8 104 (10)) (by decide +kernel)) dX8_comes_40 ?_
      refine lv_ldc2 (v := 60) hx hb hown (hts (.constantLong RX8 106 (60)) (by decide +kernel)) dX8_comes_43 ?_
      obtain ⟨r_22, hg, h⟩ := bd_some h
      refine rdS (As := [.long ((M_numbers (0 : Int32).toNatClampNeg).toInt64), .long 10, .long 60]) (rest := []) ⟨hx, hb, hml, hown, hts⟩ (k_X8_isIn l dC dI cI cZ cS N ((M_numbers (0 : Int32).toNatClampNeg).toInt64) 10 60 r_22 hg) (va_cwS 3 hts gX8_comes_X8_isIn rfl rfl rfl cd_X8_isIn ⟨Nat.le_of_ble_eq_true rfl, Nat.le_of_ble_eq_true rfl⟩) hP hD hK [] (by decide) rfl rfl hl.1 rfl (Nat.le_of_ble_eq_true rfl) dX8_comes_46 ⟨Nat.zero_le _, Nat.zero_le _⟩ ?_
      refine lv_if_eq (tgt := 63) hx hb dX8_comes_49 (by decide) (fun c_23 => ?_) (fun c_23 => ?_)
      · have h := it_p c_23 h
        refine lv_iconst (v := 0) hx hb dX8_comes_63 (by decide) ?_
        have h := Option.some.inj h
        exact W.zret (v := b2i false) hx hb hr (b2i_nar _) (fun t ht hW => ⟨⟨_, (), rfl, by rw [← h], by (try rw [← h]); rw [ht]; exact hP, va_K.moved hW.alike hK, by (try rw [← h]); exact hD⟩, hS.F ht⟩) hS.2.2 dX8_comes_64
      · have h := it_n c_23 h
        refine lv_aload_n hx hb dX8_comes_52 rfl (lv_at hl 1 rfl) ?_
        refine va_get (D := (dC, dI)) (ci := 7) (v := .ref aM_read) (C := RX8) (T := TX8) (N := 37) hx hb hts (fun _ h => List.mem_cons_of_mem _ (List.mem_append_right _ h)) hown hK hP 0 rfl rfl 2 (by decide) (hts (.fieldLink RX8 16 "SlateRowsModel" "read" "[I") (by decide +kernel)) (fun _ h9 => h9) hf_M_read dX8_comes_53 ?_
        refine lv_iconst (v := 2) hx hb dX8_comes_56 (by decide) ?_
        obtain ⟨hi, h⟩ := ck_some h
        refine va_iald hx hb hK hP 1 0 rfl rfl (gi_in hi) dX8_comes_57 ?_
        refine lv_bipush (v := 6) hx hb dX8_comes_58 (by decide) ?_
        refine lv_icmp_ne (tgt := 65) hx hb dX8_comes_60 (by decide) (fun c_24 => ?_) (fun c_24 => ?_)
        · have h := it_n c_24 h
          refine lv_aload_n hx hb dX8_comes_65 rfl (lv_at hl 1 rfl) ?_
          refine va_get (D := (dC, dI)) (ci := 7) (v := .ref aM_read) (C := RX8) (T := TX8) (N := 37) hx hb hts (fun _ h => List.mem_cons_of_mem _ (List.mem_append_right _ h)) hown hK hP 0 rfl rfl 2 (by decide) (hts (.fieldLink RX8 16 "SlateRowsModel" "read" "[I") (by decide +kernel)) (fun _ h9 => h9) hf_M_read dX8_comes_66 ?_
          refine lv_bipush (v := 15) hx hb dX8_comes_69 (by decide) ?_
          refine lv_bipush (v := 14) hx hb dX8_comes_71 (by decide) ?_
          refine lv_aload_n hx hb dX8_comes_73 rfl (lv_at hl 1 rfl) ?_
          refine va_get (D := (dC, dI)) (ci := 7) (v := .ref aM_read) (C := RX8) (T := TX8) (N := 37) hx hb hts (fun _ h => List.mem_cons_of_mem _ (List.mem_append_right _ h)) hown hK hP 0 rfl rfl 2 (by decide) (hts (.fieldLink RX8 16 "SlateRowsModel" "read" "[I") (by decide +kernel)) (fun _ h9 => h9) hf_M_read dX8_comes_74 ?_
          refine lv_iconst (v := 2) hx hb dX8_comes_77 (by decide) ?_
          obtain ⟨hi, h⟩ := ck_some h
          refine va_iald hx hb hK hP 1 0 rfl rfl (gi_in hi) dX8_comes_78 ?_
          refine lv_imul hx hb dX8_comes_79 ?_
          refine lv_iadd hx hb dX8_comes_80 ?_
          refine lv_iload_n hx hb dX8_comes_81 rfl (lv_at hl 0 rfl) ?_
          obtain ⟨hi, h⟩ := ck_some h
          refine va_iast hx hb hK hP hD hS 1 0 rfl rfl (gi_in hi) dX8_comes_82 (fun H locs hP hD hS => ?_)
          have hP : va_P (dC, dI) vwCl [(aM, .inr (7, fs_M)), (aM_read, .inl (cI, 99, .inl (upd M_read (15 + (14 * (M_read (2 : Int32).toNatClampNeg))).toNatClampNeg (M_numbers (0 : Int32).toNatClampNeg)))), (aM_numbers, .inl (cI, 3, .inl M_numbers))] H := hP
          have hD : va_D A [(aM, .inr (7, fs_M)), (aM_read, .inl (cI, 99, .inl (upd M_read (15 + (14 * (M_read (2 : Int32).toNatClampNeg))).toNatClampNeg (M_numbers (0 : Int32).toNatClampNeg)))), (aM_numbers, .inl (cI, 3, .inl M_numbers))] := hD
          refine lv_aload_n hx hb dX8_comes_83 rfl (lv_at hl 1 rfl) ?_
          refine va_get (D := (dC, dI)) (ci := 7) (v := .ref aM_read) (C := RX8) (T := TX8) (N := 37) hx hb hts (fun _ h => List.mem_cons_of_mem _ (List.mem_append_right _ h)) hown hK hP 0 rfl rfl 2 (by decide) (hts (.fieldLink RX8 16 "SlateRowsModel" "read" "[I") (by decide +kernel)) (fun _ h9 => h9) hf_M_read dX8_comes_84 ?_
          refine lv_bipush (v := 15) hx hb dX8_comes_87 (by decide) ?_
          refine lv_bipush (v := 14) hx hb dX8_comes_89 (by decide) ?_
          refine lv_aload_n hx hb dX8_comes_91 rfl (lv_at hl 1 rfl) ?_
          refine va_get (D := (dC, dI)) (ci := 7) (v := .ref aM_read) (C := RX8) (T := TX8) (N := 37) hx hb hts (fun _ h => List.mem_cons_of_mem _ (List.mem_append_right _ h)) hown hK hP 0 rfl rfl 2 (by decide) (hts (.fieldLink RX8 16 "SlateRowsModel" "read" "[I") (by decide +kernel)) (fun _ h9 => h9) hf_M_read dX8_comes_92 ?_
          refine lv_iconst (v := 2) hx hb dX8_comes_95 (by decide) ?_
          obtain ⟨hi, h⟩ := ck_some h
          refine va_iald hx hb hK hP 1 0 rfl rfl (gi_in hi) dX8_comes_96 ?_
          refine lv_imul hx hb dX8_comes_97 ?_
          refine lv_iadd hx hb dX8_comes_98 ?_
          refine lv_iconst (v := 1) hx hb dX8_comes_99 (by decide) ?_
          refine lv_iadd hx hb dX8_comes_100 ?_
          refine lv_iconst (v := 0) hx hb dX8_comes_101 (by decide) ?_
          obtain ⟨hi, h⟩ := ck_some h
          refine va_iast hx hb hK hP hD hS 1 0 rfl rfl (gi_in hi) dX8_comes_102 (fun H locs hP hD hS => ?_)
          have hP : va_P (dC, dI) vwCl [(aM, .inr (7, fs_M)), (aM_read, .inl (cI, 99, .inl (upd (upd M_read (15 + (14 * (M_read (2 : Int32).toNatClampNeg))).toNatClampNeg (M_numbers (0 : Int32).toNatClampNeg)) ((15 + (14 * ((upd M_read (15 + (14 * (M_read (2 : Int32).toNatClampNeg))).toNatClampNeg (M_numbers (0 : Int32).toNatClampNeg)) (2 : Int32).toNatClampNeg))) + 1).toNatClampNeg 0))), (aM_numbers, .inl (cI, 3, .inl M_numbers))] H := hP
          have hD : va_D A [(aM, .inr (7, fs_M)), (aM_read, .inl (cI, 99, .inl (upd (upd M_read (15 + (14 * (M_read (2 : Int32).toNatClampNeg))).toNatClampNeg (M_numbers (0 : Int32).toNatClampNeg)) ((15 + (14 * ((upd M_read (15 + (14 * (M_read (2 : Int32).toNatClampNeg))).toNatClampNeg (M_numbers (0 : Int32).toNatClampNeg)) (2 : Int32).toNatClampNeg))) + 1).toNatClampNeg 0))), (aM_numbers, .inl (cI, 3, .inl M_numbers))] := hD
          refine lv_aload_n hx hb dX8_comes_103 rfl (lv_at hl 1 rfl) ?_
          refine va_get (D := (dC, dI)) (ci := 7) (v := .ref aM_read) (C := RX8) (T := TX8) (N := 37) hx hb hts (fun _ h => List.mem_cons_of_mem _ (List.mem_append_right _ h)) hown hK hP 0 rfl rfl 2 (by decide) (hts (.fieldLink RX8 16 "SlateRowsModel" "read" "[I") (by decide +kernel)) (fun _ h9 => h9) hf_M_read dX8_comes_104 ?_
          refine lv_iconst (v := 2) hx hb dX8_comes_107 (by decide) ?_
          refine lv_dup2_11 hx hb dX8_comes_108 rfl rfl ?_
          obtain ⟨hi, h⟩ := ck_some h
          refine va_iald hx hb hK hP 1 0 rfl rfl (gi_in hi) dX8_comes_109 ?_
          refine lv_iconst (v := 1) hx hb dX8_comes_110 (by decide) ?_
          refine lv_iadd hx hb dX8_comes_111 ?_
          obtain ⟨hi, h⟩ := ck_some h
          refine va_iast hx hb hK hP hD hS 1 0 rfl rfl (gi_in hi) dX8_comes_112 (fun H locs hP hD hS => ?_)
          have hP : va_P (dC, dI) vwCl [(aM, .inr (7, fs_M)), (aM_read, .inl (cI, 99, .inl (upd (upd (upd M_read (15 + (14 * (M_read (2 : Int32).toNatClampNeg))).toNatClampNeg (M_numbers (0 : Int32).toNatClampNeg)) ((15 + (14 * ((upd M_read (15 + (14 * (M_read (2 : Int32).toNatClampNeg))).toNatClampNeg (M_numbers (0 : Int32).toNatClampNeg)) (2 : Int32).toNatClampNeg))) + 1).toNatClampNeg 0) (2 : Int32).toNatClampNeg (((upd (upd M_read (15 + (14 * (M_read (2 : Int32).toNatClampNeg))).toNatClampNeg (M_numbers (0 : Int32).toNatClampNeg)) ((15 + (14 * ((upd M_read (15 + (14 * (M_read (2 : Int32).toNatClampNeg))).toNatClampNeg (M_numbers (0 : Int32).toNatClampNeg)) (2 : Int32).toNatClampNeg))) + 1).toNatClampNeg 0) (2 : Int32).toNatClampNeg) + 1)))), (aM_numbers, .inl (cI, 3, .inl M_numbers))] H := hP
          have hD : va_D A [(aM, .inr (7, fs_M)), (aM_read, .inl (cI, 99, .inl (upd (upd (upd M_read (15 + (14 * (M_read (2 : Int32).toNatClampNeg))).toNatClampNeg (M_numbers (0 : Int32).toNatClampNeg)) ((15 + (14 * ((upd M_read (15 + (14 * (M_read (2 : Int32).toNatClampNeg))).toNatClampNeg (M_numbers (0 : Int32).toNatClampNeg)) (2 : Int32).toNatClampNeg))) + 1).toNatClampNeg 0) (2 : Int32).toNatClampNeg (((upd (upd M_read (15 + (14 * (M_read (2 : Int32).toNatClampNeg))).toNatClampNeg (M_numbers (0 : Int32).toNatClampNeg)) ((15 + (14 * ((upd M_read (15 + (14 * (M_read (2 : Int32).toNatClampNeg))).toNatClampNeg (M_numbers (0 : Int32).toNatClampNeg)) (2 : Int32).toNatClampNeg))) + 1).toNatClampNeg 0) (2 : Int32).toNatClampNeg) + 1)))), (aM_numbers, .inl (cI, 3, .inl M_numbers))] := hD
          refine lv_iconst (v := 1) hx hb dX8_comes_113 (by decide) ?_
          have h := Option.some.inj h
          exact W.zret (v := b2i true) hx hb hr (b2i_nar _) (fun t ht hW => ⟨⟨_, (), rfl, by rw [← h], by (try rw [← h]); rw [ht]; exact hP, va_K.moved hW.alike hK, by (try rw [← h]); exact hD⟩, hS.F ht⟩) hS.2.2 dX8_comes_114
        · have h := it_p c_24 h
          refine lv_iconst (v := 0) hx hb dX8_comes_63 (by decide) ?_
          have h := Option.some.inj h
          exact W.zret (v := b2i false) hx hb hr (b2i_nar _) (fun t ht hW => ⟨⟨_, (), rfl, by rw [← h], by (try rw [← h]); rw [ht]; exact hP, va_K.moved hW.alike hK, by (try rw [← h]); exact hD⟩, hS.F ht⟩) hS.2.2 dX8_comes_64
  · have h := it_p c_1 h
    refine lv_aload_n hx hb dX8_comes_13 rfl (lv_at hl 1 rfl) ?_
    refine va_get (D := (dC, dI)) (ci := 7) (v := .ref aM_read) (C := RX8) (T := TX8) (N := 37) hx hb hts (fun _ h => List.mem_cons_of_mem _ (List.mem_append_right _ h)) hown hK hP 0 rfl rfl 2 (by decide) (hts (.fieldLink RX8 16 "SlateRowsModel" "read" "[I") (by decide +kernel)) (fun _ h9 => h9) hf_M_read dX8_comes_14 ?_
    refine lv_iconst (v := 0) hx hb dX8_comes_17 (by decide) ?_
    refine lv_iload_n hx hb dX8_comes_18 rfl (lv_at hl 0 rfl) ?_
    obtain ⟨hi, h⟩ := ck_some h
    refine va_iast hx hb hK hP hD hS 1 0 rfl rfl (gi_in hi) dX8_comes_19 (fun H locs hP hD hS => ?_)
    have hP : va_P (dC, dI) vwCl [(aM, .inr (7, fs_M)), (aM_read, .inl (cI, 99, .inl (upd M_read (0 : Int32).toNatClampNeg (M_numbers (0 : Int32).toNatClampNeg)))), (aM_numbers, .inl (cI, 3, .inl M_numbers))] H := hP
    have hD : va_D A [(aM, .inr (7, fs_M)), (aM_read, .inl (cI, 99, .inl (upd M_read (0 : Int32).toNatClampNeg (M_numbers (0 : Int32).toNatClampNeg)))), (aM_numbers, .inl (cI, 3, .inl M_numbers))] := hD
    refine lv_iload_n hx hb dX8_comes_20 rfl (lv_at hl 0 rfl) ?_
    refine lv_bipush (v := 20) hx hb dX8_comes_21 (by decide) ?_
    refine lv_icmp_gt (tgt := 30) hx hb dX8_comes_23 (by decide) (fun c_25 => ?_) (fun c_25 => ?_)
    · have h := it_p c_25 h
      refine lv_iconst (v := 0) hx hb dX8_comes_30 (by decide) ?_
      have h := Option.some.inj h
      exact W.zret (v := b2i false) hx hb hr (b2i_nar _) (fun t ht hW => ⟨⟨_, (), rfl, by rw [← h], by (try rw [← h]); rw [ht]; exact hP, va_K.moved hW.alike hK, by (try rw [← h]); exact hD⟩, hS.F ht⟩) hS.2.2 dX8_comes_31
    · have h := it_n c_25 h
      refine lv_iconst (v := 1) hx hb dX8_comes_26 (by decide) ?_
      refine lv_goto (tgt := 31) hx hb dX8_comes_27 (by decide) ?_
      have h := Option.some.inj h
      exact W.zret (v := b2i true) hx hb hr (b2i_nar _) (fun t ht hW => ⟨⟨_, (), rfl, by rw [← h], by (try rw [← h]); rw [ht]; exact hP, va_K.moved hW.alike hK, by (try rw [← h]); exact hD⟩, hS.F ht⟩) hS.2.2 dX8_comes_31
def f_X8_wrongRow (N : Nat) (M_kept : Nat → Int32) (M_sort : Nat → Int32) (x1 : Int32) (x2 : Int32) : Option (Int32) :=
  (f_X8_isShelf N x1).bind fun r_1 => if (b2i r_1) = 0 then (some ((-1))) else (ck (gi x1 8) (if (M_kept x1.toNatClampNeg) = 0 then (some ((-11))) else (ck (gi x1 8) (if (M_kept x1.toNatClampNeg) = 2 then (if x2 < 0 then (some (0)) else (ck (gi x1 8) (if (M_sort x1.toNatClampNeg) = x2 then (some (0)) else (some ((-12)))))) else (some ((-12)))))))
set_option maxHeartbeats 4000000 in
set_option maxRecDepth 100000 in
theorem k_X8_wrongRow (l : Launch) (dC : Nat → ClassId) (dI : Nat → Nat → Nat) (cI cZ cS : ClassId) (N : Nat) (aM aM_kept aM_sort : Nat) (fs_M : List Value) (M_kept : Nat → Int32) (M_sort : Nat → Int32) (x1 : Int32) (x2 : Int32) (hf_M_kept : fs_M[4]? = some (.ref aM_kept)) (hf_M_sort : fs_M[5]? = some (.ref aM_sort)) (res : Int32) (h : f_X8_wrongRow N M_kept M_sort x1 x2 = some res) : Met l yX8_wrongRow wsX8_wrongRow ({ frames := 2, cells := 0, slots := 0, locals := 45 }) (va_Pc [.ref aM, .int x1, .int x2] (wd (dC, dI) cI cZ cS [(aM, .inr (7, fs_M)), (aM_kept, .inl (cI, 8, .inl M_kept)), (aM_sort, .inl (cI, 8, .inl M_sort))])) (vp_Si (fun r => r = res)) 0 0 (fun _ => False) := by
  refine Met.ofW (cc := cX8_wrongRow) (maxL := 3) (ret := (some .int)) (by decide) rfl ?_
  intro p e s m args below meth c s₁ B hml hv
  obtain ⟨rfl, hP, hK, hD⟩ := hv
  have hx := B.exec
  have hb := B.bytes
  have hr := B.returns
  have hts := atoms_spec (ws := wsX8_wrongRow) B.pre
  have hown : s.vm.findClass RX8 = some m.cls := findClass_of_methodNamed B.named
  have hlocks := B.notSynchronized
  have hl := lv_entry ([.ref aM, .int x1, .int x2]) (n := 3) (Nat.le_of_ble_eq_true rfl)
  rw [lg_entry_eq]
  generalize (lg_sl ([.ref aM, .int x1, .int x2]) ++ List.replicate (3 - (lg_sl ([.ref aM, .int x1, .int x2])).length) Slot.unset).toArray = ls at hl ⊢
  have hl : lv_has ls 3 [(0, .ref aM), (1, .int x1), (2, .int x2)] := hl
  unfold f_X8_wrongRow at h
  refine lv_iload_n hx hb dX8_wrongRow_0 rfl (lv_at hl 1 rfl) ?_
  obtain ⟨r_1, hg, h⟩ := bd_some h
  refine rdS (As := [.int x1]) (rest := []) ⟨hx, hb, hml, hown, hts⟩ (k_X8_isShelf l dC dI cI cZ cS N x1 r_1 hg) (va_cwS 1 hts gX8_wrongRow_X8_isShelf rfl rfl rfl cd_X8_isShelf ⟨Nat.le_of_ble_eq_true rfl, Nat.le_of_ble_eq_true rfl⟩) hP hD hK [] (by decide) rfl rfl hl.1 rfl (Nat.le_of_ble_eq_true rfl) dX8_wrongRow_1 ⟨Nat.zero_le _, Nat.zero_le _⟩ ?_
  refine lv_if_ne (tgt := 11) hx hb dX8_wrongRow_4 (by decide) (fun c_2 => ?_) (fun c_2 => ?_)
  · have h := it_n c_2 h
    refine lv_aload_n hx hb dX8_wrongRow_11 rfl (lv_at hl 0 rfl) ?_
    refine va_get (D := (dC, dI)) (ci := 7) (v := .ref aM_kept) (C := RX8) (T := TX8) (N := 37) hx hb hts (fun _ h => List.mem_cons_of_mem _ (List.mem_append_right _ h)) hown hK hP 0 rfl rfl 4 (by decide) (hts (.fieldLink RX8 22 "SlateRowsModel" "kept" "[I") (by decide +kernel)) (fun _ h9 => h9) hf_M_kept dX8_wrongRow_12 ?_
    refine lv_iload_n hx hb dX8_wrongRow_15 rfl (lv_at hl 1 rfl) ?_
    obtain ⟨hi, h⟩ := ck_some h
    refine va_iald hx hb hK hP 1 0 rfl rfl (gi_in hi) dX8_wrongRow_16 ?_
    refine lv_if_ne (tgt := 25) hx hb dX8_wrongRow_17 (by decide) (fun c_3 => ?_) (fun c_3 => ?_)
    · have h := it_n c_3 h
      refine lv_aload_n hx hb dX8_wrongRow_25 rfl (lv_at hl 0 rfl) ?_
      refine va_get (D := (dC, dI)) (ci := 7) (v := .ref aM_kept) (C := RX8) (T := TX8) (N := 37) hx hb hts (fun _ h => List.mem_cons_of_mem _ (List.mem_append_right _ h)) hown hK hP 0 rfl rfl 4 (by decide) (hts (.fieldLink RX8 22 "SlateRowsModel" "kept" "[I") (by decide +kernel)) (fun _ h9 => h9) hf_M_kept dX8_wrongRow_26 ?_
      refine lv_iload_n hx hb dX8_wrongRow_29 rfl (lv_at hl 1 rfl) ?_
      obtain ⟨hi, h⟩ := ck_some h
      refine va_iald hx hb hK hP 1 0 rfl rfl (gi_in hi) dX8_wrongRow_30 ?_
      refine lv_iconst (v := 2) hx hb dX8_wrongRow_31 (by decide) ?_
      refine lv_icmp_ne (tgt := 49) hx hb dX8_wrongRow_32 (by decide) (fun c_4 => ?_) (fun c_4 => ?_)
      · have h := it_n c_4 h
        refine lv_bipush (v := (-12)) hx hb dX8_wrongRow_49 (by decide) ?_
        refine lv_goto (tgt := 55) hx hb dX8_wrongRow_51 (by decide) ?_
        exact W.iret hx hb hr (fun t ht hW => ⟨_, rfl, Option.some.inj h, ht⟩) (fun q hq => by cases hq) dX8_wrongRow_55
      · have h := it_p c_4 h
        refine lv_iload_n hx hb dX8_wrongRow_35 rfl (lv_at hl 2 rfl) ?_
        refine lv_if_lt (tgt := 54) hx hb dX8_wrongRow_36 (by decide) (fun c_5 => ?_) (fun c_5 => ?_)
        · have h := it_p c_5 h
          refine lv_iconst (v := 0) hx hb dX8_wrongRow_54 (by decide) ?_
          exact W.iret hx hb hr (fun t ht hW => ⟨_, rfl, Option.some.inj h, ht⟩) (fun q hq => by cases hq) dX8_wrongRow_55
        · have h := it_n c_5 h
          refine lv_aload_n hx hb dX8_wrongRow_39 rfl (lv_at hl 0 rfl) ?_
          refine va_get (D := (dC, dI)) (ci := 7) (v := .ref aM_sort) (C := RX8) (T := TX8) (N := 37) hx hb hts (fun _ h => List.mem_cons_of_mem _ (List.mem_append_right _ h)) hown hK hP 0 rfl rfl 5 (by decide) (hts (.fieldLink RX8 25 "SlateRowsModel" "sort" "[I") (by decide +kernel)) (fun _ h9 => h9) hf_M_sort dX8_wrongRow_40 ?_
          refine lv_iload_n hx hb dX8_wrongRow_43 rfl (lv_at hl 1 rfl) ?_
          obtain ⟨hi, h⟩ := ck_some h
          refine va_iald hx hb hK hP 2 0 rfl rfl (gi_in hi) dX8_wrongRow_44 ?_
          refine lv_iload_n hx hb dX8_wrongRow_45 rfl (lv_at hl 2 rfl) ?_
          refine lv_icmp_eq (tgt := 54) hx hb dX8_wrongRow_46 (by decide) (fun c_6 => ?_) (fun c_6 => ?_)
          · have h := it_p c_6 h
            refine lv_iconst (v := 0) hx hb dX8_wrongRow_54 (by decide) ?_
            exact W.iret hx hb hr (fun t ht hW => ⟨_, rfl, Option.some.inj h, ht⟩) (fun q hq => by cases hq) dX8_wrongRow_55
          · have h := it_n c_6 h
            refine lv_bipush (v := (-12)) hx hb dX8_wrongRow_49 (by decide) ?_
            refine lv_goto (tgt := 55) hx hb dX8_wrongRow_51 (by decide) ?_
            exact W.iret hx hb hr (fun t ht hW => ⟨_, rfl, Option.some.inj h, ht⟩) (fun q hq => by cases hq) dX8_wrongRow_55
    · have h := it_p c_3 h
      refine lv_bipush (v := (-11)) hx hb dX8_wrongRow_20 (by decide) ?_
      refine lv_goto (tgt := 55) hx hb dX8_wrongRow_22 (by decide) ?_
      exact W.iret hx hb hr (fun t ht hW => ⟨_, rfl, Option.some.inj h, ht⟩) (fun q hq => by cases hq) dX8_wrongRow_55
  · have h := it_p c_2 h
    refine lv_iconst (v := (-1)) hx hb dX8_wrongRow_7 (by decide) ?_
    refine lv_goto (tgt := 55) hx hb dX8_wrongRow_8 (by decide) ?_
    exact W.iret hx hb hr (fun t ht hW => ⟨_, rfl, Option.some.inj h, ht⟩) (fun q hq => by cases hq) dX8_wrongRow_55
