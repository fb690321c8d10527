theorem cd_X7_row : yX7_row.cls = RX7 ∧ yX7_row.cls ≠ "java/lang/invoke/MethodHandle" ∧ yX7_row.cls ≠ "java/lang/invoke/VarHandle" ∧ (parseMethodDescriptor yX7_row.desc).map (fun d => d.parameters.length) = some 3 := by decide +kernel
theorem cd_X7_put : yX7_put.cls = RX7 ∧ yX7_put.cls ≠ "java/lang/invoke/MethodHandle" ∧ yX7_put.cls ≠ "java/lang/invoke/VarHandle" ∧ (parseMethodDescriptor yX7_put.desc).map (fun d => d.parameters.length) = some 3 := by decide +kernel
theorem cd_X7_refusalOfLaying : yX7_refusalOfLaying.cls = RX7 ∧ yX7_refusalOfLaying.cls ≠ "java/lang/invoke/MethodHandle" ∧ yX7_refusalOfLaying.cls ≠ "java/lang/invoke/VarHandle" ∧ (parseMethodDescriptor yX7_refusalOfLaying.desc).map (fun d => d.parameters.length) = some 1 := by decide +kernel
theorem cd_X7_toil : yX7_toil.cls = RX7 ∧ yX7_toil.cls ≠ "java/lang/invoke/MethodHandle" ∧ yX7_toil.cls ≠ "java/lang/invoke/VarHandle" ∧ (parseMethodDescriptor yX7_toil.desc).map (fun d => d.parameters.length) = some 1 := by decide +kernel
theorem cd_X7_copy : yX7_copy.cls = RX7 ∧ yX7_copy.cls ≠ "java/lang/invoke/MethodHandle" ∧ yX7_copy.cls ≠ "java/lang/invoke/VarHandle" ∧ (parseMethodDescriptor yX7_copy.desc).map (fun d => d.parameters.length) = some 5 := by decide +kernel
def f_X7_row (N : Nat) (S_shelves : Nat → Option Nat) (T_numbers : Nat → Int32) (T_holds : Int32) (T_laying : Option Nat) (T_sort : Int32) (T_size : Int32) (x1 : Int32) (x2 : Int32) (x3 : Int32) : Option (Int32 × (Nat → Int32) × Int32 × (Option Nat) × Int32 × Int32) :=
  (f_X7_isShelf N x1).bind fun r_1 => if (b2i r_1) = 0 then (some ((-1), T_numbers, T_holds, T_laying, T_sort, T_size)) else (if x2 < 0 then (some ((-1), T_numbers, T_holds, T_laying, T_sort, T_size)) else (if 2 < x2 then (some ((-1), T_numbers, T_holds, T_laying, T_sort, T_size)) else (if x3 ≤ 100 then (if 0 ≤ x3 then (ck (gi x1 8) ((f_X4_holdNumbers N T_numbers T_holds T_laying T_sort T_size x2 x3).bind fun r_7 => some (0, r_7.1, r_7.2.1, r_7.2.2.1, r_7.2.2.2.1, r_7.2.2.2.2))) else (some ((-14), T_numbers, T_holds, T_laying, T_sort, T_size))) else (some ((-1), T_numbers, T_holds, T_laying, T_sort, T_size)))))
set_option maxHeartbeats 4000000 in
set_option maxRecDepth 100000 in
theorem k_X7_row (l : Launch) (dC : Nat → ClassId) (dI : Nat → Nat → Nat) (cI cZ cS : ClassId) (N : Nat) (aS aS_shelves aT aT_numbers aNow aKept aMind : Nat) (sz : Nat) (S_shelves : Nat → Option Nat) (S_isKept : Int32) (S_ways : Option Nat) (T_numbers : Nat → Int32) (T_holds : Int32) (T_laying : Option Nat) (T_sort : Int32) (T_size : Int32) (x1 : Int32) (x2 : Int32) (x3 : Int32) (hd : gi x1 8 = true → S_shelves x1.toNatClampNeg = some aT) (res : Int32 × (Nat → Int32) × Int32 × (Option Nat) × Int32 × Int32) (h : f_X7_row N S_shelves T_numbers T_holds T_laying T_sort T_size x1 x2 x3 = some res) : Met l yX7_row wsX7_row ({ frames := 1, cells := 0, slots := 0, locals := 23 }) (va_Pc [.ref aS, .int x1, .int x2, .int x3] (preW (dC, dI) cI cZ cS [(aS, .inr (6, [.ref aNow, .ref aKept, .ref aMind, .ref aS_shelves, .int S_isKept, va_rf S_ways])), (aS_shelves, .inl (cS, 8, .inr (.inr (.inr (.inr S_shelves))))), (aT, .inr (4, [.ref aT_numbers, .int T_holds, va_rf T_laying, .int T_sort, .int T_size])), (aT_numbers, .inl (cI, 100, .inl T_numbers))] sz)) (va_Qi (fun (r : Int32) (_ : Unit) => r = res.1) (fun _ => qW (dC, dI) cI cZ cS (va_A [(aS, .inr (6, [.ref aNow, .ref aKept, .ref aMind, .ref aS_shelves, .int S_isKept, va_rf S_ways])), (aS_shelves, .inl (cS, 8, .inr (.inr (.inr (.inr S_shelves))))), (aT, .inr (4, [.ref aT_numbers, .int T_holds, va_rf T_laying, .int T_sort, .int T_size])), (aT_numbers, .inl (cI, 100, .inl T_numbers))] sz) [(aS, .inr (6, [.ref aNow, .ref aKept, .ref aMind, .ref aS_shelves, .int S_isKept, va_rf S_ways])), (aS_shelves, .inl (cS, 8, .inr (.inr (.inr (.inr S_shelves))))), (aT, .inr (4, [.ref aT_numbers, .int res.2.2.1, va_rf res.2.2.2.1, .int res.2.2.2.2.1, .int res.2.2.2.2.2])), (aT_numbers, .inl (cI, 100, .inl res.2.1))]) (va_A [(aS, .inr (6, [.ref aNow, .ref aKept, .ref aMind, .ref aS_shelves, .int S_isKept, va_rf S_ways])), (aS_shelves, .inl (cS, 8, .inr (.inr (.inr (.inr S_shelves))))), (aT, .inr (4, [.ref aT_numbers, .int T_holds, va_rf T_laying, .int T_sort, .int T_size])), (aT_numbers, .inl (cI, 100, .inl T_numbers))] sz)) 0 0 (va_A [(aS, .inr (6, [.ref aNow, .ref aKept, .ref aMind, .ref aS_shelves, .int S_isKept, va_rf S_ways])), (aS_shelves, .inl (cS, 8, .inr (.inr (.inr (.inr S_shelves))))), (aT, .inr (4, [.ref aT_numbers, .int T_holds, va_rf T_laying, .int T_sort, .int T_size])), (aT_numbers, .inl (cI, 100, .inl T_numbers))] sz) := by
  refine Met.ofW (cc := cX7_row) (maxL := 4) (ret := (some .int)) (by decide) rfl ?_
  intro p e s m args below meth c s₁ B hml hv
  obtain ⟨rfl, hsz, hP, hK, hD0⟩ := hv
  have hx := B.exec
  have hb := B.bytes
  have hr := B.returns
  have hts := atoms_spec (ws := wsX7_row) B.pre
  have hown : s.vm.findClass RX7 = some m.cls := findClass_of_methodNamed B.named
  have hlocks := B.notSynchronized
  subst hsz
  have hD := hD0.self (sz := s.heap.size)
  generalize hAe : va_A [(aS, .inr (6, [.ref aNow, .ref aKept, .ref aMind, .ref aS_shelves, .int S_isKept, va_rf S_ways])), (aS_shelves, .inl (cS, 8, .inr (.inr (.inr (.inr S_shelves))))), (aT, .inr (4, [.ref aT_numbers, .int T_holds, va_rf T_laying, .int T_sort, .int T_size])), (aT_numbers, .inl (cI, 100, .inl T_numbers))] s.heap.size = A at hD ⊢
  have hA : ∀ q : Nat, s.heap.size ≤ q → A q := fun q h => by rw [← hAe]; exact Or.inr h
  have hS : va_S A s.heap s.heap [] := va_S.rf
  have hl := lv_entry ([.ref aS, .int x1, .int x2, .int x3]) (n := 4) (Nat.le_of_ble_eq_true rfl)
  rw [lg_entry_eq]
  generalize (lg_sl ([.ref aS, .int x1, .int x2, .int x3]) ++ List.replicate (4 - (lg_sl ([.ref aS, .int x1, .int x2, .int x3])).length) Slot.unset).toArray = ls at hl ⊢
  have hl : lv_has ls 4 [(0, .ref aS), (1, .int x1), (2, .int x2), (3, .int x3)] := hl
  unfold f_X7_row at h
  refine lv_aload_n hx hb dX7_row_0 rfl (lv_at hl 0 rfl) ?_
  refine lv_iload_n hx hb dX7_row_1 rfl (lv_at hl 1 rfl) ?_
  obtain ⟨r_1, hg, h⟩ := bd_some h
  refine rdV (As := [.int x1]) (rest := []) (ci := 6) ⟨hx, hb, hml, hown, hts⟩ (k_X7_isShelf l dC dI cI cZ cS N aS aNow aKept aMind aS_shelves S_isKept S_ways x1 r_1 hg) (cwV 1 hts gX7_row_X7_isShelf rfl rfl rfl cd_X7_isShelf ⟨Nat.le_of_ble_eq_true rfl, Nat.le_of_ble_eq_true rfl⟩) hP hD hK [0] (by decide) rfl rfl rfl rfl hl.1 rfl (Nat.le_of_ble_eq_true rfl) dX7_row_2 ⟨Nat.zero_le _, Nat.zero_le _⟩ ?_
  refine lv_if_eq (tgt := 23) hx hb dX7_row_5 (by decide) (fun c_2 => ?_) (fun c_2 => ?_)
  · have h := it_p c_2 h
    refine lv_iconst (v := (-1)) hx hb dX7_row_23 (by decide) ?_
    have h := Option.some.inj h
    exact W.iret hx hb hr (fun t ht hW => ⟨⟨_, (), rfl, by rw [← h], by (try rw [← h]); rw [ht]; exact hP, va_K.moved hW.alike hK, by (try rw [← h]); exact hD⟩, hS.F ht⟩) hS.2.2 dX7_row_24
  · have h := it_n c_2 h
    refine lv_iload_n hx hb dX7_row_8 rfl (lv_at hl 2 rfl) ?_
    refine lv_if_lt (tgt := 23) hx hb dX7_row_9 (by decide) (fun c_3 => ?_) (fun c_3 => ?_)
    · have h := it_p c_3 h
      refine lv_iconst (v := (-1)) hx hb dX7_row_23 (by decide) ?_
      have h := Option.some.inj h
      exact W.iret hx hb hr (fun t ht hW => ⟨⟨_, (), rfl, by rw [← h], by (try rw [← h]); rw [ht]; exact hP, va_K.moved hW.alike hK, by (try rw [← h]); exact hD⟩, hS.F ht⟩) hS.2.2 dX7_row_24
    · have h := it_n c_3 h
      refine lv_iload_n hx hb dX7_row_12 rfl (lv_at hl 2 rfl) ?_
      refine lv_iconst (v := 2) hx hb dX7_row_13 (by decide) ?_
      refine lv_icmp_gt (tgt := 23) hx hb dX7_row_14 (by decide) (fun c_4 => ?_) (fun c_4 => ?_)
      · have h := it_p c_4 h
        refine lv_iconst (v := (-1)) hx hb dX7_row_23 (by decide) ?_
        have h := Option.some.inj h
        exact W.iret hx hb hr (fun t ht hW => ⟨⟨_, (), rfl, by rw [← h], by (try rw [← h]); rw [ht]; exact hP, va_K.moved hW.alike hK, by (try rw [← h]); exact hD⟩, hS.F ht⟩) hS.2.2 dX7_row_24
      · have h := it_n c_4 h
        refine lv_iload_n hx hb dX7_row_17 rfl (lv_at hl 3 rfl) ?_
        refine lv_bipush (v := 100) hx hb dX7_row_18 (by decide) ?_
        refine lv_icmp_le (tgt := 25) hx hb dX7_row_20 (by decide) (fun c_5 => ?_) (fun c_5 => ?_)
        · have h := it_p c_5 h
          refine lv_iload_n hx hb dX7_row_25 rfl (lv_at hl 3 rfl) ?_
          refine lv_if_ge (tgt := 32) hx hb dX7_row_26 (by decide) (fun c_6 => ?_) (fun c_6 => ?_)
          · have h := it_p c_6 h
            refine lv_aload_n hx hb dX7_row_32 rfl (lv_at hl 0 rfl) ?_
            refine va_get (D := (dC, dI)) (ci := 6) (v := .ref aS_shelves) (C := RX7) (T := TX7) (N := 6) hx hb hts (fun _ h => List.mem_cons_of_mem _ (List.mem_append_left _ (List.mem_append_right _ h))) hown hK hP 0 rfl rfl 3 (by decide) (hts (.fieldLink RX7 24 "SlateRows" "shelves" "[LSlateRows$Shelf;") (by decide +kernel)) (fun _ h9 => h9) rfl dX7_row_33 ?_
            refine lv_iload_n hx hb dX7_row_36 rfl (lv_at hl 1 rfl) ?_
            obtain ⟨hi, h⟩ := ck_some h
            refine va_aldq hx hb hK hP 1 2 rfl rfl (gi_in hi) dX7_row_37 ?_
            rw [hd hi]
            show W _ _ _ _ _ _ _ _ _ _ _ _ _ _ _ (F0 _ _ _ [.ref aT])
            refine lv_iload_n hx hb dX7_row_38 rfl (lv_at hl 2 rfl) ?_
            refine lv_iload_n hx hb dX7_row_39 rfl (lv_at hl 3 rfl) ?_
            obtain ⟨r_7, hg, h⟩ := bd_some h
            refine mtVv (As := [.int x2, .int x3]) (rest := []) (ci := 4) (wr := [(aS, .inr (6, [.ref aNow, .ref aKept, .ref aMind, .ref aS_shelves, .int S_isKept, va_rf S_ways])), (aS_shelves, .inl (cS, 8, .inr (.inr (.inr (.inr S_shelves)))))]) (w2 := [(aS, .inr (6, [.ref aNow, .ref aKept, .ref aMind, .ref aS_shelves, .int S_isKept, va_rf S_ways])), (aS_shelves, .inl (cS, 8, .inr (.inr (.inr (.inr S_shelves))))), (aT, .inr (4, [.ref aT_numbers, .int r_7.2.1, va_rf r_7.2.2.1, .int r_7.2.2.2.1, .int r_7.2.2.2.2])), (aT_numbers, .inl (cI, 100, .inl r_7.1))]) ⟨hx, hb, hml, hown, hts⟩ (k_X4_holdNumbers l dC dI cI cZ cS N aT aT_numbers _ T_numbers T_holds T_laying T_sort T_size x2 x3 r_7 hg) (cwV 2 hts gX7_row_X4_holdNumbers rfl rfl rfl cd_X4_holdNumbers ⟨Nat.le_of_ble_eq_true rfl, Nat.le_of_ble_eq_true rfl⟩) hP hD hK hS hA [2, 3] [0, 1] [0, 1, 2, 3] (by decide) (by decide) (by decide) (by decide) rfl rfl rfl rfl rfl rfl hl.1 rfl (Nat.le_of_ble_eq_true rfl) dX7_row_40 ⟨Nat.zero_le _, Nat.zero_le _⟩ (fun H locs hP hD hS => ?_)
            refine lv_iconst (v := 0) hx hb dX7_row_43 (by decide) ?_
            have h := Option.some.inj h
            exact W.iret hx hb hr (fun t ht hW => ⟨⟨_, (), rfl, by rw [← h], by (try rw [← h]); rw [ht]; exact hP, va_K.moved hW.alike hK, by (try rw [← h]); exact hD⟩, hS.F ht⟩) hS.2.2 dX7_row_44
          · have h := it_n c_6 h
            refine lv_bipush (v := (-14)) hx hb dX7_row_29 (by decide) ?_
            have h := Option.some.inj h
            exact W.iret hx hb hr (fun t ht hW => ⟨⟨_, (), rfl, by rw [← h], by (try rw [← h]); rw [ht]; exact hP, va_K.moved hW.alike hK, by (try rw [← h]); exact hD⟩, hS.F ht⟩) hS.2.2 dX7_row_31
        · have h := it_n c_5 h
          refine lv_iconst (v := (-1)) hx hb dX7_row_23 (by decide) ?_
          have h := Option.some.inj h
          exact W.iret hx hb hr (fun t ht hW => ⟨⟨_, (), rfl, by rw [← h], by (try rw [← h]); rw [ht]; exact hP, va_K.moved hW.alike hK, by (try rw [← h]); exact hD⟩, hS.F ht⟩) hS.2.2 dX7_row_24
def f_X7_put (N : Nat) (S_shelves : Nat → Option Nat) (T_numbers : Nat → Int32) (T_holds : Int32) (T_sort : Int32) (T_size : Int32) (x1 : Int32) (x2 : Int32) (x3 : Int32) : Option (Int32 × (Nat → Int32)) :=
  (f_X7_isShelf N x1).bind fun r_1 => if (b2i r_1) = 0 then (some ((-1), T_numbers)) else ((f_X7_refusalOfNumbers N S_shelves T_holds x1).bind fun r_3 => if r_3 = 0 then (ck (gi x1 8) ((f_X4_hasPlace N T_size x2).bind fun r_5 => if (b2i r_5) = 0 then (some ((-13), T_numbers)) else (ck (gi x1 8) (ck (gi x1 8) ((f_X4_narrowed N T_sort x3).bind fun r_7 => ck (gi x2 100) (some (0, (upd T_numbers x2.toNatClampNeg r_7)))))))) else (some (r_3, T_numbers)))
set_option maxHeartbeats 4000000 in
set_option maxRecDepth 100000 in
theorem k_X7_put (l : Launch) (dC : Nat → ClassId) (dI : Nat → Nat → Nat) (cI cZ cS : ClassId) (N : Nat) (aS aS_shelves aT aT_numbers aNow aKept aMind : Nat) (sz : Nat) (S_shelves : Nat → Option Nat) (S_isKept : Int32) (S_ways : Option Nat) (T_numbers : Nat → Int32) (T_holds : Int32) (T_laying : Option Nat) (T_sort : Int32) (T_size : Int32) (x1 : Int32) (x2 : Int32) (x3 : Int32) (hd : gi x1 8 = true → S_shelves x1.toNatClampNeg = some aT) (res : Int32 × (Nat → Int32)) (h : f_X7_put N S_shelves T_numbers T_holds T_sort T_size x1 x2 x3 = some res) : Met l yX7_put wsX7_put ({ frames := 1, cells := 0, slots := 0, locals := 21 }) (va_Pc [.ref aS, .int x1, .int x2, .int x3] (preW (dC, dI) cI cZ cS [(aS, .inr (6, [.ref aNow, .ref aKept, .ref aMind, .ref aS_shelves, .int S_isKept, va_rf S_ways])), (aS_shelves, .inl (cS, 8, .inr (.inr (.inr (.inr S_shelves))))), (aT, .inr (4, [.ref aT_numbers, .int T_holds, va_rf T_laying, .int T_sort, .int T_size])), (aT_numbers, .inl (cI, 100, .inl T_numbers))] sz)) (va_Qi (fun (r : Int32) (_ : Unit) => r = res.1) (fun _ => qW (dC, dI) cI cZ cS (va_A [(aS, .inr (6, [.ref aNow, .ref aKept, .ref aMind, .ref aS_shelves, .int S_isKept, va_rf S_ways])), (aS_shelves, .inl (cS, 8, .inr (.inr (.inr (.inr S_shelves))))), (aT, .inr (4, [.ref aT_numbers, .int T_holds, va_rf T_laying, .int T_sort, .int T_size])), (aT_numbers, .inl (cI, 100, .inl T_numbers))] sz) [(aS, .inr (6, [.ref aNow, .ref aKept, .ref aMind, .ref aS_shelves, .int S_isKept, va_rf S_ways])), (aS_shelves, .inl (cS, 8, .inr (.inr (.inr (.inr S_shelves))))), (aT, .inr (4, [.ref aT_numbers, .int T_holds, va_rf T_laying, .int T_sort, .int T_size])), (aT_numbers, .inl (cI, 100, .inl res.2))]) (va_A [(aS, .inr (6, [.ref aNow, .ref aKept, .ref aMind, .ref aS_shelves, .int S_isKept, va_rf S_ways])), (aS_shelves, .inl (cS, 8, .inr (.inr (.inr (.inr S_shelves))))), (aT, .inr (4, [.ref aT_numbers, .int T_holds, va_rf T_laying, .int T_sort, .int T_size])), (aT_numbers, .inl (cI, 100, .inl T_numbers))] sz)) 0 0 (va_A [(aS, .inr (6, [.ref aNow, .ref aKept, .ref aMind, .ref aS_shelves, .int S_isKept, va_rf S_ways])), (aS_shelves, .inl (cS, 8, .inr (.inr (.inr (.inr S_shelves))))), (aT, .inr (4, [.ref aT_numbers, .int T_holds, va_rf T_laying, .int T_sort, .int T_size])), (aT_numbers, .inl (cI, 100, .inl T_numbers))] sz) := by
  refine Met.ofW (cc := cX7_put) (maxL := 5) (ret := (some .int)) (by decide) rfl ?_
  intro p e s m args below meth c s₁ B hml hv
  obtain ⟨rfl, hsz, hP, hK, hD0⟩ := hv
  have hx := B.exec
  have hb := B.bytes
  have hr := B.returns
  have hts := atoms_spec (ws := wsX7_put) B.pre
  have hown : s.vm.findClass RX7 = some m.cls := findClass_of_methodNamed B.named
  have hlocks := B.notSynchronized
  subst hsz
  have hD := hD0.self (sz := s.heap.size)
  generalize hAe : va_A [(aS, .inr (6, [.ref aNow, .ref aKept, .ref aMind, .ref aS_shelves, .int S_isKept, va_rf S_ways])), (aS_shelves, .inl (cS, 8, .inr (.inr (.inr (.inr S_shelves))))), (aT, .inr (4, [.ref aT_numbers, .int T_holds, va_rf T_laying, .int T_sort, .int T_size])), (aT_numbers, .inl (cI, 100, .inl T_numbers))] s.heap.size = A at hD ⊢
  have hA : ∀ q : Nat, s.heap.size ≤ q → A q := fun q h => by rw [← hAe]; exact Or.inr h
  have hS : va_S A s.heap s.heap [] := va_S.rf
  have hl := lv_entry ([.ref aS, .int x1, .int x2, .int x3]) (n := 5) (Nat.le_of_ble_eq_true rfl)
  rw [lg_entry_eq]
  generalize (lg_sl ([.ref aS, .int x1, .int x2, .int x3]) ++ List.replicate (5 - (lg_sl ([.ref aS, .int x1, .int x2, .int x3])).length) Slot.unset).toArray = ls at hl ⊢
  have hl : lv_has ls 5 [(0, .ref aS), (1, .int x1), (2, .int x2), (3, .int x3)] := hl
  unfold f_X7_put at h
  refine lv_aload_n hx hb dX7_put_0 rfl (lv_at hl 0 rfl) ?_
  refine lv_iload_n hx hb dX7_put_1 rfl (lv_at hl 1 rfl) ?_
  obtain ⟨r_1, hg, h⟩ := bd_some h
  refine rdV (As := [.int x1]) (rest := []) (ci := 6) ⟨hx, hb, hml, hown, hts⟩ (k_X7_isShelf l dC dI cI cZ cS N aS aNow aKept aMind aS_shelves S_isKept S_ways x1 r_1 hg) (cwV 1 hts gX7_put_X7_isShelf rfl rfl rfl cd_X7_isShelf ⟨Nat.le_of_ble_eq_true rfl, Nat.le_of_ble_eq_true rfl⟩) hP hD hK [0] (by decide) rfl rfl rfl rfl hl.1 rfl (Nat.le_of_ble_eq_true rfl) dX7_put_2 ⟨Nat.zero_le _, Nat.zero_le _⟩ ?_
  refine lv_if_ne (tgt := 10) hx hb dX7_put_5 (by decide) (fun c_2 => ?_) (fun c_2 => ?_)
  · have h := it_n c_2 h
    refine lv_aload_n hx hb dX7_put_10 rfl (lv_at hl 0 rfl) ?_
    refine lv_iload_n hx hb dX7_put_11 rfl (lv_at hl 1 rfl) ?_
    obtain ⟨r_3, hg, h⟩ := bd_some h
    refine rdV (As := [.int x1]) (rest := []) (ci := 6) ⟨hx, hb, hml, hown, hts⟩ (k_X7_refusalOfNumbers l dC dI cI cZ cS N aS aS_shelves aT aT_numbers aNow aKept aMind S_shelves S_isKept S_ways T_numbers T_holds T_laying T_sort T_size x1 hd r_3 hg) (cwV 1 hts gX7_put_X7_refusalOfNumbers rfl rfl rfl cd_X7_refusalOfNumbers ⟨Nat.le_of_ble_eq_true rfl, Nat.le_of_ble_eq_true rfl⟩) hP hD hK [0, 1, 2, 3] (by decide) rfl rfl rfl rfl hl.1 rfl (Nat.le_of_ble_eq_true rfl) dX7_put_12 ⟨Nat.zero_le _, Nat.zero_le _⟩ ?_
    refine lv_istore (lv' := [(4, .int r_3), (0, .ref aS), (1, .int x1), (2, .int x2), (3, .int x3)]) hx hb dX7_put_15 hl (by decide) rfl (fun ls hl => ?_)
    refine lv_iload hx hb dX7_put_17 (lv_at hl 0 rfl) ?_
    refine lv_if_eq (tgt := 25) hx hb dX7_put_19 (by decide) (fun c_4 => ?_) (fun c_4 => ?_)
    · have h := it_p c_4 h
      refine lv_aload_n hx hb dX7_put_25 rfl (lv_at hl 1 rfl) ?_
      refine va_get (D := (dC, dI)) (ci := 6) (v := .ref aS_shelves) (C := RX7) (T := TX7) (N := 6) hx hb hts (fun _ h => List.mem_cons_of_mem _ (List.mem_append_left _ (List.mem_append_right _ h))) hown hK hP 0 rfl rfl 3 (by decide) (hts (.fieldLink RX7 24 "SlateRows" "shelves" "[LSlateRows$Shelf;") (by decide +kernel)) (fun _ h9 => h9) rfl dX7_put_26 ?_
      refine lv_iload_n hx hb dX7_put_29 rfl (lv_at hl 2 rfl) ?_
      obtain ⟨hi, h⟩ := ck_some h
      refine va_aldq hx hb hK hP 1 2 rfl rfl (gi_in hi) dX7_put_30 ?_
      rw [hd hi]
      show W _ _ _ _ _ _ _ _ _ _ _ _ _ _ _ (F0 _ _ _ [.ref aT])
      refine lv_iload_n hx hb dX7_put_31 rfl (lv_at hl 3 rfl) ?_
      obtain ⟨r_5, hg, h⟩ := bd_some h
      refine rdV (As := [.int x2]) (rest := []) (ci := 4) ⟨hx, hb, hml, hown, hts⟩ (k_X4_hasPlace l dC dI cI cZ cS N aT aT_numbers T_numbers T_holds T_laying T_sort T_size x2 r_5 hg) (cwV 1 hts gX7_put_X4_hasPlace rfl rfl rfl cd_X4_hasPlace ⟨Nat.le_of_ble_eq_true rfl, Nat.le_of_ble_eq_true rfl⟩) hP hD hK [2, 3] (by decide) rfl rfl rfl rfl hl.1 rfl (Nat.le_of_ble_eq_true rfl) dX7_put_32 ⟨Nat.zero_le _, Nat.zero_le _⟩ ?_
      refine lv_if_ne (tgt := 41) hx hb dX7_put_35 (by decide) (fun c_6 => ?_) (fun c_6 => ?_)
      · have h := it_n c_6 h
        refine lv_aload_n hx hb dX7_put_41 rfl (lv_at hl 1 rfl) ?_
        refine va_get (D := (dC, dI)) (ci := 6) (v := .ref aS_shelves) (C := RX7) (T := TX7) (N := 6) hx hb hts (fun _ h => List.mem_cons_of_mem _ (List.mem_append_left _ (List.mem_append_right _ h))) hown hK hP 0 rfl rfl 3 (by decide) (hts (.fieldLink RX7 24 "SlateRows" "shelves" "[LSlateRows$Shelf;") (by decide +kernel)) (fun _ h9 => h9) rfl dX7_put_42 ?_
        refine lv_iload_n hx hb dX7_put_45 rfl (lv_at hl 2 rfl) ?_
        obtain ⟨hi, h⟩ := ck_some h
        refine va_aldq hx hb hK hP 1 2 rfl rfl (gi_in hi) dX7_put_46 ?_
        rw [hd hi]
        show W _ _ _ _ _ _ _ _ _ _ _ _ _ _ _ (F0 _ _ _ [.ref aT])
        refine va_get (D := (dC, dI)) (ci := 4) (v := .ref aT_numbers) (C := RX4) (T := TX4) (N := 5) hx hb hts (fun _ h => List.mem_cons_of_mem _ (List.mem_append_right _ h)) hown hK hP 2 rfl rfl 0 (by decide) (hts (.fieldLink RX7 108 "SlateRows$Shelf" "numbers" "[I") (by decide +kernel)) (fun _ h9 => h9) rfl dX7_put_47 ?_
        refine lv_iload_n hx hb dX7_put_50 rfl (lv_at hl 3 rfl) ?_
        refine lv_aload_n hx hb dX7_put_51 rfl (lv_at hl 1 rfl) ?_
        refine va_get (D := (dC, dI)) (ci := 6) (v := .ref aS_shelves) (C := RX7) (T := TX7) (N := 6) hx hb hts (fun _ h => List.mem_cons_of_mem _ (List.mem_append_left _ (List.mem_append_right _ h))) hown hK hP 0 rfl rfl 3 (by decide) (hts (.fieldLink RX7 24 "SlateRows" "shelves" "[LSlateRows$Shelf;") (by decide +kernel)) (fun _ h9 => h9) rfl dX7_put_52 ?_
        refine lv_iload_n hx hb dX7_put_55 rfl (lv_at hl 2 rfl) ?_
        obtain ⟨hi, h⟩ := ck_some h
        refine va_aldq hx hb hK hP 1 2 rfl rfl (gi_in hi) dX7_put_56 ?_
        rw [hd hi]
        show W _ _ _ _ _ _ _ _ _ _ _ _ _ _ _ (F0 _ _ _ [.ref aT, .int x2, .ref aT_numbers])
        refine lv_iload_n hx hb dX7_put_57 rfl (lv_at hl 4 rfl) ?_
        obtain ⟨r_7, hg, h⟩ := bd_some h
        refine rdV (As := [.int x3]) (rest := [.int x2, .ref aT_numbers]) (ci := 4) ⟨hx, hb, hml, hown, hts⟩ (k_X4_narrowed l dC dI cI cZ cS N aT aT_numbers T_numbers T_holds T_laying T_sort T_size x3 r_7 hg) (cwV 1 hts gX7_put_X4_narrowed rfl rfl rfl cd_X4_narrowed ⟨Nat.le_of_ble_eq_true rfl, Nat.le_of_ble_eq_true rfl⟩) hP hD hK [2, 3] (by decide) rfl rfl rfl rfl hl.1 rfl (Nat.le_of_ble_eq_true rfl) dX7_put_58 ⟨Nat.zero_le _, Nat.zero_le _⟩ ?_
        obtain ⟨hi, h⟩ := ck_some h
        refine va_iast hx hb hK hP hD hS 3 0 rfl rfl (gi_in hi) dX7_put_61 (fun H locs hP hD hS => ?_)
        have hP : va_P (dC, dI) vwCl [(aS, .inr (6, [.ref aNow, .ref aKept, .ref aMind, .ref aS_shelves, .int S_isKept, va_rf S_ways])), (aS_shelves, .inl (cS, 8, .inr (.inr (.inr (.inr S_shelves))))), (aT, .inr (4, [.ref aT_numbers, .int T_holds, va_rf T_laying, .int T_sort, .int T_size])), (aT_numbers, .inl (cI, 100, .inl (upd T_numbers x2.toNatClampNeg r_7)))] H := hP
        have hD : va_D A [(aS, .inr (6, [.ref aNow, .ref aKept, .ref aMind, .ref aS_shelves, .int S_isKept, va_rf S_ways])), (aS_shelves, .inl (cS, 8, .inr (.inr (.inr (.inr S_shelves))))), (aT, .inr (4, [.ref aT_numbers, .int T_holds, va_rf T_laying, .int T_sort, .int T_size])), (aT_numbers, .inl (cI, 100, .inl (upd T_numbers x2.toNatClampNeg r_7)))] := hD
        refine lv_iconst (v := 0) hx hb dX7_put_62 (by decide) ?_
        have h := Option.some.inj h
        exact W.iret hx hb hr (fun t ht hW => ⟨⟨_, (), rfl, by rw [← h], by (try rw [← h]); rw [ht]; exact hP, va_K.moved hW.alike hK, by (try rw [← h]); exact hD⟩, hS.F ht⟩) hS.2.2 dX7_put_63
      · have h := it_p c_6 h
        refine lv_bipush (v := (-13)) hx hb dX7_put_38 (by decide) ?_
        have h := Option.some.inj h
        exact W.iret hx hb hr (fun t ht hW => ⟨⟨_, (), rfl, by rw [← h], by (try rw [← h]); rw [ht]; exact hP, va_K.moved hW.alike hK, by (try rw [← h]); exact hD⟩, hS.F ht⟩) hS.2.2 dX7_put_40
    · have h := it_n c_4 h
      refine lv_iload hx hb dX7_put_22 (lv_at hl 0 rfl) ?_
      have h := Option.some.inj h
      exact W.iret hx hb hr (fun t ht hW => ⟨⟨_, (), rfl, by rw [← h], by (try rw [← h]); rw [ht]; exact hP, va_K.moved hW.alike hK, by (try rw [← h]); exact hD⟩, hS.F ht⟩) hS.2.2 dX7_put_24
  · have h := it_p c_2 h
    refine lv_iconst (v := (-1)) hx hb dX7_put_8 (by decide) ?_
    have h := Option.some.inj h
    exact W.iret hx hb hr (fun t ht hW => ⟨⟨_, (), rfl, by rw [← h], by (try rw [← h]); rw [ht]; exact hP, va_K.moved hW.alike hK, by (try rw [← h]); exact hD⟩, hS.F ht⟩) hS.2.2 dX7_put_9
def f_X7_refusalOfLaying_L (N : Nat) (S_shelves : Nat → Option Nat) (T_holds : Int32) (x1 : Int32) : Option (Int32) :=
  ck (gi x1 8) (if T_holds = 0 then (some ((-11))) else (ck (gi x1 8) (if T_holds = 1 then (ck (gi x1 8) (some (0))) else (some ((-12))))))
set_option maxHeartbeats 4000000 in
set_option maxRecDepth 100000 in
theorem k_X7_refusalOfLaying_L (l : Launch) (dC : Nat → ClassId) (dI : Nat → Nat → Nat) (cI cZ cS : ClassId) (N : Nat) (aS aS_shelves aT aT_numbers aY aNow aKept aMind : Nat) (S_shelves : Nat → Option Nat) (S_isKept : Int32) (S_ways : Option Nat) (T_numbers : Nat → Int32) (T_holds : Int32) (T_sort : Int32) (T_size : Int32) (Y_kind : Int32) (Y_figure : Int32) (x1 : Int32) (hd : gi x1 8 = true → S_shelves x1.toNatClampNeg = some aT) (res : Int32) (h : f_X7_refusalOfLaying_L N S_shelves T_holds x1 = some res) : Met l yX7_refusalOfLaying wsX7_refusalOfLaying ({ frames := 0, cells := 0, slots := 0, locals := 0 }) (va_Pc [.ref aS, .int x1] (wd (dC, dI) cI cZ cS [(aS, .inr (6, [.ref aNow, .ref aKept, .ref aMind, .ref aS_shelves, .int S_isKept, va_rf S_ways])), (aS_shelves, .inl (cS, 8, .inr (.inr (.inr (.inr S_shelves))))), (aT, .inr (4, [.ref aT_numbers, .int T_holds, .ref aY, .int T_sort, .int T_size])), (aT_numbers, .inl (cI, 100, .inl T_numbers)), (aY, .inr (1, [.int Y_kind, .int Y_figure]))])) (vp_Si (fun r => r = res)) 0 0 (fun _ => False) := by
  refine Met.ofW (cc := cX7_refusalOfLaying) (maxL := 2) (ret := (some .int)) (by decide) rfl ?_
  intro p e s m args below meth c s₁ B hml hv
  obtain ⟨rfl, hP, hK, hD⟩ := hv
  have hx := B.exec
  have hb := B.bytes
  have hr := B.returns
  have hts := atoms_spec (ws := wsX7_refusalOfLaying) B.pre
  have hown : s.vm.findClass RX7 = some m.cls := findClass_of_methodNamed B.named
  have hlocks := B.notSynchronized
  have hl := lv_entry ([.ref aS, .int x1]) (n := 2) (Nat.le_of_ble_eq_true rfl)
  rw [lg_entry_eq]
  generalize (lg_sl ([.ref aS, .int x1]) ++ List.replicate (2 - (lg_sl ([.ref aS, .int x1])).length) Slot.unset).toArray = ls at hl ⊢
  have hl : lv_has ls 2 [(0, .ref aS), (1, .int x1)] := hl
  unfold f_X7_refusalOfLaying_L at h
  refine lv_aload_n hx hb dX7_refusalOfLaying_0 rfl (lv_at hl 0 rfl) ?_
  refine va_get (D := (dC, dI)) (ci := 6) (v := .ref aS_shelves) (C := RX7) (T := TX7) (N := 6) hx hb hts (fun _ h => List.mem_cons_of_mem _ (List.mem_append_left _ (List.mem_append_right _ h))) hown hK hP 0 rfl rfl 3 (by decide) (hts (.fieldLink RX7 24 "SlateRows" "shelves" "[LSlateRows$Shelf;") (by decide +kernel)) (fun _ h9 => h9) rfl dX7_refusalOfLaying_1 ?_
  refine lv_iload_n hx hb dX7_refusalOfLaying_4 rfl (lv_at hl 1 rfl) ?_
  obtain ⟨hi, h⟩ := ck_some h
  refine va_aldq hx hb hK hP 1 2 rfl rfl (gi_in hi) dX7_refusalOfLaying_5 ?_
  rw [hd hi]
  show W _ _ _ _ _ _ _ _ _ _ _ _ _ _ _ (F0 _ _ _ [.ref aT])
  refine va_get (D := (dC, dI)) (ci := 4) (v := .int T_holds) (C := RX4) (T := TX4) (N := 5) hx hb hts (fun _ h => List.mem_cons_of_mem _ (List.mem_append_right _ h)) hown hK hP 2 rfl rfl 1 (by decide) (hts (.fieldLink RX7 41 "SlateRows$Shelf" "holds" "I") (by decide +kernel)) (fun _ h9 => h9) rfl dX7_refusalOfLaying_6 ?_
  refine lv_if_ne (tgt := 15) hx hb dX7_refusalOfLaying_9 (by decide) (fun c_1 => ?_) (fun c_1 => ?_)
  · have h := it_n c_1 h
    refine lv_aload_n hx hb dX7_refusalOfLaying_15 rfl (lv_at hl 0 rfl) ?_
    refine va_get (D := (dC, dI)) (ci := 6) (v := .ref aS_shelves) (C := RX7) (T := TX7) (N := 6) hx hb hts (fun _ h => List.mem_cons_of_mem _ (List.mem_append_left _ (List.mem_append_right _ h))) hown hK hP 0 rfl rfl 3 (by decide) (hts (.fieldLink RX7 24 "SlateRows" "shelves" "[LSlateRows$Shelf;") (by decide +kernel)) (fun _ h9 => h9) rfl dX7_refusalOfLaying_16 ?_
    refine lv_iload_n hx hb dX7_refusalOfLaying_19 rfl (lv_at hl 1 rfl) ?_
    obtain ⟨hi, h⟩ := ck_some h
    refine va_aldq hx hb hK hP 1 2 rfl rfl (gi_in hi) dX7_refusalOfLaying_20 ?_
    rw [hd hi]
    show W _ _ _ _ _ _ _ _ _ _ _ _ _ _ _ (F0 _ _ _ [.ref aT])
    refine va_get (D := (dC, dI)) (ci := 4) (v := .int T_holds) (C := RX4) (T := TX4) (N := 5) hx hb hts (fun _ h => List.mem_cons_of_mem _ (List.mem_append_right _ h)) hown hK hP 2 rfl rfl 1 (by decide) (hts (.fieldLink RX7 41 "SlateRows$Shelf" "holds" "I") (by decide +kernel)) (fun _ h9 => h9) rfl dX7_refusalOfLaying_21 ?_
    refine lv_iconst (v := 1) hx hb dX7_refusalOfLaying_24 (by decide) ?_
    refine lv_icmp_ne (tgt := 44) hx hb dX7_refusalOfLaying_25 (by decide) (fun c_2 => ?_) (fun c_2 => ?_)
    · have h := it_n c_2 h
      refine lv_bipush (v := (-12)) hx hb dX7_refusalOfLaying_44 (by decide) ?_
      exact W.iret hx hb hr (fun t ht hW => ⟨_, rfl, Option.some.inj h, ht⟩) (fun q hq => by cases hq) dX7_refusalOfLaying_46
    · have h := it_p c_2 h
      refine lv_aload_n hx hb dX7_refusalOfLaying_28 rfl (lv_at hl 0 rfl) ?_
      refine va_get (D := (dC, dI)) (ci := 6) (v := .ref aS_shelves) (C := RX7) (T := TX7) (N := 6) hx hb hts (fun _ h => List.mem_cons_of_mem _ (List.mem_append_left _ (List.mem_append_right _ h))) hown hK hP 0 rfl rfl 3 (by decide) (hts (.fieldLink RX7 24 "SlateRows" "shelves" "[LSlateRows$Shelf;") (by decide +kernel)) (fun _ h9 => h9) rfl dX7_refusalOfLaying_29 ?_
      refine lv_iload_n hx hb dX7_refusalOfLaying_32 rfl (lv_at hl 1 rfl) ?_
      obtain ⟨hi, h⟩ := ck_some h
      refine va_aldq hx hb hK hP 1 2 rfl rfl (gi_in hi) dX7_refusalOfLaying_33 ?_
      rw [hd hi]
      show W _ _ _ _ _ _ _ _ _ _ _ _ _ _ _ (F0 _ _ _ [.ref aT])
      refine va_get (D := (dC, dI)) (ci := 4) (v := .ref aY) (C := RX4) (T := TX4) (N := 5) hx hb hts (fun _ h => List.mem_cons_of_mem _ (List.mem_append_right _ h)) hown hK hP 2 rfl rfl 2 (by decide) (hts (.fieldLink RX7 193 "SlateRows$Shelf" "laying" "LSlateRows$Laying;") (by decide +kernel)) (fun _ h9 => h9) rfl dX7_refusalOfLaying_34 ?_
      refine lv_ifnull hx hb dX7_refusalOfLaying_37 ?_
      refine lv_iconst (v := 0) hx hb dX7_refusalOfLaying_40 (by decide) ?_
      refine lv_goto (tgt := 46) hx hb dX7_refusalOfLaying_41 (by decide) ?_
      exact W.iret hx hb hr (fun t ht hW => ⟨_, rfl, Option.some.inj h, ht⟩) (fun q hq => by cases hq) dX7_refusalOfLaying_46
  · have h := it_p c_1 h
    refine lv_bipush (v := (-11)) hx hb dX7_refusalOfLaying_12 (by decide) ?_
    exact W.iret hx hb hr (fun t ht hW => ⟨_, rfl, Option.some.inj h, ht⟩) (fun q hq => by cases hq) dX7_refusalOfLaying_14
def f_X7_toil_L (N : Nat) (S_shelves : Nat → Option Nat) (T_holds : Int32) (Y_kind : Int32) (Y_figure : Int32) (x1 : Int32) : Option (Int32) :=
  (f_X7_isShelf N x1).bind fun r_1 => if (b2i r_1) = 0 then (some (((-1000000000) + (-1)))) else ((f_X7_refusalOfLaying_L N S_shelves T_holds x1).bind fun r_4 => if r_4 = 0 then (ck (gi x1 8) ((f_X1_effort N Y_kind Y_figure).bind fun r_6 => some (r_6))) else (some (((-1000000000) + r_4))))
set_option maxHeartbeats 4000000 in
set_option maxRecDepth 100000 in
theorem k_X7_toil_L (l : Launch) (dC : Nat → ClassId) (dI : Nat → Nat → Nat) (cI cZ cS : ClassId) (N : Nat) (aS aS_shelves aT aT_numbers aY aNow aKept aMind : Nat) (S_shelves : Nat → Option Nat) (S_isKept : Int32) (S_ways : Option Nat) (T_numbers : Nat → Int32) (T_holds : Int32) (T_sort : Int32) (T_size : Int32) (Y_kind : Int32) (Y_figure : Int32) (x1 : Int32) (hd : gi x1 8 = true → S_shelves x1.toNatClampNeg = some aT) (res : Int32) (h : f_X7_toil_L N S_shelves T_holds Y_kind Y_figure x1 = some res) : Met l yX7_toil wsX7_toil ({ frames := 1, cells := 0, slots := 0, locals := 21 }) (va_Pc [.ref aS, .int x1] (wd (dC, dI) cI cZ cS [(aS, .inr (6, [.ref aNow, .ref aKept, .ref aMind, .ref aS_shelves, .int S_isKept, va_rf S_ways])), (aS_shelves, .inl (cS, 8, .inr (.inr (.inr (.inr S_shelves))))), (aT, .inr (4, [.ref aT_numbers, .int T_holds, .ref aY, .int T_sort, .int T_size])), (aT_numbers, .inl (cI, 100, .inl T_numbers)), (aY, .inr (1, [.int Y_kind, .int Y_figure]))])) (vp_Si (fun r => r = res)) 0 0 (fun _ => False) := by
  refine Met.ofW (cc := cX7_toil) (maxL := 3) (ret := (some .int)) (by decide) rfl ?_
  intro p e s m args below meth c s₁ B hml hv
  obtain ⟨rfl, hP, hK, hD⟩ := hv
  have hx := B.exec
  have hb := B.bytes
  have hr := B.returns
  have hts := atoms_spec (ws := wsX7_toil) B.pre
  have hown : s.vm.findClass RX7 = some m.cls := findClass_of_methodNamed B.named
  have hlocks := B.notSynchronized
  have hl := lv_entry ([.ref aS, .int x1]) (n := 3) (Nat.le_of_ble_eq_true rfl)
  rw [lg_entry_eq]
  generalize (lg_sl ([.ref aS, .int x1]) ++ List.replicate (3 - (lg_sl ([.ref aS, .int x1])).length) Slot.unset).toArray = ls at hl ⊢
  have hl : lv_has ls 3 [(0, .ref aS), (1, .int x1)] := hl
  unfold f_X7_toil_L at h
  refine lv_aload_n hx hb dX7_toil_0 rfl (lv_at hl 0 rfl) ?_
  refine lv_iload_n hx hb dX7_toil_1 rfl (lv_at hl 1 rfl) ?_
  obtain ⟨r_1, hg, h⟩ := bd_some h
  refine rdV (As := [.int x1]) (rest := []) (ci := 6) ⟨hx, hb, hml, hown, hts⟩ (k_X7_isShelf l dC dI cI cZ cS N aS aNow aKept aMind aS_shelves S_isKept S_ways x1 r_1 hg) (cwV 1 hts gX7_toil_X7_isShelf rfl rfl rfl cd_X7_isShelf ⟨Nat.le_of_ble_eq_true rfl, Nat.le_of_ble_eq_true rfl⟩) hP hD hK [0] (by decide) rfl rfl rfl rfl hl.1 rfl (Nat.le_of_ble_eq_true rfl) dX7_toil_2 ⟨Nat.zero_le _, Nat.zero_le _⟩ ?_
  refine lv_if_eq (tgt := 16) hx hb dX7_toil_5 (by decide) (fun c_2 => ?_) (fun c_2 => ?_)
  · have h := it_p c_2 h
    refine lv_iconst (v := (-1)) hx hb dX7_toil_16 (by decide) ?_
    refine lv_istore_n (lv' := [(2, .int (-1)), (0, .ref aS), (1, .int x1)]) hx hb dX7_toil_17 rfl hl (by decide) rfl (fun ls hl => ?_)
    refine lv_iload_n hx hb dX7_toil_18 rfl (lv_at hl 0 rfl) ?_
    refine lv_if_ne (tgt := 37) hx hb dX7_toil_19 (by decide) (fun c_3 => ?_) (fun c_3 => ?_)
    · skip
      refine lv_ldcw (v := (-1000000000)) hx hb hown (hts (.constant RX7 270 (-1000000000)) (by decide +kernel)) dX7_toil_37 ?_
      refine lv_iload_n hx hb dX7_toil_40 rfl (lv_at hl 0 rfl) ?_
      refine lv_iadd hx hb dX7_toil_41 ?_
      exact W.iret hx hb hr (fun t ht hW => ⟨_, rfl, Option.some.inj h, ht⟩) (fun q hq => by cases hq) dX7_toil_42
    · exact absurd c_3 (by decide)
  · have h := it_n c_2 h
    refine lv_aload_n hx hb dX7_toil_8 rfl (lv_at hl 0 rfl) ?_
    refine lv_iload_n hx hb dX7_toil_9 rfl (lv_at hl 1 rfl) ?_
    obtain ⟨r_4, hg, h⟩ := bd_some h
    refine rdV (As := [.int x1]) (rest := []) (ci := 6) ⟨hx, hb, hml, hown, hts⟩ (k_X7_refusalOfLaying_L l dC dI cI cZ cS N aS aS_shelves aT aT_numbers aY aNow aKept aMind S_shelves S_isKept S_ways T_numbers T_holds T_sort T_size Y_kind Y_figure x1 hd r_4 hg) (cwV 1 hts gX7_toil_X7_refusalOfLaying rfl rfl rfl cd_X7_refusalOfLaying ⟨Nat.le_of_ble_eq_true rfl, Nat.le_of_ble_eq_true rfl⟩) hP hD hK [0, 1, 2, 3, 4] (by decide) rfl rfl rfl rfl hl.1 rfl (Nat.le_of_ble_eq_true rfl) dX7_toil_10 ⟨Nat.zero_le _, Nat.zero_le _⟩ ?_
    refine lv_goto (tgt := 17) hx hb dX7_toil_13 (by decide) ?_
    refine lv_istore_n (lv' := [(2, .int r_4), (0, .ref aS), (1, .int x1)]) hx hb dX7_toil_17 rfl hl (by decide) rfl (fun ls hl => ?_)
    refine lv_iload_n hx hb dX7_toil_18 rfl (lv_at hl 0 rfl) ?_
    refine lv_if_ne (tgt := 37) hx hb dX7_toil_19 (by decide) (fun c_5 => ?_) (fun c_5 => ?_)
    · have h := it_n c_5 h
      refine lv_ldcw (v := (-1000000000)) hx hb hown (hts (.constant RX7 270 (-1000000000)) (by decide +kernel)) dX7_toil_37 ?_
      refine lv_iload_n hx hb dX7_toil_40 rfl (lv_at hl 0 rfl) ?_
      refine lv_iadd hx hb dX7_toil_41 ?_
      exact W.iret hx hb hr (fun t ht hW => ⟨_, rfl, Option.some.inj h, ht⟩) (fun q hq => by cases hq) dX7_toil_42
    · have h := it_p c_5 h
      refine lv_aload_n hx hb dX7_toil_22 rfl (lv_at hl 1 rfl) ?_
      refine va_get (D := (dC, dI)) (ci := 6) (v := .ref aS_shelves) (C := RX7) (T := TX7) (N := 6) hx hb hts (fun _ h => List.mem_cons_of_mem _ (List.mem_append_left _ (List.mem_append_left _ (List.mem_append_right _ h)))) hown hK hP 0 rfl rfl 3 (by decide) (hts (.fieldLink RX7 24 "SlateRows" "shelves" "[LSlateRows$Shelf;") (by decide +kernel)) (fun _ h9 => h9) rfl dX7_toil_23 ?_
      refine lv_iload_n hx hb dX7_toil_26 rfl (lv_at hl 2 rfl) ?_
      obtain ⟨hi, h⟩ := ck_some h
      refine va_aldq hx hb hK hP 1 2 rfl rfl (gi_in hi) dX7_toil_27 ?_
      rw [hd hi]
      show W _ _ _ _ _ _ _ _ _ _ _ _ _ _ _ (F0 _ _ _ [.ref aT])
      refine va_get (D := (dC, dI)) (ci := 4) (v := .ref aY) (C := RX4) (T := TX4) (N := 5) hx hb hts (fun _ h => List.mem_cons_of_mem _ (List.mem_append_left _ (List.mem_append_right _ h))) hown hK hP 2 rfl rfl 2 (by decide) (hts (.fieldLink RX7 193 "SlateRows$Shelf" "laying" "LSlateRows$Laying;") (by decide +kernel)) (fun _ h9 => h9) rfl dX7_toil_28 ?_
      obtain ⟨r_6, hg, h⟩ := bd_some h
      refine rdV (As := []) (rest := []) (ci := 1) ⟨hx, hb, hml, hown, hts⟩ (k_X1_effort l dC dI cI cZ cS N aY Y_kind Y_figure r_6 hg) (cwV 0 hts gX7_toil_X1_effort rfl rfl rfl cd_X1_effort ⟨Nat.le_of_ble_eq_true rfl, Nat.le_of_ble_eq_true rfl⟩) hP hD hK [4] (by decide) rfl rfl rfl rfl hl.1 rfl (Nat.le_of_ble_eq_true rfl) dX7_toil_31 ⟨Nat.zero_le _, Nat.zero_le _⟩ ?_
      refine lv_goto (tgt := 42) hx hb dX7_toil_34 (by decide) ?_
      exact W.iret hx hb hr (fun t ht hW => ⟨_, rfl, Option.some.inj h, ht⟩) (fun q hq => by cases hq) dX7_toil_42
def f_X7_refusalOfLaying_N (N : Nat) (S_shelves : Nat → Option Nat) (T_holds : Int32) (x1 : Int32) : Option (Int32) :=
  ck (gi x1 8) (if T_holds = 0 then (some ((-11))) else (ck (gi x1 8) (if T_holds = 1 then (ck (gi x1 8) (some ((-12)))) else (some ((-12))))))
set_option maxHeartbeats 4000000 in
set_option maxRecDepth 100000 in
theorem k_X7_refusalOfLaying_N (l : Launch) (dC : Nat → ClassId) (dI : Nat → Nat → Nat) (cI cZ cS : ClassId) (N : Nat) (aS aS_shelves aT aT_numbers aNow aKept aMind : Nat) (S_shelves : Nat → Option Nat) (S_isKept : Int32) (S_ways : Option Nat) (T_numbers : Nat → Int32) (T_holds : Int32) (T_sort : Int32) (T_size : Int32) (x1 : Int32) (hd : gi x1 8 = true → S_shelves x1.toNatClampNeg = some aT) (res : Int32) (h : f_X7_refusalOfLaying_N N S_shelves T_holds x1 = some res) : Met l yX7_refusalOfLaying wsX7_refusalOfLaying ({ frames := 0, cells := 0, slots := 0, locals := 0 }) (va_Pc [.ref aS, .int x1] (wd (dC, dI) cI cZ cS [(aS, .inr (6, [.ref aNow, .ref aKept, .ref aMind, .ref aS_shelves, .int S_isKept, va_rf S_ways])), (aS_shelves, .inl (cS, 8, .inr (.inr (.inr (.inr S_shelves))))), (aT, .inr (4, [.ref aT_numbers, .int T_holds, .null, .int T_sort, .int T_size])), (aT_numbers, .inl (cI, 100, .inl T_numbers))])) (vp_Si (fun r => r = res)) 0 0 (fun _ => False) := by
  refine Met.ofW (cc := cX7_refusalOfLaying) (maxL := 2) (ret := (some .int)) (by decide) rfl ?_
  intro p e s m args below meth c s₁ B hml hv
  obtain ⟨rfl, hP, hK, hD⟩ := hv
  have hx := B.exec
  have hb := B.bytes
  have hr := B.returns
  have hts := atoms_spec (ws := wsX7_refusalOfLaying) B.pre
  have hown : s.vm.findClass RX7 = some m.cls := findClass_of_methodNamed B.named
  have hlocks := B.notSynchronized
  have hl := lv_entry ([.ref aS, .int x1]) (n := 2) (Nat.le_of_ble_eq_true rfl)
  rw [lg_entry_eq]
  generalize (lg_sl ([.ref aS, .int x1]) ++ List.replicate (2 - (lg_sl ([.ref aS, .int x1])).length) Slot.unset).toArray = ls at hl ⊢
  have hl : lv_has ls 2 [(0, .ref aS), (1, .int x1)] := hl
  unfold f_X7_refusalOfLaying_N at h
  refine lv_aload_n hx hb dX7_refusalOfLaying_0 rfl (lv_at hl 0 rfl) ?_
  refine va_get (D := (dC, dI)) (ci := 6) (v := .ref aS_shelves) (C := RX7) (T := TX7) (N := 6) hx hb hts (fun _ h => List.mem_cons_of_mem _ (List.mem_append_left _ (List.mem_append_right _ h))) hown hK hP 0 rfl rfl 3 (by decide) (hts (.fieldLink RX7 24 "SlateRows" "shelves" "[LSlateRows$Shelf;") (by decide +kernel)) (fun _ h9 => h9) rfl dX7_refusalOfLaying_1 ?_
  refine lv_iload_n hx hb dX7_refusalOfLaying_4 rfl (lv_at hl 1 rfl) ?_
  obtain ⟨hi, h⟩ := ck_some h
  refine va_aldq hx hb hK hP 1 2 rfl rfl (gi_in hi) dX7_refusalOfLaying_5 ?_
  rw [hd hi]
  show W _ _ _ _ _ _ _ _ _ _ _ _ _ _ _ (F0 _ _ _ [.ref aT])
  refine va_get (D := (dC, dI)) (ci := 4) (v := .int T_holds) (C := RX4) (T := TX4) (N := 5) hx hb hts (fun _ h => List.mem_cons_of_mem _ (List.mem_append_right _ h)) hown hK hP 2 rfl rfl 1 (by decide) (hts (.fieldLink RX7 41 "SlateRows$Shelf" "holds" "I") (by decide +kernel)) (fun _ h9 => h9) rfl dX7_refusalOfLaying_6 ?_
  refine lv_if_ne (tgt := 15) hx hb dX7_refusalOfLaying_9 (by decide) (fun c_1 => ?_) (fun c_1 => ?_)
  · have h := it_n c_1 h
    refine lv_aload_n hx hb dX7_refusalOfLaying_15 rfl (lv_at hl 0 rfl) ?_
    refine va_get (D := (dC, dI)) (ci := 6) (v := .ref aS_shelves) (C := RX7) (T := TX7) (N := 6) hx hb hts (fun _ h => List.mem_cons_of_mem _ (List.mem_append_left _ (List.mem_append_right _ h))) hown hK hP 0 rfl rfl 3 (by decide) (hts (.fieldLink RX7 24 "SlateRows" "shelves" "[LSlateRows$Shelf;") (by decide +kernel)) (fun _ h9 => h9) rfl dX7_refusalOfLaying_16 ?_
    refine lv_iload_n hx hb dX7_refusalOfLaying_19 rfl (lv_at hl 1 rfl) ?_
    obtain ⟨hi, h⟩ := ck_some h
    refine va_aldq hx hb hK hP 1 2 rfl rfl (gi_in hi) dX7_refusalOfLaying_20 ?_
    rw [hd hi]
    show W _ _ _ _ _ _ _ _ _ _ _ _ _ _ _ (F0 _ _ _ [.ref aT])
    refine va_get (D := (dC, dI)) (ci := 4) (v := .int T_holds) (C := RX4) (T := TX4) (N := 5) hx hb hts (fun _ h => List.mem_cons_of_mem _ (List.mem_append_right _ h)) hown hK hP 2 rfl rfl 1 (by decide) (hts (.fieldLink RX7 41 "SlateRows$Shelf" "holds" "I") (by decide +kernel)) (fun _ h9 => h9) rfl dX7_refusalOfLaying_21 ?_
    refine lv_iconst (v := 1) hx hb dX7_refusalOfLaying_24 (by decide) ?_
    refine lv_icmp_ne (tgt := 44) hx hb dX7_refusalOfLaying_25 (by decide) (fun c_2 => ?_) (fun c_2 => ?_)
    · have h := it_n c_2 h
      refine lv_bipush (v := (-12)) hx hb dX7_refusalOfLaying_44 (by decide) ?_
      exact W.iret hx hb hr (fun t ht hW => ⟨_, rfl, Option.some.inj h, ht⟩) (fun q hq => by cases hq) dX7_refusalOfLaying_46
    · have h := it_p c_2 h
      refine lv_aload_n hx hb dX7_refusalOfLaying_28 rfl (lv_at hl 0 rfl) ?_
      refine va_get (D := (dC, dI)) (ci := 6) (v := .ref aS_shelves) (C := RX7) (T := TX7) (N := 6) hx hb hts (fun _ h => List.mem_cons_of_mem _ (List.mem_append_left _ (List.mem_append_right _ h))) hown hK hP 0 rfl rfl 3 (by decide) (hts (.fieldLink RX7 24 "SlateRows" "shelves" "[LSlateRows$Shelf;") (by decide +kernel)) (fun _ h9 => h9) rfl dX7_refusalOfLaying_29 ?_
      refine lv_iload_n hx hb dX7_refusalOfLaying_32 rfl (lv_at hl 1 rfl) ?_
      obtain ⟨hi, h⟩ := ck_some h
      refine va_aldq hx hb hK hP 1 2 rfl rfl (gi_in hi) dX7_refusalOfLaying_33 ?_
      rw [hd hi]
      show W _ _ _ _ _ _ _ _ _ _ _ _ _ _ _ (F0 _ _ _ [.ref aT])
      refine va_get (D := (dC, dI)) (ci := 4) (v := .null) (C := RX4) (T := TX4) (N := 5) hx hb hts (fun _ h => List.mem_cons_of_mem _ (List.mem_append_right _ h)) hown hK hP 2 rfl rfl 2 (by decide) (hts (.fieldLink RX7 193 "SlateRows$Shelf" "laying" "LSlateRows$Laying;") (by decide +kernel)) (fun _ h9 => h9) rfl dX7_refusalOfLaying_34 ?_
      refine lv_ifnullN (tgt := 44) hx hb dX7_refusalOfLaying_37 (by decide) ?_
      refine lv_bipush (v := (-12)) hx hb dX7_refusalOfLaying_44 (by decide) ?_
      exact W.iret hx hb hr (fun t ht hW => ⟨_, rfl, Option.some.inj h, ht⟩) (fun q hq => by cases hq) dX7_refusalOfLaying_46
  · have h := it_p c_1 h
    refine lv_bipush (v := (-11)) hx hb dX7_refusalOfLaying_12 (by decide) ?_
    exact W.iret hx hb hr (fun t ht hW => ⟨_, rfl, Option.some.inj h, ht⟩) (fun q hq => by cases hq) dX7_refusalOfLaying_14
def f_X7_toil_N (N : Nat) (S_shelves : Nat → Option Nat) (T_holds : Int32) (x1 : Int32) : Option (Int32) :=
  (f_X7_isShelf N x1).bind fun r_1 => if (b2i r_1) = 0 then (some (((-1000000000) + (-1)))) else ((f_X7_refusalOfLaying_N N S_shelves T_holds x1).bind fun r_4 => if r_4 = 0 then (ck (gi x1 8) none) else (some (((-1000000000) + r_4))))
set_option maxHeartbeats 4000000 in
set_option maxRecDepth 100000 in
theorem k_X7_toil_N (l : Launch) (dC : Nat → ClassId) (dI : Nat → Nat → Nat) (cI cZ cS : ClassId) (N : Nat) (aS aS_shelves aT aT_numbers aNow aKept aMind : Nat) (S_shelves : Nat → Option Nat) (S_isKept : Int32) (S_ways : Option Nat) (T_numbers : Nat → Int32) (T_holds : Int32) (T_sort : Int32) (T_size : Int32) (x1 : Int32) (hd : gi x1 8 = true → S_shelves x1.toNatClampNeg = some aT) (res : Int32) (h : f_X7_toil_N N S_shelves T_holds x1 = some res) : Met l yX7_toil wsX7_toil ({ frames := 1, cells := 0, slots := 0, locals := 21 }) (va_Pc [.ref aS, .int x1] (wd (dC, dI) cI cZ cS [(aS, .inr (6, [.ref aNow, .ref aKept, .ref aMind, .ref aS_shelves, .int S_isKept, va_rf S_ways])), (aS_shelves, .inl (cS, 8, .inr (.inr (.inr (.inr S_shelves))))), (aT, .inr (4, [.ref aT_numbers, .int T_holds, .null, .int T_sort, .int T_size])), (aT_numbers, .inl (cI, 100, .inl T_numbers))])) (vp_Si (fun r => r = res)) 0 0 (fun _ => False) := by
  refine Met.ofW (cc := cX7_toil) (maxL := 3) (ret := (some .int)) (by decide) rfl ?_
  intro p e s m args below meth c s₁ B hml hv
  obtain ⟨rfl, hP, hK, hD⟩ := hv
  have hx := B.exec
  have hb := B.bytes
  have hr := B.returns
  have hts := atoms_spec (ws := wsX7_toil) B.pre
  have hown : s.vm.findClass RX7 = some m.cls := findClass_of_methodNamed B.named
  have hlocks := B.notSynchronized
  have hl := lv_entry ([.ref aS, .int x1]) (n := 3) (Nat.le_of_ble_eq_true rfl)
  rw [lg_entry_eq]
  generalize (lg_sl ([.ref aS, .int x1]) ++ List.replicate (3 - (lg_sl ([.ref aS, .int x1])).length) Slot.unset).toArray = ls at hl ⊢
  have hl : lv_has ls 3 [(0, .ref aS), (1, .int x1)] := hl
  unfold f_X7_toil_N at h
  refine lv_aload_n hx hb dX7_toil_0 rfl (lv_at hl 0 rfl) ?_
  refine lv_iload_n hx hb dX7_toil_1 rfl (lv_at hl 1 rfl) ?_
  obtain ⟨r_1, hg, h⟩ := bd_some h
  refine rdV (As := [.int x1]) (rest := []) (ci := 6) ⟨hx, hb, hml, hown, hts⟩ (k_X7_isShelf l dC dI cI cZ cS N aS aNow aKept aMind aS_shelves S_isKept S_ways x1 r_1 hg) (cwV 1 hts gX7_toil_X7_isShelf rfl rfl rfl cd_X7_isShelf ⟨Nat.le_of_ble_eq_true rfl, Nat.le_of_ble_eq_true rfl⟩) hP hD hK [0] (by decide) rfl rfl rfl rfl hl.1 rfl (Nat.le_of_ble_eq_true rfl) dX7_toil_2 ⟨Nat.zero_le _, Nat.zero_le _⟩ ?_
  refine lv_if_eq (tgt := 16) hx hb dX7_toil_5 (by decide) (fun c_2 => ?_) (fun c_2 => ?_)
  · have h := it_p c_2 h
    refine lv_iconst (v := (-1)) hx hb dX7_toil_16 (by decide) ?_
    refine lv_istore_n (lv' := [(2, .int (-1)), (0, .ref aS), (1, .int x1)]) hx hb dX7_toil_17 rfl hl (by decide) rfl (fun ls hl => ?_)
    refine lv_iload_n hx hb dX7_toil_18 rfl (lv_at hl 0 rfl) ?_
    refine lv_if_ne (tgt := 37) hx hb dX7_toil_19 (by decide) (fun c_3 => ?_) (fun c_3 => ?_)
    · skip
      refine lv_ldcw (v := (-1000000000)) hx hb hown (hts (.constant RX7 270 (-1000000000)) (by decide +kernel)) dX7_toil_37 ?_
      refine lv_iload_n hx hb dX7_toil_40 rfl (lv_at hl 0 rfl) ?_
      refine lv_iadd hx hb dX7_toil_41 ?_
      exact W.iret hx hb hr (fun t ht hW => ⟨_, rfl, Option.some.inj h, ht⟩) (fun q hq => by cases hq) dX7_toil_42
    · exact absurd c_3 (by decide)
  · have h := it_n c_2 h
    refine lv_aload_n hx hb dX7_toil_8 rfl (lv_at hl 0 rfl) ?_
    refine lv_iload_n hx hb dX7_toil_9 rfl (lv_at hl 1 rfl) ?_
    obtain ⟨r_4, hg, h⟩ := bd_some h
    refine rdV (As := [.int x1]) (rest := []) (ci := 6) ⟨hx, hb, hml, hown, hts⟩ (k_X7_refusalOfLaying_N l dC dI cI cZ cS N aS aS_shelves aT aT_numbers aNow aKept aMind S_shelves S_isKept S_ways T_numbers T_holds T_sort T_size x1 hd r_4 hg) (cwV 1 hts gX7_toil_X7_refusalOfLaying rfl rfl rfl cd_X7_refusalOfLaying ⟨Nat.le_of_ble_eq_true rfl, Nat.le_of_ble_eq_true rfl⟩) hP hD hK [0, 1, 2, 3] (by decide) rfl rfl rfl rfl hl.1 rfl (Nat.le_of_ble_eq_true rfl) dX7_toil_10 ⟨Nat.zero_le _, Nat.zero_le _⟩ ?_
    refine lv_goto (tgt := 17) hx hb dX7_toil_13 (by decide) ?_
    refine lv_istore_n (lv' := [(2, .int r_4), (0, .ref aS), (1, .int x1)]) hx hb dX7_toil_17 rfl hl (by decide) rfl (fun ls hl => ?_)
    refine lv_iload_n hx hb dX7_toil_18 rfl (lv_at hl 0 rfl) ?_
    refine lv_if_ne (tgt := 37) hx hb dX7_toil_19 (by decide) (fun c_5 => ?_) (fun c_5 => ?_)
    · have h := it_n c_5 h
      refine lv_ldcw (v := (-1000000000)) hx hb hown (hts (.constant RX7 270 (-1000000000)) (by decide +kernel)) dX7_toil_37 ?_
      refine lv_iload_n hx hb dX7_toil_40 rfl (lv_at hl 0 rfl) ?_
      refine lv_iadd hx hb dX7_toil_41 ?_
      exact W.iret hx hb hr (fun t ht hW => ⟨_, rfl, Option.some.inj h, ht⟩) (fun q hq => by cases hq) dX7_toil_42
    · have h := it_p c_5 h
      refine lv_aload_n hx hb dX7_toil_22 rfl (lv_at hl 1 rfl) ?_
      refine va_get (D := (dC, dI)) (ci := 6) (v := .ref aS_shelves) (C := RX7) (T := TX7) (N := 6) hx hb hts (fun _ h => List.mem_cons_of_mem _ (List.mem_append_left _ (List.mem_append_left _ (List.mem_append_right _ h)))) hown hK hP 0 rfl rfl 3 (by decide) (hts (.fieldLink RX7 24 "SlateRows" "shelves" "[LSlateRows$Shelf;") (by decide +kernel)) (fun _ h9 => h9) rfl dX7_toil_23 ?_
      refine lv_iload_n hx hb dX7_toil_26 rfl (lv_at hl 2 rfl) ?_
      obtain ⟨hi, h⟩ := ck_some h
      refine va_aldq hx hb hK hP 1 2 rfl rfl (gi_in hi) dX7_toil_27 ?_
      rw [hd hi]
      show W _ _ _ _ _ _ _ _ _ _ _ _ _ _ _ (F0 _ _ _ [.ref aT])
      refine va_get (D := (dC, dI)) (ci := 4) (v := .null) (C := RX4) (T := TX4) (N := 5) hx hb hts (fun _ h => List.mem_cons_of_mem _ (List.mem_append_left _ (List.mem_append_right _ h))) hown hK hP 2 rfl rfl 2 (by decide) (hts (.fieldLink RX7 193 "SlateRows$Shelf" "laying" "LSlateRows$Laying;") (by decide +kernel)) (fun _ h9 => h9) rfl dX7_toil_28 ?_
      cases h
def f_X7_copy (N : Nat) (S_shelves : Nat → Option Nat) (T_numbers : Nat → Int32) (T_holds : Int32) (T_sort : Int32) (T_size : Int32) (T2_numbers : Nat → Int32) (T2_holds : Int32) (T2_sort : Int32) (T2_size : Int32) (x1 : Int32) (x2 : Int32) (x3 : Int32) (x4 : Int32) (x5 : Int32) : Option (Int32 × (Nat → Int32)) :=
  (f_X7_isShelf N x1).bind fun r_1 => if (b2i r_1) = 0 then (some ((-1), T2_numbers)) else ((f_X7_isShelf N x3).bind fun r_3 => if (b2i r_3) = 0 then (some ((-1), T2_numbers)) else (ck (gi x1 8) (ck (gi x3 8) (if T_holds = 0 then (some ((-11), T2_numbers)) else (if T2_holds = 0 then (some ((-11), T2_numbers)) else (if T_holds = 2 then (if T2_holds = 2 then (if T_sort = T2_sort then ((f_X4_hasStretch N T_size x2 x5).bind fun r_10 => if (b2i r_10) = 0 then (some ((-13), T2_numbers)) else ((f_X4_hasStretch N T2_size x4 x5).bind fun r_12 => if (b2i r_12) = 0 then (some ((-13), T2_numbers)) else (ck (cpk x2 x4 x5 100 100) (some (x5, (va_cpy T_numbers T2_numbers x2.toNatClampNeg x4.toNatClampNeg x5.toNatClampNeg)))))) else (some ((-12), T2_numbers))) else (some ((-12), T2_numbers))) else (some ((-12), T2_numbers))))))))
set_option maxHeartbeats 4000000 in
set_option maxRecDepth 100000 in
theorem k_X7_copy (l : Launch) (dC : Nat → ClassId) (dI : Nat → Nat → Nat) (cI cZ cS : ClassId) (N : Nat) (aS aS_shelves aT aT_numbers aT2 aT2_numbers aNow aKept aMind : Nat) (sz : Nat) (S_shelves : Nat → Option Nat) (S_isKept : Int32) (S_ways : Option Nat) (T_numbers : Nat → Int32) (T_holds : Int32) (T_laying : Option Nat) (T_sort : Int32) (T_size : Int32) (T2_numbers : Nat → Int32) (T2_holds : Int32) (T2_laying : Option Nat) (T2_sort : Int32) (T2_size : Int32) (x1 : Int32) (x2 : Int32) (x3 : Int32) (x4 : Int32) (x5 : Int32) (hd : gi x1 8 = true → S_shelves x1.toNatClampNeg = some aT) (he : gi x3 8 = true → S_shelves x3.toNatClampNeg = some aT2) (res : Int32 × (Nat → Int32)) (h : f_X7_copy N S_shelves T_numbers T_holds T_sort T_size T2_numbers T2_holds T2_sort T2_size x1 x2 x3 x4 x5 = some res) : Met l yX7_copy wsX7_copy ({ frames := 1, cells := 0, slots := 0, locals := 40 }) (va_Pc [.ref aS, .int x1, .int x2, .int x3, .int x4, .int x5] (preW (dC, dI) cI cZ cS [(aS, .inr (6, [.ref aNow, .ref aKept, .ref aMind, .ref aS_shelves, .int S_isKept, va_rf S_ways])), (aS_shelves, .inl (cS, 8, .inr (.inr (.inr (.inr S_shelves))))), (aT, .inr (4, [.ref aT_numbers, .int T_holds, va_rf T_laying, .int T_sort, .int T_size])), (aT_numbers, .inl (cI, 100, .inl T_numbers)), (aT2, .inr (4, [.ref aT2_numbers, .int T2_holds, va_rf T2_laying, .int T2_sort, .int T2_size])), (aT2_numbers, .inl (cI, 100, .inl T2_numbers))] sz)) (va_Qi (fun (r : Int32) (_ : Unit) => r = res.1) (fun _ => qW (dC, dI) cI cZ cS (va_A [(aS, .inr (6, [.ref aNow, .ref aKept, .ref aMind, .ref aS_shelves, .int S_isKept, va_rf S_ways])), (aS_shelves, .inl (cS, 8, .inr (.inr (.inr (.inr S_shelves))))), (aT, .inr (4, [.ref aT_numbers, .int T_holds, va_rf T_laying, .int T_sort, .int T_size])), (aT_numbers, .inl (cI, 100, .inl T_numbers)), (aT2, .inr (4, [.ref aT2_numbers, .int T2_holds, va_rf T2_laying, .int T2_sort, .int T2_size])), (aT2_numbers, .inl (cI, 100, .inl T2_numbers))] sz) [(aS, .inr (6, [.ref aNow, .ref aKept, .ref aMind, .ref aS_shelves, .int S_isKept, va_rf S_ways])), (aS_shelves, .inl (cS, 8, .inr (.inr (.inr (.inr S_shelves))))), (aT, .inr (4, [.ref aT_numbers, .int T_holds, va_rf T_laying, .int T_sort, .int T_size])), (aT_numbers, .inl (cI, 100, .inl T_numbers)), (aT2, .inr (4, [.ref aT2_numbers, .int T2_holds, va_rf T2_laying, .int T2_sort, .int T2_size])), (aT2_numbers, .inl (cI, 100, .inl res.2))]) (va_A [(aS, .inr (6, [.ref aNow, .ref aKept, .ref aMind, .ref aS_shelves, .int S_isKept, va_rf S_ways])), (aS_shelves, .inl (cS, 8, .inr (.inr (.inr (.inr S_shelves))))), (aT, .inr (4, [.ref aT_numbers, .int T_holds, va_rf T_laying, .int T_sort, .int T_size])), (aT_numbers, .inl (cI, 100, .inl T_numbers)), (aT2, .inr (4, [.ref aT2_numbers, .int T2_holds, va_rf T2_laying, .int T2_sort, .int T2_size])), (aT2_numbers, .inl (cI, 100, .inl T2_numbers))] sz)) 0 0 (va_A [(aS, .inr (6, [.ref aNow, .ref aKept, .ref aMind, .ref aS_shelves, .int S_isKept, va_rf S_ways])), (aS_shelves, .inl (cS, 8, .inr (.inr (.inr (.inr S_shelves))))), (aT, .inr (4, [.ref aT_numbers, .int T_holds, va_rf T_laying, .int T_sort, .int T_size])), (aT_numbers, .inl (cI, 100, .inl T_numbers)), (aT2, .inr (4, [.ref aT2_numbers, .int T2_holds, va_rf T2_laying, .int T2_sort, .int T2_size])), (aT2_numbers, .inl (cI, 100, .inl T2_numbers))] sz) := by
  refine Met.ofW (cc := cX7_copy) (maxL := 8) (ret := (some .int)) (by decide) rfl ?_
  intro p e s m args below meth c s₁ B hml hv
  obtain ⟨rfl, hsz, hP, hK, hD0⟩ := hv
  have hx := B.exec
  have hb := B.bytes
  have hr := B.returns
  have hts := atoms_spec (ws := wsX7_copy) B.pre
  have hown : s.vm.findClass RX7 = some m.cls := findClass_of_methodNamed B.named
  have hlocks := B.notSynchronized
  subst hsz
  have hD := hD0.self (sz := s.heap.size)
  generalize hAe : va_A [(aS, .inr (6, [.ref aNow, .ref aKept, .ref aMind, .ref aS_shelves, .int S_isKept, va_rf S_ways])), (aS_shelves, .inl (cS, 8, .inr (.inr (.inr (.inr S_shelves))))), (aT, .inr (4, [.ref aT_numbers, .int T_holds, va_rf T_laying, .int T_sort, .int T_size])), (aT_numbers, .inl (cI, 100, .inl T_numbers)), (aT2, .inr (4, [.ref aT2_numbers, .int T2_holds, va_rf T2_laying, .int T2_sort, .int T2_size])), (aT2_numbers, .inl (cI, 100, .inl T2_numbers))] s.heap.size = A at hD ⊢
  have hA : ∀ q : Nat, s.heap.size ≤ q → A q := fun q h => by rw [← hAe]; exact Or.inr h
  have hS : va_S A s.heap s.heap [] := va_S.rf
  have hl := lv_entry ([.ref aS, .int x1, .int x2, .int x3, .int x4, .int x5]) (n := 8) (Nat.le_of_ble_eq_true rfl)
  rw [lg_entry_eq]
  generalize (lg_sl ([.ref aS, .int x1, .int x2, .int x3, .int x4, .int x5]) ++ List.replicate (8 - (lg_sl ([.ref aS, .int x1, .int x2, .int x3, .int x4, .int x5])).length) Slot.unset).toArray = ls at hl ⊢
  have hl : lv_has ls 8 [(0, .ref aS), (1, .int x1), (2, .int x2), (3, .int x3), (4, .int x4), (5, .int x5)] := hl
  unfold f_X7_copy at h
  refine lv_aload_n hx hb dX7_copy_0 rfl (lv_at hl 0 rfl) ?_
  refine lv_iload_n hx hb dX7_copy_1 rfl (lv_at hl 1 rfl) ?_
  obtain ⟨r_1, hg, h⟩ := bd_some h
  refine rdV (As := [.int x1]) (rest := []) (ci := 6) ⟨hx, hb, hml, hown, hts⟩ (k_X7_isShelf l dC dI cI cZ cS N aS aNow aKept aMind aS_shelves S_isKept S_ways x1 r_1 hg) (cwV 1 hts gX7_copy_X7_isShelf rfl rfl rfl cd_X7_isShelf ⟨Nat.le_of_ble_eq_true rfl, Nat.le_of_ble_eq_true rfl⟩) hP hD hK [0] (by decide) rfl rfl rfl rfl hl.1 rfl (Nat.le_of_ble_eq_true rfl) dX7_copy_2 ⟨Nat.zero_le _, Nat.zero_le _⟩ ?_
  refine lv_if_eq (tgt := 16) hx hb dX7_copy_5 (by decide) (fun c_2 => ?_) (fun c_2 => ?_)
  · have h := it_p c_2 h
    refine lv_iconst (v := (-1)) hx hb dX7_copy_16 (by decide) ?_
    have h := Option.some.inj h
    exact W.iret hx hb hr (fun t ht hW => ⟨⟨_, (), rfl, by rw [← h], by (try rw [← h]); rw [ht]; exact hP, va_K.moved hW.alike hK, by (try rw [← h]); exact hD⟩, hS.F ht⟩) hS.2.2 dX7_copy_17
  · have h := it_n c_2 h
    refine lv_aload_n hx hb dX7_copy_8 rfl (lv_at hl 0 rfl) ?_
    refine lv_iload_n hx hb dX7_copy_9 rfl (lv_at hl 3 rfl) ?_
    obtain ⟨r_3, hg, h⟩ := bd_some h
    refine rdV (As := [.int x3]) (rest := []) (ci := 6) ⟨hx, hb, hml, hown, hts⟩ (k_X7_isShelf l dC dI cI cZ cS N aS aNow aKept aMind aS_shelves S_isKept S_ways x3 r_3 hg) (cwV 1 hts gX7_copy_X7_isShelf rfl rfl rfl cd_X7_isShelf ⟨Nat.le_of_ble_eq_true rfl, Nat.le_of_ble_eq_true rfl⟩) hP hD hK [0] (by decide) rfl rfl rfl rfl hl.1 rfl (Nat.le_of_ble_eq_true rfl) dX7_copy_10 ⟨Nat.zero_le _, Nat.zero_le _⟩ ?_
    refine lv_if_ne (tgt := 18) hx hb dX7_copy_13 (by decide) (fun c_4 => ?_) (fun c_4 => ?_)
    · have h := it_n c_4 h
      refine lv_aload_n hx hb dX7_copy_18 rfl (lv_at hl 0 rfl) ?_
      refine va_get (D := (dC, dI)) (ci := 6) (v := .ref aS_shelves) (C := RX7) (T := TX7) (N := 6) hx hb hts (fun _ h => List.mem_cons_of_mem _ (List.mem_append_left _ (List.mem_append_right _ h))) hown hK hP 0 rfl rfl 3 (by decide) (hts (.fieldLink RX7 24 "SlateRows" "shelves" "[LSlateRows$Shelf;") (by decide +kernel)) (fun _ h9 => h9) rfl dX7_copy_19 ?_
      refine lv_iload_n hx hb dX7_copy_22 rfl (lv_at hl 1 rfl) ?_
      obtain ⟨hi, h⟩ := ck_some h
      refine va_aldq hx hb hK hP 1 2 rfl rfl (gi_in hi) dX7_copy_23 ?_
      rw [hd hi]
      show W _ _ _ _ _ _ _ _ _ _ _ _ _ _ _ (F0 _ _ _ [.ref aT])
      refine lv_astore (lv' := [(6, .ref aT), (0, .ref aS), (1, .int x1), (2, .int x2), (3, .int x3), (4, .int x4), (5, .int x5)]) hx hb dX7_copy_24 hl (by decide) rfl (fun ls hl => ?_)
      refine lv_aload_n hx hb dX7_copy_26 rfl (lv_at hl 1 rfl) ?_
      refine va_get (D := (dC, dI)) (ci := 6) (v := .ref aS_shelves) (C := RX7) (T := TX7) (N := 6) hx hb hts (fun _ h => List.mem_cons_of_mem _ (List.mem_append_left _ (List.mem_append_right _ h))) hown hK hP 0 rfl rfl 3 (by decide) (hts (.fieldLink RX7 24 "SlateRows" "shelves" "[LSlateRows$Shelf;") (by decide +kernel)) (fun _ h9 => h9) rfl dX7_copy_27 ?_
      refine lv_iload_n hx hb dX7_copy_30 rfl (lv_at hl 4 rfl) ?_
      obtain ⟨hi, h⟩ := ck_some h
      refine va_aldq hx hb hK hP 1 2 rfl rfl (gi_in hi) dX7_copy_31 ?_
      rw [he hi]
      show W _ _ _ _ _ _ _ _ _ _ _ _ _ _ _ (F0 _ _ _ [.ref aT2])
      refine lv_astore (lv' := [(7, .ref aT2), (6, .ref aT), (0, .ref aS), (1, .int x1), (2, .int x2), (3, .int x3), (4, .int x4), (5, .int x5)]) hx hb dX7_copy_32 hl (by decide) rfl (fun ls hl => ?_)
      refine lv_aload hx hb dX7_copy_34 (lv_at hl 1 rfl) ?_
      refine va_get (D := (dC, dI)) (ci := 4) (v := .int T_holds) (C := RX4) (T := TX4) (N := 5) hx hb hts (fun _ h => List.mem_cons_of_mem _ (List.mem_append_right _ h)) hown hK hP 2 rfl rfl 1 (by decide) (hts (.fieldLink RX7 41 "SlateRows$Shelf" "holds" "I") (by decide +kernel)) (fun _ h9 => h9) rfl dX7_copy_36 ?_
      refine lv_if_eq (tgt := 50) hx hb dX7_copy_39 (by decide) (fun c_5 => ?_) (fun c_5 => ?_)
      · have h := it_p c_5 h
        refine lv_bipush (v := (-11)) hx hb dX7_copy_50 (by decide) ?_
        have h := Option.some.inj h
        exact W.iret hx hb hr (fun t ht hW => ⟨⟨_, (), rfl, by rw [← h], by (try rw [← h]); rw [ht]; exact hP, va_K.moved hW.alike hK, by (try rw [← h]); exact hD⟩, hS.F ht⟩) hS.2.2 dX7_copy_52
      · have h := it_n c_5 h
        refine lv_aload hx hb dX7_copy_42 (lv_at hl 0 rfl) ?_
        refine va_get (D := (dC, dI)) (ci := 4) (v := .int T2_holds) (C := RX4) (T := TX4) (N := 5) hx hb hts (fun _ h => List.mem_cons_of_mem _ (List.mem_append_right _ h)) hown hK hP 4 rfl rfl 1 (by decide) (hts (.fieldLink RX7 41 "SlateRows$Shelf" "holds" "I") (by decide +kernel)) (fun _ h9 => h9) rfl dX7_copy_44 ?_
        refine lv_if_ne (tgt := 53) hx hb dX7_copy_47 (by decide) (fun c_6 => ?_) (fun c_6 => ?_)
        · have h := it_n c_6 h
          refine lv_aload hx hb dX7_copy_53 (lv_at hl 1 rfl) ?_
          refine va_get (D := (dC, dI)) (ci := 4) (v := .int T_holds) (C := RX4) (T := TX4) (N := 5) hx hb hts (fun _ h => List.mem_cons_of_mem _ (List.mem_append_right _ h)) hown hK hP 2 rfl rfl 1 (by decide) (hts (.fieldLink RX7 41 "SlateRows$Shelf" "holds" "I") (by decide +kernel)) (fun _ h9 => h9) rfl dX7_copy_55 ?_
          refine lv_iconst (v := 2) hx hb dX7_copy_58 (by decide) ?_
          refine lv_icmp_ne (tgt := 84) hx hb dX7_copy_59 (by decide) (fun c_7 => ?_) (fun c_7 => ?_)
          · have h := it_n c_7 h
            refine lv_bipush (v := (-12)) hx hb dX7_copy_84 (by decide) ?_
            have h := Option.some.inj h
            exact W.iret hx hb hr (fun t ht hW => ⟨⟨_, (), rfl, by rw [← h], by (try rw [← h]); rw [ht]; exact hP, va_K.moved hW.alike hK, by (try rw [← h]); exact hD⟩, hS.F ht⟩) hS.2.2 dX7_copy_86
          · have h := it_p c_7 h
            refine lv_aload hx hb dX7_copy_62 (lv_at hl 0 rfl) ?_
            refine va_get (D := (dC, dI)) (ci := 4) (v := .int T2_holds) (C := RX4) (T := TX4) (N := 5) hx hb hts (fun _ h => List.mem_cons_of_mem _ (List.mem_append_right _ h)) hown hK hP 4 rfl rfl 1 (by decide) (hts (.fieldLink RX7 41 "SlateRows$Shelf" "holds" "I") (by decide +kernel)) (fun _ h9 => h9) rfl dX7_copy_64 ?_
            refine lv_iconst (v := 2) hx hb dX7_copy_67 (by decide) ?_
            refine lv_icmp_ne (tgt := 84) hx hb dX7_copy_68 (by decide) (fun c_8 => ?_) (fun c_8 => ?_)
            · have h := it_n c_8 h
              refine lv_bipush (v := (-12)) hx hb dX7_copy_84 (by decide) ?_
              have h := Option.some.inj h
              exact W.iret hx hb hr (fun t ht hW => ⟨⟨_, (), rfl, by rw [← h], by (try rw [← h]); rw [ht]; exact hP, va_K.moved hW.alike hK, by (try rw [← h]); exact hD⟩, hS.F ht⟩) hS.2.2 dX7_copy_86
            · have h := it_p c_8 h
              refine lv_aload hx hb dX7_copy_71 (lv_at hl 1 rfl) ?_
              refine va_get (D := (dC, dI)) (ci := 4) (v := .int T_sort) (C := RX4) (T := TX4) (N := 5) hx hb hts (fun _ h => List.mem_cons_of_mem _ (List.mem_append_right _ h)) hown hK hP 2 rfl rfl 3 (by decide) (hts (.fieldLink RX7 45 "SlateRows$Shelf" "sort" "I") (by decide +kernel)) (fun _ h9 => h9) rfl dX7_copy_73 ?_
              refine lv_aload hx hb dX7_copy_76 (lv_at hl 0 rfl) ?_
              refine va_get (D := (dC, dI)) (ci := 4) (v := .int T2_sort) (C := RX4) (T := TX4) (N := 5) hx hb hts (fun _ h => List.mem_cons_of_mem _ (List.mem_append_right _ h)) hown hK hP 4 rfl rfl 3 (by decide) (hts (.fieldLink RX7 45 "SlateRows$Shelf" "sort" "I") (by decide +kernel)) (fun _ h9 => h9) rfl dX7_copy_78 ?_
              refine lv_icmp_eq (tgt := 87) hx hb dX7_copy_81 (by decide) (fun c_9 => ?_) (fun c_9 => ?_)
              · have h := it_p c_9 h
                refine lv_aload hx hb dX7_copy_87 (lv_at hl 1 rfl) ?_
                refine lv_iload_n hx hb dX7_copy_89 rfl (lv_at hl 4 rfl) ?_
                refine lv_iload hx hb dX7_copy_90 (lv_at hl 7 rfl) ?_
                obtain ⟨r_10, hg, h⟩ := bd_some h
                refine rdV (As := [.int x2, .int x5]) (rest := []) (ci := 4) ⟨hx, hb, hml, hown, hts⟩ (k_X4_hasStretch l dC dI cI cZ cS N aT aT_numbers T_numbers T_holds T_laying T_sort T_size x2 x5 r_10 hg) (cwV 2 hts gX7_copy_X4_hasStretch rfl rfl rfl cd_X4_hasStretch ⟨Nat.le_of_ble_eq_true rfl, Nat.le_of_ble_eq_true rfl⟩) hP hD hK [2, 3] (by decide) rfl rfl rfl rfl hl.1 rfl (Nat.le_of_ble_eq_true rfl) dX7_copy_92 ⟨Nat.zero_le _, Nat.zero_le _⟩ ?_
                refine lv_if_eq (tgt := 110) hx hb dX7_copy_95 (by decide) (fun c_11 => ?_) (fun c_11 => ?_)
                · have h := it_p c_11 h
                  refine lv_bipush (v := (-13)) hx hb dX7_copy_110 (by decide) ?_
                  have h := Option.some.inj h
                  exact W.iret hx hb hr (fun t ht hW => ⟨⟨_, (), rfl, by rw [← h], by (try rw [← h]); rw [ht]; exact hP, va_K.moved hW.alike hK, by (try rw [← h]); exact hD⟩, hS.F ht⟩) hS.2.2 dX7_copy_112
                · have h := it_n c_11 h
                  refine lv_aload hx hb dX7_copy_98 (lv_at hl 0 rfl) ?_
                  refine lv_iload hx hb dX7_copy_100 (lv_at hl 6 rfl) ?_
                  refine lv_iload hx hb dX7_copy_102 (lv_at hl 7 rfl) ?_
                  obtain ⟨r_12, hg, h⟩ := bd_some h
                  refine rdV (As := [.int x4, .int x5]) (rest := []) (ci := 4) ⟨hx, hb, hml, hown, hts⟩ (k_X4_hasStretch l dC dI cI cZ cS N aT2 aT2_numbers T2_numbers T2_holds T2_laying T2_sort T2_size x4 x5 r_12 hg) (cwV 2 hts gX7_copy_X4_hasStretch rfl rfl rfl cd_X4_hasStretch ⟨Nat.le_of_ble_eq_true rfl, Nat.le_of_ble_eq_true rfl⟩) hP hD hK [4, 5] (by decide) rfl rfl rfl rfl hl.1 rfl (Nat.le_of_ble_eq_true rfl) dX7_copy_104 ⟨Nat.zero_le _, Nat.zero_le _⟩ ?_
                  refine lv_if_ne (tgt := 113) hx hb dX7_copy_107 (by decide) (fun c_13 => ?_) (fun c_13 => ?_)
                  · have h := it_n c_13 h
                    refine lv_aload hx hb dX7_copy_113 (lv_at hl 1 rfl) ?_
                    refine va_get (D := (dC, dI)) (ci := 4) (v := .ref aT_numbers) (C := RX4) (T := TX4) (N := 5) hx hb hts (fun _ h => List.mem_cons_of_mem _ (List.mem_append_right _ h)) hown hK hP 2 rfl rfl 0 (by decide) (hts (.fieldLink RX7 108 "SlateRows$Shelf" "numbers" "[I") (by decide +kernel)) (fun _ h9 => h9) rfl dX7_copy_115 ?_
                    refine lv_iload_n hx hb dX7_copy_118 rfl (lv_at hl 4 rfl) ?_
                    refine lv_aload hx hb dX7_copy_119 (lv_at hl 0 rfl) ?_
                    refine va_get (D := (dC, dI)) (ci := 4) (v := .ref aT2_numbers) (C := RX4) (T := TX4) (N := 5) hx hb hts (fun _ h => List.mem_cons_of_mem _ (List.mem_append_right _ h)) hown hK hP 4 rfl rfl 0 (by decide) (hts (.fieldLink RX7 108 "SlateRows$Shelf" "numbers" "[I") (by decide +kernel)) (fun _ h9 => h9) rfl dX7_copy_121 ?_
                    refine lv_iload hx hb dX7_copy_124 (lv_at hl 6 rfl) ?_
                    refine lv_iload hx hb dX7_copy_126 (lv_at hl 7 rfl) ?_
                    obtain ⟨hcp, h⟩ := ck_some h
                    refine va_copyi hx hb (hml.trans hl.1.symm) hown (hts (.methodLink RX7 261 arraycopyName) (by decide +kernel)) (hts (.native arraycopyName) (by decide +kernel)) (hts (.static arraycopyName) (by decide +kernel)) (hts (.initialized "java/lang/System") (by decide +kernel)) hK hP hD hS 3 5 0 0 rfl rfl rfl rfl rfl (cpk_1 hcp) (cpk_2 hcp) (cpk_3 hcp) (cpk_4 hcp) (cpk_5 hcp) (fun _ _ => rfl) (Nat.le_of_ble_eq_true rfl) (Nat.le_of_ble_eq_true rfl) dX7_copy_128 (fun H locs hP hD hS => ?_)
                    have hP : va_P (dC, dI) vwCl [(aS, .inr (6, [.ref aNow, .ref aKept, .ref aMind, .ref aS_shelves, .int S_isKept, va_rf S_ways])), (aS_shelves, .inl (cS, 8, .inr (.inr (.inr (.inr S_shelves))))), (aT, .inr (4, [.ref aT_numbers, .int T_holds, va_rf T_laying, .int T_sort, .int T_size])), (aT_numbers, .inl (cI, 100, .inl T_numbers)), (aT2, .inr (4, [.ref aT2_numbers, .int T2_holds, va_rf T2_laying, .int T2_sort, .int T2_size])), (aT2_numbers, .inl (cI, 100, .inl (va_cpy T_numbers T2_numbers x2.toNatClampNeg x4.toNatClampNeg x5.toNatClampNeg)))] H := hP
                    have hD : va_D A [(aS, .inr (6, [.ref aNow, .ref aKept, .ref aMind, .ref aS_shelves, .int S_isKept, va_rf S_ways])), (aS_shelves, .inl (cS, 8, .inr (.inr (.inr (.inr S_shelves))))), (aT, .inr (4, [.ref aT_numbers, .int T_holds, va_rf T_laying, .int T_sort, .int T_size])), (aT_numbers, .inl (cI, 100, .inl T_numbers)), (aT2, .inr (4, [.ref aT2_numbers, .int T2_holds, va_rf T2_laying, .int T2_sort, .int T2_size])), (aT2_numbers, .inl (cI, 100, .inl (va_cpy T_numbers T2_numbers x2.toNatClampNeg x4.toNatClampNeg x5.toNatClampNeg)))] := hD
                    refine lv_iload hx hb dX7_copy_131 (lv_at hl 7 rfl) ?_
                    have h := Option.some.inj h
                    exact W.iret hx hb hr (fun t ht hW => ⟨⟨_, (), rfl, by rw [← h], by (try rw [← h]); rw [ht]; exact hP, va_K.moved hW.alike hK, by (try rw [← h]); exact hD⟩, hS.F ht⟩) hS.2.2 dX7_copy_133
                  · have h := it_p c_13 h
                    refine lv_bipush (v := (-13)) hx hb dX7_copy_110 (by decide) ?_
                    have h := Option.some.inj h
                    exact W.iret hx hb hr (fun t ht hW => ⟨⟨_, (), rfl, by rw [← h], by (try rw [← h]); rw [ht]; exact hP, va_K.moved hW.alike hK, by (try rw [← h]); exact hD⟩, hS.F ht⟩) hS.2.2 dX7_copy_112
              · have h := it_n c_9 h
                refine lv_bipush (v := (-12)) hx hb dX7_copy_84 (by decide) ?_
                have h := Option.some.inj h
                exact W.iret hx hb hr (fun t ht hW => ⟨⟨_, (), rfl, by rw [← h], by (try rw [← h]); rw [ht]; exact hP, va_K.moved hW.alike hK, by (try rw [← h]); exact hD⟩, hS.F ht⟩) hS.2.2 dX7_copy_86
        · have h := it_p c_6 h
          refine lv_bipush (v := (-11)) hx hb dX7_copy_50 (by decide) ?_
          have h := Option.some.inj h
          exact W.iret hx hb hr (fun t ht hW => ⟨⟨_, (), rfl, by rw [← h], by (try rw [← h]); rw [ht]; exact hP, va_K.moved hW.alike hK, by (try rw [← h]); exact hD⟩, hS.F ht⟩) hS.2.2 dX7_copy_52
    · have h := it_p c_4 h
      refine lv_iconst (v := (-1)) hx hb dX7_copy_16 (by decide) ?_
      have h := Option.some.inj h
      exact W.iret hx hb hr (fun t ht hW => ⟨⟨_, (), rfl, by rw [← h], by (try rw [← h]); rw [ht]; exact hP, va_K.moved hW.alike hK, by (try rw [← h]); exact hD⟩, hS.F ht⟩) hS.2.2 dX7_copy_17
