theorem cd_X7_image : yX7_image.cls = RX7 ∧ yX7_image.cls ≠ "java/lang/invoke/MethodHandle" ∧ yX7_image.cls ≠ "java/lang/invoke/VarHandle" ∧ (parseMethodDescriptor yX7_image.desc).map (fun d => d.parameters.length) = some 0 := by decide +kernel
theorem cd_X7_restore : yX7_restore.cls = RX7 ∧ yX7_restore.cls ≠ "java/lang/invoke/MethodHandle" ∧ yX7_restore.cls ≠ "java/lang/invoke/VarHandle" ∧ (parseMethodDescriptor yX7_restore.desc).map (fun d => d.parameters.length) = some 0 := by decide +kernel
theorem cd_X7_leastTogether : yX7_leastTogether.cls = RX7 ∧ yX7_leastTogether.cls ≠ "java/lang/invoke/MethodHandle" ∧ yX7_leastTogether.cls ≠ "java/lang/invoke/VarHandle" ∧ (parseMethodDescriptor yX7_leastTogether.desc).map (fun d => d.parameters.length) = some 2 := by decide +kernel
def f_X7_copy_same (N : Nat) (S_shelves : Nat → Option Nat) (T_numbers : Nat → Int32) (T_holds : Int32) (T_sort : Int32) (T_size : Int32) (x1 : Int32) (x2 : Int32) (x3 : Int32) (x4 : Int32) (x5 : Int32) : Option (Int32 × (Nat → Int32)) :=
  (f_X7_isShelf N x1).bind fun r_1 => if (b2i r_1) = 0 then (some ((-1), T_numbers)) else ((f_X7_isShelf N x3).bind fun r_3 => if (b2i r_3) = 0 then (some ((-1), T_numbers)) else (ck (gi x1 8) (ck (gi x3 8) (if T_holds = 0 then (some ((-11), T_numbers)) else (if T_holds = 0 then (some ((-11), T_numbers)) else (if T_holds = 2 then (if T_holds = 2 then (if T_sort = T_sort then ((f_X4_hasStretch N T_size x2 x5).bind fun r_10 => if (b2i r_10) = 0 then (some ((-13), T_numbers)) else ((f_X4_hasStretch N T_size x4 x5).bind fun r_12 => if (b2i r_12) = 0 then (some ((-13), T_numbers)) else (ck (cpk x2 x4 x5 100 100) (some (x5, (va_cpy T_numbers T_numbers x2.toNatClampNeg x4.toNatClampNeg x5.toNatClampNeg)))))) else (some ((-12), T_numbers))) else (some ((-12), T_numbers))) else (some ((-12), T_numbers))))))))
set_option maxHeartbeats 4000000 in
set_option maxRecDepth 100000 in
theorem k_X7_copy_same (l : Launch) (dC : Nat → ClassId) (dI : Nat → Nat → Nat) (cI cZ cS : ClassId) (N : Nat) (aS aS_shelves aT aT_numbers aNow aKept aMind : Nat) (sz : Nat) (S_shelves : Nat → Option Nat) (S_isKept : Int32) (S_ways : Option Nat) (T_numbers : Nat → Int32) (T_holds : Int32) (T_laying : Option Nat) (T_sort : Int32) (T_size : Int32) (x1 : Int32) (x2 : Int32) (x3 : Int32) (x4 : Int32) (x5 : Int32) (hd : gi x1 8 = true → S_shelves x1.toNatClampNeg = some aT) (he : gi x3 8 = true → S_shelves x3.toNatClampNeg = some aT) (res : Int32 × (Nat → Int32)) (h : f_X7_copy_same N S_shelves T_numbers T_holds T_sort T_size x1 x2 x3 x4 x5 = some res) : Met l yX7_copy wsX7_copy ({ frames := 1, cells := 0, slots := 0, locals := 40 }) (va_Pc [.ref aS, .int x1, .int x2, .int x3, .int x4, .int x5] (preW (dC, dI) cI cZ cS [(aS, .inr (6, [.ref aNow, .ref aKept, .ref aMind, .ref aS_shelves, .int S_isKept, va_rf S_ways])), (aS_shelves, .inl (cS, 8, .inr (.inr (.inr (.inr S_shelves))))), (aT, .inr (4, [.ref aT_numbers, .int T_holds, va_rf T_laying, .int T_sort, .int T_size])), (aT_numbers, .inl (cI, 100, .inl T_numbers))] sz)) (va_Qi (fun (r : Int32) (_ : Unit) => r = res.1) (fun _ => qW (dC, dI) cI cZ cS (va_A [(aS, .inr (6, [.ref aNow, .ref aKept, .ref aMind, .ref aS_shelves, .int S_isKept, va_rf S_ways])), (aS_shelves, .inl (cS, 8, .inr (.inr (.inr (.inr S_shelves))))), (aT, .inr (4, [.ref aT_numbers, .int T_holds, va_rf T_laying, .int T_sort, .int T_size])), (aT_numbers, .inl (cI, 100, .inl T_numbers))] sz) [(aS, .inr (6, [.ref aNow, .ref aKept, .ref aMind, .ref aS_shelves, .int S_isKept, va_rf S_ways])), (aS_shelves, .inl (cS, 8, .inr (.inr (.inr (.inr S_shelves))))), (aT, .inr (4, [.ref aT_numbers, .int T_holds, va_rf T_laying, .int T_sort, .int T_size])), (aT_numbers, .inl (cI, 100, .inl res.2))]) (va_A [(aS, .inr (6, [.ref aNow, .ref aKept, .ref aMind, .ref aS_shelves, .int S_isKept, va_rf S_ways])), (aS_shelves, .inl (cS, 8, .inr (.inr (.inr (.inr S_shelves))))), (aT, .inr (4, [.ref aT_numbers, .int T_holds, va_rf T_laying, .int T_sort, .int T_size])), (aT_numbers, .inl (cI, 100, .inl T_numbers))] sz)) 0 0 (va_A [(aS, .inr (6, [.ref aNow, .ref aKept, .ref aMind, .ref aS_shelves, .int S_isKept, va_rf S_ways])), (aS_shelves, .inl (cS, 8, .inr (.inr (.inr (.inr S_shelves))))), (aT, .inr (4, [.ref aT_numbers, .int T_holds, va_rf T_laying, .int T_sort, .int T_size])), (aT_numbers, .inl (cI, 100, .inl T_numbers))] sz) := by
  refine Met.ofW (cc := cX7_copy) (maxL := 8) (ret := (some .int)) (by decide) rfl ?_
  intro p e s m args below meth c s₁ B hml hv
  obtain ⟨rfl, hsz, hP, hK, hD0⟩ := hv
  have hx := B.exec
  have hb := B.bytes
  have hr := B.returns
  have hts := atoms_spec (ws := wsX7_copy) B.pre
  have hown : s.vm.findClass RX7 = some m.cls := findClass_of_methodNamed B.named
  have hlocks := B.notSynchronized
  subst hsz
  have hD := hD0.self (sz := s.heap.size)
  generalize hAe : va_A [(aS, .inr (6, [.ref aNow, .ref aKept, .ref aMind, .ref aS_shelves, .int S_isKept, va_rf S_ways])), (aS_shelves, .inl (cS, 8, .inr (.inr (.inr (.inr S_shelves))))), (aT, .inr (4, [.ref aT_numbers, .int T_holds, va_rf T_laying, .int T_sort, .int T_size])), (aT_numbers, .inl (cI, 100, .inl T_numbers))] s.heap.size = A at hD ⊢
  have hA : ∀ q : Nat, s.heap.size ≤ q → A q := fun q h => by rw [← hAe]; exact Or.inr h
  have hS : va_S A s.heap s.heap [] := va_S.rf
  have hl := lv_entry ([.ref aS, .int x1, .int x2, .int x3, .int x4, .int x5]) (n := 8) (Nat.le_of_ble_eq_true rfl)
  rw [lg_entry_eq]
  generalize (lg_sl ([.ref aS, .int x1, .int x2, .int x3, .int x4, .int x5]) ++ List.replicate (8 - (lg_sl ([.ref aS, .int x1, .int x2, .int x3, .int x4, .int x5])).length) Slot.unset).toArray = ls at hl ⊢
  have hl : lv_has ls 8 [(0, .ref aS), (1, .int x1), (2, .int x2), (3, .int x3), (4, .int x4), (5, .int x5)] := hl
  unfold f_X7_copy_same at h
  refine lv_aload_n hx hb dX7_copy_0 rfl (lv_at hl 0 rfl) ?_
  refine lv_iload_n hx hb dX7_copy_1 rfl (lv_at hl 1 rfl) ?_
  obtain ⟨r_1, hg, h⟩ := bd_some h
  refine rdV (As := [.int x1]) (rest := []) (ci := 6) ⟨hx, hb, hml, hown, hts⟩ (k_X7_isShelf l dC dI cI cZ cS N aS aNow aKept aMind aS_shelves S_isKept S_ways x1 r_1 hg) (cwV 1 hts gX7_copy_X7_isShelf rfl rfl rfl cd_X7_isShelf ⟨Nat.le_of_ble_eq_true rfl, Nat.le_of_ble_eq_true rfl⟩) hP hD hK [0] (by decide) rfl rfl rfl rfl hl.1 rfl (Nat.le_of_ble_eq_true rfl) dX7_copy_2 ⟨Nat.zero_le _, Nat.zero_le _⟩ ?_
  refine lv_if_eq (tgt := 16) hx hb dX7_copy_5 (by decide) (fun c_2 => ?_) (fun c_2 => ?_)
  · have h := it_p c_2 h
    refine lv_iconst (v := (-1)) hx hb dX7_copy_16 (by decide) ?_
    have h := Option.some.inj h
    exact W.iret hx hb hr (fun t ht hW => ⟨⟨_, (), rfl, by rw [← h], by (try rw [← h]); rw [ht]; exact hP, va_K.moved hW.alike hK, by (try rw [← h]); exact hD⟩, hS.F ht⟩) hS.2.2 dX7_copy_17
  · have h := it_n c_2 h
    refine lv_aload_n hx hb dX7_copy_8 rfl (lv_at hl 0 rfl) ?_
    refine lv_iload_n hx hb dX7_copy_9 rfl (lv_at hl 3 rfl) ?_
    obtain ⟨r_3, hg, h⟩ := bd_some h
    refine rdV (As := [.int x3]) (rest := []) (ci := 6) ⟨hx, hb, hml, hown, hts⟩ (k_X7_isShelf l dC dI cI cZ cS N aS aNow aKept aMind aS_shelves S_isKept S_ways x3 r_3 hg) (cwV 1 hts gX7_copy_X7_isShelf rfl rfl rfl cd_X7_isShelf ⟨Nat.le_of_ble_eq_true rfl, Nat.le_of_ble_eq_true rfl⟩) hP hD hK [0] (by decide) rfl rfl rfl rfl hl.1 rfl (Nat.le_of_ble_eq_true rfl) dX7_copy_10 ⟨Nat.zero_le _, Nat.zero_le _⟩ ?_
    refine lv_if_ne (tgt := 18) hx hb dX7_copy_13 (by decide) (fun c_4 => ?_) (fun c_4 => ?_)
    · have h := it_n c_4 h
      refine lv_aload_n hx hb dX7_copy_18 rfl (lv_at hl 0 rfl) ?_
      refine va_get (D := (dC, dI)) (ci := 6) (v := .ref aS_shelves) (C := RX7) (T := TX7) (N := 6) hx hb hts (fun _ h => List.mem_cons_of_mem _ (List.mem_append_left _ (List.mem_append_right _ h))) hown hK hP 0 rfl rfl 3 (by decide) (hts (.fieldLink RX7 24 "SlateRows" "shelves" "[LSlateRows$Shelf;") (by decide +kernel)) (fun _ h9 => h9) rfl dX7_copy_19 ?_
      refine lv_iload_n hx hb dX7_copy_22 rfl (lv_at hl 1 rfl) ?_
      obtain ⟨hi, h⟩ := ck_some h
      refine va_aldq hx hb hK hP 1 2 rfl rfl (gi_in hi) dX7_copy_23 ?_
      rw [hd hi]
      show W _ _ _ _ _ _ _ _ _ _ _ _ _ _ _ (F0 _ _ _ [.ref aT])
      refine lv_astore (lv' := [(6, .ref aT), (0, .ref aS), (1, .int x1), (2, .int x2), (3, .int x3), (4, .int x4), (5, .int x5)]) hx hb dX7_copy_24 hl (by decide) rfl (fun ls hl => ?_)
      refine lv_aload_n hx hb dX7_copy_26 rfl (lv_at hl 1 rfl) ?_
      refine va_get (D := (dC, dI)) (ci := 6) (v := .ref aS_shelves) (C := RX7) (T := TX7) (N := 6) hx hb hts (fun _ h => List.mem_cons_of_mem _ (List.mem_append_left _ (List.mem_append_right _ h))) hown hK hP 0 rfl rfl 3 (by decide) (hts (.fieldLink RX7 24 "SlateRows" "shelves" "[LSlateRows$Shelf;") (by decide +kernel)) (fun _ h9 => h9) rfl dX7_copy_27 ?_
      refine lv_iload_n hx hb dX7_copy_30 rfl (lv_at hl 4 rfl) ?_
      obtain ⟨hi, h⟩ := ck_some h
      refine va_aldq hx hb hK hP 1 2 rfl rfl (gi_in hi) dX7_copy_31 ?_
      rw [he hi]
      show W _ _ _ _ _ _ _ _ _ _ _ _ _ _ _ (F0 _ _ _ [.ref aT])
      refine lv_astore (lv' := [(7, .ref aT), (6, .ref aT), (0, .ref aS), (1, .int x1), (2, .int x2), (3, .int x3), (4, .int x4), (5, .int x5)]) hx hb dX7_copy_32 hl (by decide) rfl (fun ls hl => ?_)
      refine lv_aload hx hb dX7_copy_34 (lv_at hl 1 rfl) ?_
      refine va_get (D := (dC, dI)) (ci := 4) (v := .int T_holds) (C := RX4) (T := TX4) (N := 5) hx hb hts (fun _ h => List.mem_cons_of_mem _ (List.mem_append_right _ h)) hown hK hP 2 rfl rfl 1 (by decide) (hts (.fieldLink RX7 41 "SlateRows$Shelf" "holds" "I") (by decide +kernel)) (fun _ h9 => h9) rfl dX7_copy_36 ?_
      refine lv_if_eq (tgt := 50) hx hb dX7_copy_39 (by decide) (fun c_5 => ?_) (fun c_5 => ?_)
      · have h := it_p c_5 h
        refine lv_bipush (v := (-11)) hx hb dX7_copy_50 (by decide) ?_
        have h := Option.some.inj h
        exact W.iret hx hb hr (fun t ht hW => ⟨⟨_, (), rfl, by rw [← h], by (try rw [← h]); rw [ht]; exact hP, va_K.moved hW.alike hK, by (try rw [← h]); exact hD⟩, hS.F ht⟩) hS.2.2 dX7_copy_52
      · have h := it_n c_5 h
        refine lv_aload hx hb dX7_copy_42 (lv_at hl 0 rfl) ?_
        refine va_get (D := (dC, dI)) (ci := 4) (v := .int T_holds) (C := RX4) (T := TX4) (N := 5) hx hb hts (fun _ h => List.mem_cons_of_mem _ (List.mem_append_right _ h)) hown hK hP 2 rfl rfl 1 (by decide) (hts (.fieldLink RX7 41 "SlateRows$Shelf" "holds" "I") (by decide +kernel)) (fun _ h9 => h9) rfl dX7_copy_44 ?_
        refine lv_if_ne (tgt := 53) hx hb dX7_copy_47 (by decide) (fun c_6 => ?_) (fun c_6 => ?_)
        · have h := it_n c_6 h
          refine lv_aload hx hb dX7_copy_53 (lv_at hl 1 rfl) ?_
          refine va_get (D := (dC, dI)) (ci := 4) (v := .int T_holds) (C := RX4) (T := TX4) (N := 5) hx hb hts (fun _ h => List.mem_cons_of_mem _ (List.mem_append_right _ h)) hown hK hP 2 rfl rfl 1 (by decide) (hts (.fieldLink RX7 41 "SlateRows$Shelf" "holds" "I") (by decide +kernel)) (fun _ h9 => h9) rfl dX7_copy_55 ?_
          refine lv_iconst (v := 2) hx hb dX7_copy_58 (by decide) ?_
          refine lv_icmp_ne (tgt := 84) hx hb dX7_copy_59 (by decide) (fun c_7 => ?_) (fun c_7 => ?_)
          · have h := it_n c_7 h
            refine lv_bipush (v := (-12)) hx hb dX7_copy_84 (by decide) ?_
            have h := Option.some.inj h
            exact W.iret hx hb hr (fun t ht hW => ⟨⟨_, (), rfl, by rw [← h], by (try rw [← h]); rw [ht]; exact hP, va_K.moved hW.alike hK, by (try rw [← h]); exact hD⟩, hS.F ht⟩) hS.2.2 dX7_copy_86
          · have h := it_p c_7 h
            refine lv_aload hx hb dX7_copy_62 (lv_at hl 0 rfl) ?_
            refine va_get (D := (dC, dI)) (ci := 4) (v := .int T_holds) (C := RX4) (T := TX4) (N := 5) hx hb hts (fun _ h => List.mem_cons_of_mem _ (List.mem_append_right _ h)) hown hK hP 2 rfl rfl 1 (by decide) (hts (.fieldLink RX7 41 "SlateRows$Shelf" "holds" "I") (by decide +kernel)) (fun _ h9 => h9) rfl dX7_copy_64 ?_
            refine lv_iconst (v := 2) hx hb dX7_copy_67 (by decide) ?_
            refine lv_icmp_ne (tgt := 84) hx hb dX7_copy_68 (by decide) (fun c_8 => ?_) (fun c_8 => ?_)
            · have h := it_n c_8 h
              refine lv_bipush (v := (-12)) hx hb dX7_copy_84 (by decide) ?_
              have h := Option.some.inj h
              exact W.iret hx hb hr (fun t ht hW => ⟨⟨_, (), rfl, by rw [← h], by (try rw [← h]); rw [ht]; exact hP, va_K.moved hW.alike hK, by (try rw [← h]); exact hD⟩, hS.F ht⟩) hS.2.2 dX7_copy_86
            · have h := it_p c_8 h
              refine lv_aload hx hb dX7_copy_71 (lv_at hl 1 rfl) ?_
              refine va_get (D := (dC, dI)) (ci := 4) (v := .int T_sort) (C := RX4) (T := TX4) (N := 5) hx hb hts (fun _ h => List.mem_cons_of_mem _ (List.mem_append_right _ h)) hown hK hP 2 rfl rfl 3 (by decide) (hts (.fieldLink RX7 45 "SlateRows$Shelf" "sort" "I") (by decide +kernel)) (fun _ h9 => h9) rfl dX7_copy_73 ?_
              refine lv_aload hx hb dX7_copy_76 (lv_at hl 0 rfl) ?_
              refine va_get (D := (dC, dI)) (ci := 4) (v := .int T_sort) (C := RX4) (T := TX4) (N := 5) hx hb hts (fun _ h => List.mem_cons_of_mem _ (List.mem_append_right _ h)) hown hK hP 2 rfl rfl 3 (by decide) (hts (.fieldLink RX7 45 "SlateRows$Shelf" "sort" "I") (by decide +kernel)) (fun _ h9 => h9) rfl dX7_copy_78 ?_
              refine lv_icmp_eq (tgt := 87) hx hb dX7_copy_81 (by decide) (fun c_9 => ?_) (fun c_9 => ?_)
              · have h := it_p c_9 h
                refine lv_aload hx hb dX7_copy_87 (lv_at hl 1 rfl) ?_
                refine lv_iload_n hx hb dX7_copy_89 rfl (lv_at hl 4 rfl) ?_
                refine lv_iload hx hb dX7_copy_90 (lv_at hl 7 rfl) ?_
                obtain ⟨r_10, hg, h⟩ := bd_some h
                refine rdV (As := [.int x2, .int x5]) (rest := []) (ci := 4) ⟨hx, hb, hml, hown, hts⟩ (k_X4_hasStretch l dC dI cI cZ cS N aT aT_numbers T_numbers T_holds T_laying T_sort T_size x2 x5 r_10 hg) (cwV 2 hts gX7_copy_X4_hasStretch rfl rfl rfl cd_X4_hasStretch ⟨Nat.le_of_ble_eq_true rfl, Nat.le_of_ble_eq_true rfl⟩) hP hD hK [2, 3] (by decide) rfl rfl rfl rfl hl.1 rfl (Nat.le_of_ble_eq_true rfl) dX7_copy_92 ⟨Nat.zero_le _, Nat.zero_le _⟩ ?_
                refine lv_if_eq (tgt := 110) hx hb dX7_copy_95 (by decide) (fun c_11 => ?_) (fun c_11 => ?_)
                · have h := it_p c_11 h
                  refine lv_bipush (v := (-13)) hx hb dX7_copy_110 (by decide) ?_
                  have h := Option.some.inj h
                  exact W.iret hx hb hr (fun t ht hW => ⟨⟨_, (), rfl, by rw [← h], by (try rw [← h]); rw [ht]; exact hP, va_K.moved hW.alike hK, by (try rw [← h]); exact hD⟩, hS.F ht⟩) hS.2.2 dX7_copy_112
                · have h := it_n c_11 h
                  refine lv_aload hx hb dX7_copy_98 (lv_at hl 0 rfl) ?_
                  refine lv_iload hx hb dX7_copy_100 (lv_at hl 6 rfl) ?_
                  refine lv_iload hx hb dX7_copy_102 (lv_at hl 7 rfl) ?_
                  obtain ⟨r_12, hg, h⟩ := bd_some h
                  refine rdV (As := [.int x4, .int x5]) (rest := []) (ci := 4) ⟨hx, hb, hml, hown, hts⟩ (k_X4_hasStretch l dC dI cI cZ cS N aT aT_numbers T_numbers T_holds T_laying T_sort T_size x4 x5 r_12 hg) (cwV 2 hts gX7_copy_X4_hasStretch rfl rfl rfl cd_X4_hasStretch ⟨Nat.le_of_ble_eq_true rfl, Nat.le_of_ble_eq_true rfl⟩) hP hD hK [2, 3] (by decide) rfl rfl rfl rfl hl.1 rfl (Nat.le_of_ble_eq_true rfl) dX7_copy_104 ⟨Nat.zero_le _, Nat.zero_le _⟩ ?_
                  refine lv_if_ne (tgt := 113) hx hb dX7_copy_107 (by decide) (fun c_13 => ?_) (fun c_13 => ?_)
                  · have h := it_n c_13 h
                    refine lv_aload hx hb dX7_copy_113 (lv_at hl 1 rfl) ?_
                    refine va_get (D := (dC, dI)) (ci := 4) (v := .ref aT_numbers) (C := RX4) (T := TX4) (N := 5) hx hb hts (fun _ h => List.mem_cons_of_mem _ (List.mem_append_right _ h)) hown hK hP 2 rfl rfl 0 (by decide) (hts (.fieldLink RX7 108 "SlateRows$Shelf" "numbers" "[I") (by decide +kernel)) (fun _ h9 => h9) rfl dX7_copy_115 ?_
                    refine lv_iload_n hx hb dX7_copy_118 rfl (lv_at hl 4 rfl) ?_
                    refine lv_aload hx hb dX7_copy_119 (lv_at hl 0 rfl) ?_
                    refine va_get (D := (dC, dI)) (ci := 4) (v := .ref aT_numbers) (C := RX4) (T := TX4) (N := 5) hx hb hts (fun _ h => List.mem_cons_of_mem _ (List.mem_append_right _ h)) hown hK hP 2 rfl rfl 0 (by decide) (hts (.fieldLink RX7 108 "SlateRows$Shelf" "numbers" "[I") (by decide +kernel)) (fun _ h9 => h9) rfl dX7_copy_121 ?_
                    refine lv_iload hx hb dX7_copy_124 (lv_at hl 6 rfl) ?_
                    refine lv_iload hx hb dX7_copy_126 (lv_at hl 7 rfl) ?_
                    obtain ⟨hcp, h⟩ := ck_some h
                    refine va_copyi hx hb (hml.trans hl.1.symm) hown (hts (.methodLink RX7 261 arraycopyName) (by decide +kernel)) (hts (.native arraycopyName) (by decide +kernel)) (hts (.static arraycopyName) (by decide +kernel)) (hts (.initialized "java/lang/System") (by decide +kernel)) hK hP hD hS 3 3 0 0 rfl rfl rfl rfl rfl (cpk_1 hcp) (cpk_2 hcp) (cpk_3 hcp) (cpk_4 hcp) (cpk_5 hcp) (fun _ _ => rfl) (Nat.le_of_ble_eq_true rfl) (Nat.le_of_ble_eq_true rfl) dX7_copy_128 (fun H locs hP hD hS => ?_)
                    have hP : va_P (dC, dI) vwCl [(aS, .inr (6, [.ref aNow, .ref aKept, .ref aMind, .ref aS_shelves, .int S_isKept, va_rf S_ways])), (aS_shelves, .inl (cS, 8, .inr (.inr (.inr (.inr S_shelves))))), (aT, .inr (4, [.ref aT_numbers, .int T_holds, va_rf T_laying, .int T_sort, .int T_size])), (aT_numbers, .inl (cI, 100, .inl (va_cpy T_numbers T_numbers x2.toNatClampNeg x4.toNatClampNeg x5.toNatClampNeg)))] H := hP
                    have hD : va_D A [(aS, .inr (6, [.ref aNow, .ref aKept, .ref aMind, .ref aS_shelves, .int S_isKept, va_rf S_ways])), (aS_shelves, .inl (cS, 8, .inr (.inr (.inr (.inr S_shelves))))), (aT, .inr (4, [.ref aT_numbers, .int T_holds, va_rf T_laying, .int T_sort, .int T_size])), (aT_numbers, .inl (cI, 100, .inl (va_cpy T_numbers T_numbers x2.toNatClampNeg x4.toNatClampNeg x5.toNatClampNeg)))] := hD
                    refine lv_iload hx hb dX7_copy_131 (lv_at hl 7 rfl) ?_
                    have h := Option.some.inj h
                    exact W.iret hx hb hr (fun t ht hW => ⟨⟨_, (), rfl, by rw [← h], by (try rw [← h]); rw [ht]; exact hP, va_K.moved hW.alike hK, by (try rw [← h]); exact hD⟩, hS.F ht⟩) hS.2.2 dX7_copy_133
                  · have h := it_p c_13 h
                    refine lv_bipush (v := (-13)) hx hb dX7_copy_110 (by decide) ?_
                    have h := Option.some.inj h
                    exact W.iret hx hb hr (fun t ht hW => ⟨⟨_, (), rfl, by rw [← h], by (try rw [← h]); rw [ht]; exact hP, va_K.moved hW.alike hK, by (try rw [← h]); exact hD⟩, hS.F ht⟩) hS.2.2 dX7_copy_112
              · have h := it_n c_9 h
                refine lv_bipush (v := (-12)) hx hb dX7_copy_84 (by decide) ?_
                have h := Option.some.inj h
                exact W.iret hx hb hr (fun t ht hW => ⟨⟨_, (), rfl, by rw [← h], by (try rw [← h]); rw [ht]; exact hP, va_K.moved hW.alike hK, by (try rw [← h]); exact hD⟩, hS.F ht⟩) hS.2.2 dX7_copy_86
        · have h := it_p c_6 h
          refine lv_bipush (v := (-11)) hx hb dX7_copy_50 (by decide) ?_
          have h := Option.some.inj h
          exact W.iret hx hb hr (fun t ht hW => ⟨⟨_, (), rfl, by rw [← h], by (try rw [← h]); rw [ht]; exact hP, va_K.moved hW.alike hK, by (try rw [← h]); exact hD⟩, hS.F ht⟩) hS.2.2 dX7_copy_52
    · have h := it_p c_4 h
      refine lv_iconst (v := (-1)) hx hb dX7_copy_16 (by decide) ?_
      have h := Option.some.inj h
      exact W.iret hx hb hr (fun t ht hW => ⟨⟨_, (), rfl, by rw [← h], by (try rw [← h]); rw [ht]; exact hP, va_K.moved hW.alike hK, by (try rw [← h]); exact hD⟩, hS.F ht⟩) hS.2.2 dX7_copy_17
def f_X7_image (N : Nat) (S_isKept : Int32) (Rn_inches : Nat → Int32) (Rn_many : Nat → Int32) (Rn_worth : Nat → Int32) (Rn_lengths : Nat → Int32) (Rn_laid : Nat → Int32) (Rn_slates : Nat → Int32) (Rn_widths : Int32) (Rn_rows : Int32) (Rn_lap : Int32) (Rk_inches : Nat → Int32) (Rk_many : Nat → Int32) (Rk_worth : Nat → Int32) (Rk_lengths : Nat → Int32) (Rk_laid : Nat → Int32) (Rk_slates : Nat → Int32) (Rk_widths : Int32) (Rk_rows : Int32) (Rk_lap : Int32) : Option (Int32 × Int32 × (Nat → Int32) × (Nat → Int32) × (Nat → Int32) × (Nat → Int32) × (Nat → Int32) × (Nat → Int32) × Int32 × Int32 × Int32) :=
  (f_X3_takeOver N Rk_inches Rk_many Rk_worth Rk_lengths Rk_laid Rk_slates Rk_widths Rk_rows Rk_lap Rn_inches Rn_many Rn_worth Rn_lengths Rn_laid Rn_slates Rn_widths Rn_rows Rn_lap).bind fun r_1 => some (r_1.2.2.2.2.2.2.2.1, 1, r_1.1, r_1.2.1, r_1.2.2.1, r_1.2.2.2.1, r_1.2.2.2.2.1, r_1.2.2.2.2.2.1, r_1.2.2.2.2.2.2.1, r_1.2.2.2.2.2.2.2.1, r_1.2.2.2.2.2.2.2.2)
set_option maxHeartbeats 4000000 in
set_option maxRecDepth 100000 in
theorem k_X7_image (l : Launch) (dC : Nat → ClassId) (dI : Nat → Nat → Nat) (cI cZ cS : ClassId) (N : Nat) (aS aRn aRn_inches aRn_many aRn_worth aRn_lengths aRn_laid aRn_slates aRk aRk_inches aRk_many aRk_worth aRk_lengths aRk_laid aRk_slates aMind aShv : Nat) (sz : Nat) (S_isKept : Int32) (S_ways : Option Nat) (Rn_inches : Nat → Int32) (Rn_many : Nat → Int32) (Rn_worth : Nat → Int32) (Rn_lengths : Nat → Int32) (Rn_laid : Nat → Int32) (Rn_slates : Nat → Int32) (Rn_widths : Int32) (Rn_rows : Int32) (Rn_lap : Int32) (Rk_inches : Nat → Int32) (Rk_many : Nat → Int32) (Rk_worth : Nat → Int32) (Rk_lengths : Nat → Int32) (Rk_laid : Nat → Int32) (Rk_slates : Nat → Int32) (Rk_widths : Int32) (Rk_rows : Int32) (Rk_lap : Int32) (res : Int32 × Int32 × (Nat → Int32) × (Nat → Int32) × (Nat → Int32) × (Nat → Int32) × (Nat → Int32) × (Nat → Int32) × Int32 × Int32 × Int32) (h : f_X7_image N S_isKept Rn_inches Rn_many Rn_worth Rn_lengths Rn_laid Rn_slates Rn_widths Rn_rows Rn_lap Rk_inches Rk_many Rk_worth Rk_lengths Rk_laid Rk_slates Rk_widths Rk_rows Rk_lap = some res) : Met l yX7_image wsX7_image ({ frames := 2, cells := 0, slots := 0, locals := 61 }) (va_Pc [.ref aS] (preW (dC, dI) cI cZ cS [(aS, .inr (6, [.ref aRn, .ref aRk, .ref aMind, .ref aShv, .int S_isKept, va_rf S_ways])), (aRn, .inr (3, [.ref aRn_inches, .ref aRn_many, .ref aRn_worth, .ref aRn_lengths, .ref aRn_laid, .ref aRn_slates, .int Rn_widths, .int Rn_rows, .int Rn_lap])), (aRn_inches, .inl (cI, 4, .inl Rn_inches)), (aRn_many, .inl (cI, 4, .inl Rn_many)), (aRn_worth, .inl (cI, 4, .inl Rn_worth)), (aRn_lengths, .inl (cI, 6, .inl Rn_lengths)), (aRn_laid, .inl (cI, 6, .inl Rn_laid)), (aRn_slates, .inl (cI, 72, .inl Rn_slates)), (aRk, .inr (3, [.ref aRk_inches, .ref aRk_many, .ref aRk_worth, .ref aRk_lengths, .ref aRk_laid, .ref aRk_slates, .int Rk_widths, .int Rk_rows, .int Rk_lap])), (aRk_inches, .inl (cI, 4, .inl Rk_inches)), (aRk_many, .inl (cI, 4, .inl Rk_many)), (aRk_worth, .inl (cI, 4, .inl Rk_worth)), (aRk_lengths, .inl (cI, 6, .inl Rk_lengths)), (aRk_laid, .inl (cI, 6, .inl Rk_laid)), (aRk_slates, .inl (cI, 72, .inl Rk_slates))] sz)) (va_Qi (fun (r : Int32) (_ : Unit) => r = res.1) (fun _ => qW (dC, dI) cI cZ cS (va_A [(aS, .inr (6, [.ref aRn, .ref aRk, .ref aMind, .ref aShv, .int S_isKept, va_rf S_ways])), (aRn, .inr (3, [.ref aRn_inches, .ref aRn_many, .ref aRn_worth, .ref aRn_lengths, .ref aRn_laid, .ref aRn_slates, .int Rn_widths, .int Rn_rows, .int Rn_lap])), (aRn_inches, .inl (cI, 4, .inl Rn_inches)), (aRn_many, .inl (cI, 4, .inl Rn_many)), (aRn_worth, .inl (cI, 4, .inl Rn_worth)), (aRn_lengths, .inl (cI, 6, .inl Rn_lengths)), (aRn_laid, .inl (cI, 6, .inl Rn_laid)), (aRn_slates, .inl (cI, 72, .inl Rn_slates)), (aRk, .inr (3, [.ref aRk_inches, .ref aRk_many, .ref aRk_worth, .ref aRk_lengths, .ref aRk_laid, .ref aRk_slates, .int Rk_widths, .int Rk_rows, .int Rk_lap])), (aRk_inches, .inl (cI, 4, .inl Rk_inches)), (aRk_many, .inl (cI, 4, .inl Rk_many)), (aRk_worth, .inl (cI, 4, .inl Rk_worth)), (aRk_lengths, .inl (cI, 6, .inl Rk_lengths)), (aRk_laid, .inl (cI, 6, .inl Rk_laid)), (aRk_slates, .inl (cI, 72, .inl Rk_slates))] sz) [(aS, .inr (6, [.ref aRn, .ref aRk, .ref aMind, .ref aShv, .int res.2.1, va_rf S_ways])), (aRn, .inr (3, [.ref aRn_inches, .ref aRn_many, .ref aRn_worth, .ref aRn_lengths, .ref aRn_laid, .ref aRn_slates, .int Rn_widths, .int Rn_rows, .int Rn_lap])), (aRn_inches, .inl (cI, 4, .inl Rn_inches)), (aRn_many, .inl (cI, 4, .inl Rn_many)), (aRn_worth, .inl (cI, 4, .inl Rn_worth)), (aRn_lengths, .inl (cI, 6, .inl Rn_lengths)), (aRn_laid, .inl (cI, 6, .inl Rn_laid)), (aRn_slates, .inl (cI, 72, .inl Rn_slates)), (aRk, .inr (3, [.ref aRk_inches, .ref aRk_many, .ref aRk_worth, .ref aRk_lengths, .ref aRk_laid, .ref aRk_slates, .int res.2.2.2.2.2.2.2.2.1, .int res.2.2.2.2.2.2.2.2.2.1, .int res.2.2.2.2.2.2.2.2.2.2])), (aRk_inches, .inl (cI, 4, .inl res.2.2.1)), (aRk_many, .inl (cI, 4, .inl res.2.2.2.1)), (aRk_worth, .inl (cI, 4, .inl res.2.2.2.2.1)), (aRk_lengths, .inl (cI, 6, .inl res.2.2.2.2.2.1)), (aRk_laid, .inl (cI, 6, .inl res.2.2.2.2.2.2.1)), (aRk_slates, .inl (cI, 72, .inl res.2.2.2.2.2.2.2.1))]) (va_A [(aS, .inr (6, [.ref aRn, .ref aRk, .ref aMind, .ref aShv, .int S_isKept, va_rf S_ways])), (aRn, .inr (3, [.ref aRn_inches, .ref aRn_many, .ref aRn_worth, .ref aRn_lengths, .ref aRn_laid, .ref aRn_slates, .int Rn_widths, .int Rn_rows, .int Rn_lap])), (aRn_inches, .inl (cI, 4, .inl Rn_inches)), (aRn_many, .inl (cI, 4, .inl Rn_many)), (aRn_worth, .inl (cI, 4, .inl Rn_worth)), (aRn_lengths, .inl (cI, 6, .inl Rn_lengths)), (aRn_laid, .inl (cI, 6, .inl Rn_laid)), (aRn_slates, .inl (cI, 72, .inl Rn_slates)), (aRk, .inr (3, [.ref aRk_inches, .ref aRk_many, .ref aRk_worth, .ref aRk_lengths, .ref aRk_laid, .ref aRk_slates, .int Rk_widths, .int Rk_rows, .int Rk_lap])), (aRk_inches, .inl (cI, 4, .inl Rk_inches)), (aRk_many, .inl (cI, 4, .inl Rk_many)), (aRk_worth, .inl (cI, 4, .inl Rk_worth)), (aRk_lengths, .inl (cI, 6, .inl Rk_lengths)), (aRk_laid, .inl (cI, 6, .inl Rk_laid)), (aRk_slates, .inl (cI, 72, .inl Rk_slates))] sz)) 0 0 (va_A [(aS, .inr (6, [.ref aRn, .ref aRk, .ref aMind, .ref aShv, .int S_isKept, va_rf S_ways])), (aRn, .inr (3, [.ref aRn_inches, .ref aRn_many, .ref aRn_worth, .ref aRn_lengths, .ref aRn_laid, .ref aRn_slates, .int Rn_widths, .int Rn_rows, .int Rn_lap])), (aRn_inches, .inl (cI, 4, .inl Rn_inches)), (aRn_many, .inl (cI, 4, .inl Rn_many)), (aRn_worth, .inl (cI, 4, .inl Rn_worth)), (aRn_lengths, .inl (cI, 6, .inl Rn_lengths)), (aRn_laid, .inl (cI, 6, .inl Rn_laid)), (aRn_slates, .inl (cI, 72, .inl Rn_slates)), (aRk, .inr (3, [.ref aRk_inches, .ref aRk_many, .ref aRk_worth, .ref aRk_lengths, .ref aRk_laid, .ref aRk_slates, .int Rk_widths, .int Rk_rows, .int Rk_lap])), (aRk_inches, .inl (cI, 4, .inl Rk_inches)), (aRk_many, .inl (cI, 4, .inl Rk_many)), (aRk_worth, .inl (cI, 4, .inl Rk_worth)), (aRk_lengths, .inl (cI, 6, .inl Rk_lengths)), (aRk_laid, .inl (cI, 6, .inl Rk_laid)), (aRk_slates, .inl (cI, 72, .inl Rk_slates))] sz) := by
  refine Met.ofW (cc := cX7_image) (maxL := 1) (ret := (some .int)) (by decide) rfl ?_
  intro p e s m args below meth c s₁ B hml hv
  obtain ⟨rfl, hsz, hP, hK, hD0⟩ := hv
  have hx := B.exec
  have hb := B.bytes
  have hr := B.returns
  have hts := atoms_spec (ws := wsX7_image) B.pre
  have hown : s.vm.findClass RX7 = some m.cls := findClass_of_methodNamed B.named
  have hlocks := B.notSynchronized
  subst hsz
  have hD := hD0.self (sz := s.heap.size)
  generalize hAe : va_A [(aS, .inr (6, [.ref aRn, .ref aRk, .ref aMind, .ref aShv, .int S_isKept, va_rf S_ways])), (aRn, .inr (3, [.ref aRn_inches, .ref aRn_many, .ref aRn_worth, .ref aRn_lengths, .ref aRn_laid, .ref aRn_slates, .int Rn_widths, .int Rn_rows, .int Rn_lap])), (aRn_inches, .inl (cI, 4, .inl Rn_inches)), (aRn_many, .inl (cI, 4, .inl Rn_many)), (aRn_worth, .inl (cI, 4, .inl Rn_worth)), (aRn_lengths, .inl (cI, 6, .inl Rn_lengths)), (aRn_laid, .inl (cI, 6, .inl Rn_laid)), (aRn_slates, .inl (cI, 72, .inl Rn_slates)), (aRk, .inr (3, [.ref aRk_inches, .ref aRk_many, .ref aRk_worth, .ref aRk_lengths, .ref aRk_laid, .ref aRk_slates, .int Rk_widths, .int Rk_rows, .int Rk_lap])), (aRk_inches, .inl (cI, 4, .inl Rk_inches)), (aRk_many, .inl (cI, 4, .inl Rk_many)), (aRk_worth, .inl (cI, 4, .inl Rk_worth)), (aRk_lengths, .inl (cI, 6, .inl Rk_lengths)), (aRk_laid, .inl (cI, 6, .inl Rk_laid)), (aRk_slates, .inl (cI, 72, .inl Rk_slates))] s.heap.size = A at hD ⊢
  have hA : ∀ q : Nat, s.heap.size ≤ q → A q := fun q h => by rw [← hAe]; exact Or.inr h
  have hS : va_S A s.heap s.heap [] := va_S.rf
  have hl := lv_entry ([.ref aS]) (n := 1) (Nat.le_of_ble_eq_true rfl)
  rw [lg_entry_eq]
  generalize (lg_sl ([.ref aS]) ++ List.replicate (1 - (lg_sl ([.ref aS])).length) Slot.unset).toArray = ls at hl ⊢
  have hl : lv_has ls 1 [(0, .ref aS)] := hl
  unfold f_X7_image at h
  refine lv_aload_n hx hb dX7_image_0 rfl (lv_at hl 0 rfl) ?_
  refine va_get (D := (dC, dI)) (ci := 6) (v := .ref aRk) (C := RX7) (T := TX7) (N := 6) hx hb hts (fun _ h => List.mem_cons_of_mem _ (List.mem_append_left _ (List.mem_append_right _ h))) hown hK hP 0 rfl rfl 1 (by decide) (hts (.fieldLink RX7 16 "SlateRows" "kept" "LSlateRows$Roof;") (by decide +kernel)) (fun _ h9 => h9) rfl dX7_image_1 ?_
  refine lv_aload_n hx hb dX7_image_4 rfl (lv_at hl 0 rfl) ?_
  refine va_get (D := (dC, dI)) (ci := 6) (v := .ref aRn) (C := RX7) (T := TX7) (N := 6) hx hb hts (fun _ h => List.mem_cons_of_mem _ (List.mem_append_left _ (List.mem_append_right _ h))) hown hK hP 0 rfl rfl 0 (by decide) (hts (.fieldLink RX7 10 "SlateRows" "now" "LSlateRows$Roof;") (by decide +kernel)) (fun _ h9 => h9) rfl dX7_image_5 ?_
  obtain ⟨r_1, hg, h⟩ := bd_some h
  refine mtVv (As := [.ref aRn]) (rest := []) (ci := 3) (wr := [(aS, .inr (6, [.ref aRn, .ref aRk, .ref aMind, .ref aShv, .int S_isKept, va_rf S_ways]))]) (w2 := [(aS, .inr (6, [.ref aRn, .ref aRk, .ref aMind, .ref aShv, .int S_isKept, va_rf S_ways])), (aRn, .inr (3, [.ref aRn_inches, .ref aRn_many, .ref aRn_worth, .ref aRn_lengths, .ref aRn_laid, .ref aRn_slates, .int Rn_widths, .int Rn_rows, .int Rn_lap])), (aRn_inches, .inl (cI, 4, .inl Rn_inches)), (aRn_many, .inl (cI, 4, .inl Rn_many)), (aRn_worth, .inl (cI, 4, .inl Rn_worth)), (aRn_lengths, .inl (cI, 6, .inl Rn_lengths)), (aRn_laid, .inl (cI, 6, .inl Rn_laid)), (aRn_slates, .inl (cI, 72, .inl Rn_slates)), (aRk, .inr (3, [.ref aRk_inches, .ref aRk_many, .ref aRk_worth, .ref aRk_lengths, .ref aRk_laid, .ref aRk_slates, .int r_1.2.2.2.2.2.2.1, .int r_1.2.2.2.2.2.2.2.1, .int r_1.2.2.2.2.2.2.2.2])), (aRk_inches, .inl (cI, 4, .inl r_1.1)), (aRk_many, .inl (cI, 4, .inl r_1.2.1)), (aRk_worth, .inl (cI, 4, .inl r_1.2.2.1)), (aRk_lengths, .inl (cI, 6, .inl r_1.2.2.2.1)), (aRk_laid, .inl (cI, 6, .inl r_1.2.2.2.2.1)), (aRk_slates, .inl (cI, 72, .inl r_1.2.2.2.2.2.1))]) ⟨hx, hb, hml, hown, hts⟩ (k_X3_takeOver l dC dI cI cZ cS N aRk aRk_inches aRk_many aRk_worth aRk_lengths aRk_laid aRk_slates aRn aRn_inches aRn_many aRn_worth aRn_lengths aRn_laid aRn_slates _ Rk_inches Rk_many Rk_worth Rk_lengths Rk_laid Rk_slates Rk_widths Rk_rows Rk_lap Rn_inches Rn_many Rn_worth Rn_lengths Rn_laid Rn_slates Rn_widths Rn_rows Rn_lap r_1 hg) (cwV 1 hts gX7_image_X3_takeOver rfl rfl rfl cd_X3_takeOver ⟨Nat.le_of_ble_eq_true rfl, Nat.le_of_ble_eq_true rfl⟩) hP hD hK hS hA [8, 9, 10, 11, 12, 13, 14, 1, 2, 3, 4, 5, 6, 7] [0] [0, 8, 9, 10, 11, 12, 13, 14, 1, 2, 3, 4, 5, 6, 7] (by decide) (by decide) (by decide) (by decide) rfl rfl rfl rfl rfl rfl hl.1 rfl (Nat.le_of_ble_eq_true rfl) dX7_image_8 ⟨Nat.zero_le _, Nat.zero_le _⟩ (fun H locs hP hD hS => ?_)
  refine lv_aload_n hx hb dX7_image_11 rfl (lv_at hl 0 rfl) ?_
  refine lv_iconst (v := 1) hx hb dX7_image_12 (by decide) ?_
  refine va_put (D := (dC, dI)) (ci := 6) (v := .int 1) (ty := .boolean) (C := RX7) (T := TX7) (N := 6) hx hb hts (fun _ h => List.mem_cons_of_mem _ (List.mem_append_left _ (List.mem_append_right _ h))) tyX7 tyX7_ok nmX7 hown hK hP hD hS 0 rfl rfl 4 (by decide) (hts (.fieldLink RX7 28 "SlateRows" "isKept" "Z") (by decide +kernel)) (fun _ h9 => h9) rfl (by decide +kernel) rfl rfl (Nat.le_of_ble_eq_true rfl) dX7_image_13 (fun H locs hP hD hS => ?_)
  have hP : va_P (dC, dI) vwCl [(aS, .inr (6, [.ref aRn, .ref aRk, .ref aMind, .ref aShv, .int 1, va_rf S_ways])), (aRn, .inr (3, [.ref aRn_inches, .ref aRn_many, .ref aRn_worth, .ref aRn_lengths, .ref aRn_laid, .ref aRn_slates, .int Rn_widths, .int Rn_rows, .int Rn_lap])), (aRn_inches, .inl (cI, 4, .inl Rn_inches)), (aRn_many, .inl (cI, 4, .inl Rn_many)), (aRn_worth, .inl (cI, 4, .inl Rn_worth)), (aRn_lengths, .inl (cI, 6, .inl Rn_lengths)), (aRn_laid, .inl (cI, 6, .inl Rn_laid)), (aRn_slates, .inl (cI, 72, .inl Rn_slates)), (aRk, .inr (3, [.ref aRk_inches, .ref aRk_many, .ref aRk_worth, .ref aRk_lengths, .ref aRk_laid, .ref aRk_slates, .int r_1.2.2.2.2.2.2.1, .int r_1.2.2.2.2.2.2.2.1, .int r_1.2.2.2.2.2.2.2.2])), (aRk_inches, .inl (cI, 4, .inl r_1.1)), (aRk_many, .inl (cI, 4, .inl r_1.2.1)), (aRk_worth, .inl (cI, 4, .inl r_1.2.2.1)), (aRk_lengths, .inl (cI, 6, .inl r_1.2.2.2.1)), (aRk_laid, .inl (cI, 6, .inl r_1.2.2.2.2.1)), (aRk_slates, .inl (cI, 72, .inl r_1.2.2.2.2.2.1))] H := hP
  have hD : va_D A [(aS, .inr (6, [.ref aRn, .ref aRk, .ref aMind, .ref aShv, .int 1, va_rf S_ways])), (aRn, .inr (3, [.ref aRn_inches, .ref aRn_many, .ref aRn_worth, .ref aRn_lengths, .ref aRn_laid, .ref aRn_slates, .int Rn_widths, .int Rn_rows, .int Rn_lap])), (aRn_inches, .inl (cI, 4, .inl Rn_inches)), (aRn_many, .inl (cI, 4, .inl Rn_many)), (aRn_worth, .inl (cI, 4, .inl Rn_worth)), (aRn_lengths, .inl (cI, 6, .inl Rn_lengths)), (aRn_laid, .inl (cI, 6, .inl Rn_laid)), (aRn_slates, .inl (cI, 72, .inl Rn_slates)), (aRk, .inr (3, [.ref aRk_inches, .ref aRk_many, .ref aRk_worth, .ref aRk_lengths, .ref aRk_laid, .ref aRk_slates, .int r_1.2.2.2.2.2.2.1, .int r_1.2.2.2.2.2.2.2.1, .int r_1.2.2.2.2.2.2.2.2])), (aRk_inches, .inl (cI, 4, .inl r_1.1)), (aRk_many, .inl (cI, 4, .inl r_1.2.1)), (aRk_worth, .inl (cI, 4, .inl r_1.2.2.1)), (aRk_lengths, .inl (cI, 6, .inl r_1.2.2.2.1)), (aRk_laid, .inl (cI, 6, .inl r_1.2.2.2.2.1)), (aRk_slates, .inl (cI, 72, .inl r_1.2.2.2.2.2.1))] := hD
  refine lv_aload_n hx hb dX7_image_16 rfl (lv_at hl 0 rfl) ?_
  refine va_get (D := (dC, dI)) (ci := 6) (v := .ref aRk) (C := RX7) (T := TX7) (N := 6) hx hb hts (fun _ h => List.mem_cons_of_mem _ (List.mem_append_left _ (List.mem_append_right _ h))) hown hK hP 0 rfl rfl 1 (by decide) (hts (.fieldLink RX7 16 "SlateRows" "kept" "LSlateRows$Roof;") (by decide +kernel)) (fun _ h9 => h9) rfl dX7_image_17 ?_
  refine va_get (D := (dC, dI)) (ci := 3) (v := .int r_1.2.2.2.2.2.2.2.1) (C := RX3) (T := TX3) (N := 9) hx hb hts (fun _ h => List.mem_cons_of_mem _ (List.mem_append_right _ h)) hown hK hP 8 rfl rfl 7 (by decide) (hts (.fieldLink RX7 166 "SlateRows$Roof" "rows" "I") (by decide +kernel)) (fun _ h9 => h9) rfl dX7_image_20 ?_
  have h := Option.some.inj h
  exact W.iret hx hb hr (fun t ht hW => ⟨⟨_, (), rfl, by rw [← h], by (try rw [← h]); rw [ht]; exact hP, va_K.moved hW.alike hK, by (try rw [← h]); exact hD⟩, hS.F ht⟩) hS.2.2 dX7_image_23
def f_X7_restore (N : Nat) (S_isKept : Int32) (Rn_inches : Nat → Int32) (Rn_many : Nat → Int32) (Rn_worth : Nat → Int32) (Rn_lengths : Nat → Int32) (Rn_laid : Nat → Int32) (Rn_slates : Nat → Int32) (Rn_widths : Int32) (Rn_rows : Int32) (Rn_lap : Int32) (Rk_inches : Nat → Int32) (Rk_many : Nat → Int32) (Rk_worth : Nat → Int32) (Rk_lengths : Nat → Int32) (Rk_laid : Nat → Int32) (Rk_slates : Nat → Int32) (Rk_widths : Int32) (Rk_rows : Int32) (Rk_lap : Int32) : Option (Int32 × (Nat → Int32) × (Nat → Int32) × (Nat → Int32) × (Nat → Int32) × (Nat → Int32) × (Nat → Int32) × Int32 × Int32 × Int32) :=
  if S_isKept = 0 then (some ((-3), Rn_inches, Rn_many, Rn_worth, Rn_lengths, Rn_laid, Rn_slates, Rn_widths, Rn_rows, Rn_lap)) else ((f_X3_takeOver N Rn_inches Rn_many Rn_worth Rn_lengths Rn_laid Rn_slates Rn_widths Rn_rows Rn_lap Rk_inches Rk_many Rk_worth Rk_lengths Rk_laid Rk_slates Rk_widths Rk_rows Rk_lap).bind fun r_2 => some (r_2.2.2.2.2.2.2.2.1, r_2.1, r_2.2.1, r_2.2.2.1, r_2.2.2.2.1, r_2.2.2.2.2.1, r_2.2.2.2.2.2.1, r_2.2.2.2.2.2.2.1, r_2.2.2.2.2.2.2.2.1, r_2.2.2.2.2.2.2.2.2))
set_option maxHeartbeats 4000000 in
set_option maxRecDepth 100000 in
theorem k_X7_restore (l : Launch) (dC : Nat → ClassId) (dI : Nat → Nat → Nat) (cI cZ cS : ClassId) (N : Nat) (aS aRn aRn_inches aRn_many aRn_worth aRn_lengths aRn_laid aRn_slates aRk aRk_inches aRk_many aRk_worth aRk_lengths aRk_laid aRk_slates aMind aShv : Nat) (sz : Nat) (S_isKept : Int32) (S_ways : Option Nat) (Rn_inches : Nat → Int32) (Rn_many : Nat → Int32) (Rn_worth : Nat → Int32) (Rn_lengths : Nat → Int32) (Rn_laid : Nat → Int32) (Rn_slates : Nat → Int32) (Rn_widths : Int32) (Rn_rows : Int32) (Rn_lap : Int32) (Rk_inches : Nat → Int32) (Rk_many : Nat → Int32) (Rk_worth : Nat → Int32) (Rk_lengths : Nat → Int32) (Rk_laid : Nat → Int32) (Rk_slates : Nat → Int32) (Rk_widths : Int32) (Rk_rows : Int32) (Rk_lap : Int32) (res : Int32 × (Nat → Int32) × (Nat → Int32) × (Nat → Int32) × (Nat → Int32) × (Nat → Int32) × (Nat → Int32) × Int32 × Int32 × Int32) (h : f_X7_restore N S_isKept Rn_inches Rn_many Rn_worth Rn_lengths Rn_laid Rn_slates Rn_widths Rn_rows Rn_lap Rk_inches Rk_many Rk_worth Rk_lengths Rk_laid Rk_slates Rk_widths Rk_rows Rk_lap = some res) : Met l yX7_restore wsX7_restore ({ frames := 2, cells := 0, slots := 0, locals := 61 }) (va_Pc [.ref aS] (preW (dC, dI) cI cZ cS [(aS, .inr (6, [.ref aRn, .ref aRk, .ref aMind, .ref aShv, .int S_isKept, va_rf S_ways])), (aRn, .inr (3, [.ref aRn_inches, .ref aRn_many, .ref aRn_worth, .ref aRn_lengths, .ref aRn_laid, .ref aRn_slates, .int Rn_widths, .int Rn_rows, .int Rn_lap])), (aRn_inches, .inl (cI, 4, .inl Rn_inches)), (aRn_many, .inl (cI, 4, .inl Rn_many)), (aRn_worth, .inl (cI, 4, .inl Rn_worth)), (aRn_lengths, .inl (cI, 6, .inl Rn_lengths)), (aRn_laid, .inl (cI, 6, .inl Rn_laid)), (aRn_slates, .inl (cI, 72, .inl Rn_slates)), (aRk, .inr (3, [.ref aRk_inches, .ref aRk_many, .ref aRk_worth, .ref aRk_lengths, .ref aRk_laid, .ref aRk_slates, .int Rk_widths, .int Rk_rows, .int Rk_lap])), (aRk_inches, .inl (cI, 4, .inl Rk_inches)), (aRk_many, .inl (cI, 4, .inl Rk_many)), (aRk_worth, .inl (cI, 4, .inl Rk_worth)), (aRk_lengths, .inl (cI, 6, .inl Rk_lengths)), (aRk_laid, .inl (cI, 6, .inl Rk_laid)), (aRk_slates, .inl (cI, 72, .inl Rk_slates))] sz)) (va_Qi (fun (r : Int32) (_ : Unit) => r = res.1) (fun _ => qW (dC, dI) cI cZ cS (va_A [(aS, .inr (6, [.ref aRn, .ref aRk, .ref aMind, .ref aShv, .int S_isKept, va_rf S_ways])), (aRn, .inr (3, [.ref aRn_inches, .ref aRn_many, .ref aRn_worth, .ref aRn_lengths, .ref aRn_laid, .ref aRn_slates, .int Rn_widths, .int Rn_rows, .int Rn_lap])), (aRn_inches, .inl (cI, 4, .inl Rn_inches)), (aRn_many, .inl (cI, 4, .inl Rn_many)), (aRn_worth, .inl (cI, 4, .inl Rn_worth)), (aRn_lengths, .inl (cI, 6, .inl Rn_lengths)), (aRn_laid, .inl (cI, 6, .inl Rn_laid)), (aRn_slates, .inl (cI, 72, .inl Rn_slates)), (aRk, .inr (3, [.ref aRk_inches, .ref aRk_many, .ref aRk_worth, .ref aRk_lengths, .ref aRk_laid, .ref aRk_slates, .int Rk_widths, .int Rk_rows, .int Rk_lap])), (aRk_inches, .inl (cI, 4, .inl Rk_inches)), (aRk_many, .inl (cI, 4, .inl Rk_many)), (aRk_worth, .inl (cI, 4, .inl Rk_worth)), (aRk_lengths, .inl (cI, 6, .inl Rk_lengths)), (aRk_laid, .inl (cI, 6, .inl Rk_laid)), (aRk_slates, .inl (cI, 72, .inl Rk_slates))] sz) [(aS, .inr (6, [.ref aRn, .ref aRk, .ref aMind, .ref aShv, .int S_isKept, va_rf S_ways])), (aRn, .inr (3, [.ref aRn_inches, .ref aRn_many, .ref aRn_worth, .ref aRn_lengths, .ref aRn_laid, .ref aRn_slates, .int res.2.2.2.2.2.2.2.1, .int res.2.2.2.2.2.2.2.2.1, .int res.2.2.2.2.2.2.2.2.2])), (aRn_inches, .inl (cI, 4, .inl res.2.1)), (aRn_many, .inl (cI, 4, .inl res.2.2.1)), (aRn_worth, .inl (cI, 4, .inl res.2.2.2.1)), (aRn_lengths, .inl (cI, 6, .inl res.2.2.2.2.1)), (aRn_laid, .inl (cI, 6, .inl res.2.2.2.2.2.1)), (aRn_slates, .inl (cI, 72, .inl res.2.2.2.2.2.2.1)), (aRk, .inr (3, [.ref aRk_inches, .ref aRk_many, .ref aRk_worth, .ref aRk_lengths, .ref aRk_laid, .ref aRk_slates, .int Rk_widths, .int Rk_rows, .int Rk_lap])), (aRk_inches, .inl (cI, 4, .inl Rk_inches)), (aRk_many, .inl (cI, 4, .inl Rk_many)), (aRk_worth, .inl (cI, 4, .inl Rk_worth)), (aRk_lengths, .inl (cI, 6, .inl Rk_lengths)), (aRk_laid, .inl (cI, 6, .inl Rk_laid)), (aRk_slates, .inl (cI, 72, .inl Rk_slates))]) (va_A [(aS, .inr (6, [.ref aRn, .ref aRk, .ref aMind, .ref aShv, .int S_isKept, va_rf S_ways])), (aRn, .inr (3, [.ref aRn_inches, .ref aRn_many, .ref aRn_worth, .ref aRn_lengths, .ref aRn_laid, .ref aRn_slates, .int Rn_widths, .int Rn_rows, .int Rn_lap])), (aRn_inches, .inl (cI, 4, .inl Rn_inches)), (aRn_many, .inl (cI, 4, .inl Rn_many)), (aRn_worth, .inl (cI, 4, .inl Rn_worth)), (aRn_lengths, .inl (cI, 6, .inl Rn_lengths)), (aRn_laid, .inl (cI, 6, .inl Rn_laid)), (aRn_slates, .inl (cI, 72, .inl Rn_slates)), (aRk, .inr (3, [.ref aRk_inches, .ref aRk_many, .ref aRk_worth, .ref aRk_lengths, .ref aRk_laid, .ref aRk_slates, .int Rk_widths, .int Rk_rows, .int Rk_lap])), (aRk_inches, .inl (cI, 4, .inl Rk_inches)), (aRk_many, .inl (cI, 4, .inl Rk_many)), (aRk_worth, .inl (cI, 4, .inl Rk_worth)), (aRk_lengths, .inl (cI, 6, .inl Rk_lengths)), (aRk_laid, .inl (cI, 6, .inl Rk_laid)), (aRk_slates, .inl (cI, 72, .inl Rk_slates))] sz)) 0 0 (va_A [(aS, .inr (6, [.ref aRn, .ref aRk, .ref aMind, .ref aShv, .int S_isKept, va_rf S_ways])), (aRn, .inr (3, [.ref aRn_inches, .ref aRn_many, .ref aRn_worth, .ref aRn_lengths, .ref aRn_laid, .ref aRn_slates, .int Rn_widths, .int Rn_rows, .int Rn_lap])), (aRn_inches, .inl (cI, 4, .inl Rn_inches)), (aRn_many, .inl (cI, 4, .inl Rn_many)), (aRn_worth, .inl (cI, 4, .inl Rn_worth)), (aRn_lengths, .inl (cI, 6, .inl Rn_lengths)), (aRn_laid, .inl (cI, 6, .inl Rn_laid)), (aRn_slates, .inl (cI, 72, .inl Rn_slates)), (aRk, .inr (3, [.ref aRk_inches, .ref aRk_many, .ref aRk_worth, .ref aRk_lengths, .ref aRk_laid, .ref aRk_slates, .int Rk_widths, .int Rk_rows, .int Rk_lap])), (aRk_inches, .inl (cI, 4, .inl Rk_inches)), (aRk_many, .inl (cI, 4, .inl Rk_many)), (aRk_worth, .inl (cI, 4, .inl Rk_worth)), (aRk_lengths, .inl (cI, 6, .inl Rk_lengths)), (aRk_laid, .inl (cI, 6, .inl Rk_laid)), (aRk_slates, .inl (cI, 72, .inl Rk_slates))] sz) := by
  refine Met.ofW (cc := cX7_restore) (maxL := 1) (ret := (some .int)) (by decide) rfl ?_
  intro p e s m args below meth c s₁ B hml hv
  obtain ⟨rfl, hsz, hP, hK, hD0⟩ := hv
  have hx := B.exec
  have hb := B.bytes
  have hr := B.returns
  have hts := atoms_spec (ws := wsX7_restore) B.pre
  have hown : s.vm.findClass RX7 = some m.cls := findClass_of_methodNamed B.named
  have hlocks := B.notSynchronized
  subst hsz
  have hD := hD0.self (sz := s.heap.size)
  generalize hAe : va_A [(aS, .inr (6, [.ref aRn, .ref aRk, .ref aMind, .ref aShv, .int S_isKept, va_rf S_ways])), (aRn, .inr (3, [.ref aRn_inches, .ref aRn_many, .ref aRn_worth, .ref aRn_lengths, .ref aRn_laid, .ref aRn_slates, .int Rn_widths, .int Rn_rows, .int Rn_lap])), (aRn_inches, .inl (cI, 4, .inl Rn_inches)), (aRn_many, .inl (cI, 4, .inl Rn_many)), (aRn_worth, .inl (cI, 4, .inl Rn_worth)), (aRn_lengths, .inl (cI, 6, .inl Rn_lengths)), (aRn_laid, .inl (cI, 6, .inl Rn_laid)), (aRn_slates, .inl (cI, 72, .inl Rn_slates)), (aRk, .inr (3, [.ref aRk_inches, .ref aRk_many, .ref aRk_worth, .ref aRk_lengths, .ref aRk_laid, .ref aRk_slates, .int Rk_widths, .int Rk_rows, .int Rk_lap])), (aRk_inches, .inl (cI, 4, .inl Rk_inches)), (aRk_many, .inl (cI, 4, .inl Rk_many)), (aRk_worth, .inl (cI, 4, .inl Rk_worth)), (aRk_lengths, .inl (cI, 6, .inl Rk_lengths)), (aRk_laid, .inl (cI, 6, .inl Rk_laid)), (aRk_slates, .inl (cI, 72, .inl Rk_slates))] s.heap.size = A at hD ⊢
  have hA : ∀ q : Nat, s.heap.size ≤ q → A q := fun q h => by rw [← hAe]; exact Or.inr h
  have hS : va_S A s.heap s.heap [] := va_S.rf
  have hl := lv_entry ([.ref aS]) (n := 1) (Nat.le_of_ble_eq_true rfl)
  rw [lg_entry_eq]
  generalize (lg_sl ([.ref aS]) ++ List.replicate (1 - (lg_sl ([.ref aS])).length) Slot.unset).toArray = ls at hl ⊢
  have hl : lv_has ls 1 [(0, .ref aS)] := hl
  unfold f_X7_restore at h
  refine lv_aload_n hx hb dX7_restore_0 rfl (lv_at hl 0 rfl) ?_
  refine va_get (D := (dC, dI)) (ci := 6) (v := .int S_isKept) (C := RX7) (T := TX7) (N := 6) hx hb hts (fun _ h => List.mem_cons_of_mem _ (List.mem_append_left _ (List.mem_append_right _ h))) hown hK hP 0 rfl rfl 4 (by decide) (hts (.fieldLink RX7 28 "SlateRows" "isKept" "Z") (by decide +kernel)) (fun _ h9 => h9) rfl dX7_restore_1 ?_
  refine lv_if_ne (tgt := 10) hx hb dX7_restore_4 (by decide) (fun c_1 => ?_) (fun c_1 => ?_)
  · have h := it_n c_1 h
    refine lv_aload_n hx hb dX7_restore_10 rfl (lv_at hl 0 rfl) ?_
    refine va_get (D := (dC, dI)) (ci := 6) (v := .ref aRn) (C := RX7) (T := TX7) (N := 6) hx hb hts (fun _ h => List.mem_cons_of_mem _ (List.mem_append_left _ (List.mem_append_right _ h))) hown hK hP 0 rfl rfl 0 (by decide) (hts (.fieldLink RX7 10 "SlateRows" "now" "LSlateRows$Roof;") (by decide +kernel)) (fun _ h9 => h9) rfl dX7_restore_11 ?_
    refine lv_aload_n hx hb dX7_restore_14 rfl (lv_at hl 0 rfl) ?_
    refine va_get (D := (dC, dI)) (ci := 6) (v := .ref aRk) (C := RX7) (T := TX7) (N := 6) hx hb hts (fun _ h => List.mem_cons_of_mem _ (List.mem_append_left _ (List.mem_append_right _ h))) hown hK hP 0 rfl rfl 1 (by decide) (hts (.fieldLink RX7 16 "SlateRows" "kept" "LSlateRows$Roof;") (by decide +kernel)) (fun _ h9 => h9) rfl dX7_restore_15 ?_
    obtain ⟨r_2, hg, h⟩ := bd_some h
    refine mtVv (As := [.ref aRk]) (rest := []) (ci := 3) (wr := [(aS, .inr (6, [.ref aRn, .ref aRk, .ref aMind, .ref aShv, .int S_isKept, va_rf S_ways]))]) (w2 := [(aS, .inr (6, [.ref aRn, .ref aRk, .ref aMind, .ref aShv, .int S_isKept, va_rf S_ways])), (aRn, .inr (3, [.ref aRn_inches, .ref aRn_many, .ref aRn_worth, .ref aRn_lengths, .ref aRn_laid, .ref aRn_slates, .int r_2.2.2.2.2.2.2.1, .int r_2.2.2.2.2.2.2.2.1, .int r_2.2.2.2.2.2.2.2.2])), (aRn_inches, .inl (cI, 4, .inl r_2.1)), (aRn_many, .inl (cI, 4, .inl r_2.2.1)), (aRn_worth, .inl (cI, 4, .inl r_2.2.2.1)), (aRn_lengths, .inl (cI, 6, .inl r_2.2.2.2.1)), (aRn_laid, .inl (cI, 6, .inl r_2.2.2.2.2.1)), (aRn_slates, .inl (cI, 72, .inl r_2.2.2.2.2.2.1)), (aRk, .inr (3, [.ref aRk_inches, .ref aRk_many, .ref aRk_worth, .ref aRk_lengths, .ref aRk_laid, .ref aRk_slates, .int Rk_widths, .int Rk_rows, .int Rk_lap])), (aRk_inches, .inl (cI, 4, .inl Rk_inches)), (aRk_many, .inl (cI, 4, .inl Rk_many)), (aRk_worth, .inl (cI, 4, .inl Rk_worth)), (aRk_lengths, .inl (cI, 6, .inl Rk_lengths)), (aRk_laid, .inl (cI, 6, .inl Rk_laid)), (aRk_slates, .inl (cI, 72, .inl Rk_slates))]) ⟨hx, hb, hml, hown, hts⟩ (k_X3_takeOver l dC dI cI cZ cS N aRn aRn_inches aRn_many aRn_worth aRn_lengths aRn_laid aRn_slates aRk aRk_inches aRk_many aRk_worth aRk_lengths aRk_laid aRk_slates _ Rn_inches Rn_many Rn_worth Rn_lengths Rn_laid Rn_slates Rn_widths Rn_rows Rn_lap Rk_inches Rk_many Rk_worth Rk_lengths Rk_laid Rk_slates Rk_widths Rk_rows Rk_lap r_2 hg) (cwV 1 hts gX7_restore_X3_takeOver rfl rfl rfl cd_X3_takeOver ⟨Nat.le_of_ble_eq_true rfl, Nat.le_of_ble_eq_true rfl⟩) hP hD hK hS hA [1, 2, 3, 4, 5, 6, 7, 8, 9, 10, 11, 12, 13, 14] [0] [0, 1, 2, 3, 4, 5, 6, 7, 8, 9, 10, 11, 12, 13, 14] (by decide) (by decide) (by decide) (by decide) rfl rfl rfl rfl rfl rfl hl.1 rfl (Nat.le_of_ble_eq_true rfl) dX7_restore_18 ⟨Nat.zero_le _, Nat.zero_le _⟩ (fun H locs hP hD hS => ?_)
    refine lv_aload_n hx hb dX7_restore_21 rfl (lv_at hl 0 rfl) ?_
    refine va_get (D := (dC, dI)) (ci := 6) (v := .ref aRn) (C := RX7) (T := TX7) (N := 6) hx hb hts (fun _ h => List.mem_cons_of_mem _ (List.mem_append_left _ (List.mem_append_right _ h))) hown hK hP 0 rfl rfl 0 (by decide) (hts (.fieldLink RX7 10 "SlateRows" "now" "LSlateRows$Roof;") (by decide +kernel)) (fun _ h9 => h9) rfl dX7_restore_22 ?_
    refine va_get (D := (dC, dI)) (ci := 3) (v := .int r_2.2.2.2.2.2.2.2.1) (C := RX3) (T := TX3) (N := 9) hx hb hts (fun _ h => List.mem_cons_of_mem _ (List.mem_append_right _ h)) hown hK hP 1 rfl rfl 7 (by decide) (hts (.fieldLink RX7 166 "SlateRows$Roof" "rows" "I") (by decide +kernel)) (fun _ h9 => h9) rfl dX7_restore_25 ?_
    have h := Option.some.inj h
    exact W.iret hx hb hr (fun t ht hW => ⟨⟨_, (), rfl, by rw [← h], by (try rw [← h]); rw [ht]; exact hP, va_K.moved hW.alike hK, by (try rw [← h]); exact hD⟩, hS.F ht⟩) hS.2.2 dX7_restore_28
  · have h := it_p c_1 h
    refine lv_bipush (v := (-3)) hx hb dX7_restore_7 (by decide) ?_
    have h := Option.some.inj h
    exact W.iret hx hb hr (fun t ht hW => ⟨⟨_, (), rfl, by rw [← h], by (try rw [← h]); rw [ht]; exact hP, va_K.moved hW.alike hK, by (try rw [← h]); exact hD⟩, hS.F ht⟩) hS.2.2 dX7_restore_9
def f_X7_leastTogether_L17 (N : Nat) (nU : Nat) (nU2 : Nat) (Rn_many : Nat → Int32) (Rn_worth : Nat → Int32) (Rn_widths : Int32) (U : Nat → Int32) (U2 : Nat → Int32) (K7 : Int32 → Int32 → Option (Int32)) (x4 : Int32) : Nat → Int32 → Int32 → Option (Int32)
  | 0, _, _ => none
  | n + 1, v3, v5 =>
    if (nI nU2) ≤ v5 then (K7 v3 (x4 + 1)) else (ck (gi x4 nU) (ck (gi v5 nU2) ((f_X3_hasBoth N Rn_many Rn_widths (U x4.toNatClampNeg) (U2 v5.toNatClampNeg)).bind fun r_4 => if (b2i r_4) = 0 then (f_X7_leastTogether_L17 N nU nU2 Rn_many Rn_worth Rn_widths U U2 K7 x4 n v3 (v5 + 1)) else (ck (gi x4 nU) ((f_X3_worthOfTaken N Rn_worth Rn_widths (U x4.toNatClampNeg)).bind fun r_6 => ck (gi v5 nU2) ((f_X3_worthOfTaken N Rn_worth Rn_widths (U2 v5.toNatClampNeg)).bind fun r_7 => f_X7_leastTogether_L17 N nU nU2 Rn_many Rn_worth Rn_widths U U2 K7 x4 n (mn v3 (r_6 + r_7)) (v5 + 1)))))))
def f_X7_leastTogether_L7 (N : Nat) (nU : Nat) (nU2 : Nat) (Rn_many : Nat → Int32) (Rn_worth : Nat → Int32) (Rn_widths : Int32) (U : Nat → Int32) (U2 : Nat → Int32) : Nat → Int32 → Int32 → Option (Int32)
  | 0, _, _ => none
  | n + 1, v3, v4 =>
    if (nI nU) ≤ v4 then (if 1000000 ≤ v3 then (some ((-4))) else (some (v3))) else (f_X7_leastTogether_L17 N nU nU2 Rn_many Rn_worth Rn_widths U U2 (fun z0 z1 => f_X7_leastTogether_L7 N nU nU2 Rn_many Rn_worth Rn_widths U U2 n z0 z1) v4 N v3 0)
def f_X7_leastTogether (N : Nat) (nU : Nat) (nU2 : Nat) (Rn_many : Nat → Int32) (Rn_worth : Nat → Int32) (Rn_widths : Int32) (U : Nat → Int32) (U2 : Nat → Int32) : Option (Int32) :=
  f_X7_leastTogether_L7 N nU nU2 Rn_many Rn_worth Rn_widths U U2 N 1000000 0
set_option maxHeartbeats 4000000 in
set_option maxRecDepth 100000 in
theorem k_X7_leastTogether (l : Launch) (dC : Nat → ClassId) (dI : Nat → Nat → Nat) (cI cZ cS : ClassId) (N : Nat) (aS aRn aRn_inches aRn_many aRn_worth aRn_lengths aRn_laid aRn_slates aU aU2 aKept aMind aShv : Nat) (nU : Nat) (nU2 : Nat) (S_isKept : Int32) (S_ways : Option Nat) (Rn_inches : Nat → Int32) (Rn_many : Nat → Int32) (Rn_worth : Nat → Int32) (Rn_lengths : Nat → Int32) (Rn_laid : Nat → Int32) (Rn_slates : Nat → Int32) (Rn_widths : Int32) (Rn_rows : Int32) (Rn_lap : Int32) (U : Nat → Int32) (U2 : Nat → Int32) (res : Int32) (h : f_X7_leastTogether N nU nU2 Rn_many Rn_worth Rn_widths U U2 = some res) : Met l yX7_leastTogether wsX7_leastTogether ({ frames := 2, cells := 0, slots := 0, locals := 44 }) (va_Pc [.ref aS, .ref aU, .ref aU2] (wd (dC, dI) cI cZ cS [(aS, .inr (6, [.ref aRn, .ref aKept, .ref aMind, .ref aShv, .int S_isKept, va_rf S_ways])), (aRn, .inr (3, [.ref aRn_inches, .ref aRn_many, .ref aRn_worth, .ref aRn_lengths, .ref aRn_laid, .ref aRn_slates, .int Rn_widths, .int Rn_rows, .int Rn_lap])), (aRn_inches, .inl (cI, 4, .inl Rn_inches)), (aRn_many, .inl (cI, 4, .inl Rn_many)), (aRn_worth, .inl (cI, 4, .inl Rn_worth)), (aRn_lengths, .inl (cI, 6, .inl Rn_lengths)), (aRn_laid, .inl (cI, 6, .inl Rn_laid)), (aRn_slates, .inl (cI, 72, .inl Rn_slates)), (aU, .inl (cI, nU, .inl U)), (aU2, .inl (cI, nU2, .inl U2))])) (vp_Si (fun r => r = res)) 0 0 (fun _ => False) := by
  refine Met.ofW (cc := cX7_leastTogether) (maxL := 6) (ret := (some .int)) (by decide) rfl ?_
  intro p e s m args below meth c s₁ B hml hv
  obtain ⟨rfl, hP, hK, hD⟩ := hv
  have hx := B.exec
  have hb := B.bytes
  have hr := B.returns
  have hts := atoms_spec (ws := wsX7_leastTogether) B.pre
  have hown : s.vm.findClass RX7 = some m.cls := findClass_of_methodNamed B.named
  have hlocks := B.notSynchronized
  have hl := lv_entry ([.ref aS, .ref aU, .ref aU2]) (n := 6) (Nat.le_of_ble_eq_true rfl)
  rw [lg_entry_eq]
  generalize (lg_sl ([.ref aS, .ref aU, .ref aU2]) ++ List.replicate (6 - (lg_sl ([.ref aS, .ref aU, .ref aU2])).length) Slot.unset).toArray = ls at hl ⊢
  have hl : lv_has ls 6 [(0, .ref aS), (1, .ref aU), (2, .ref aU2)] := hl
  unfold f_X7_leastTogether at h
  refine lv_ldcw (v := 1000000) hx hb hown (hts (.constant RX7 289 (1000000)) (by decide +kernel)) dX7_leastTogether_0 ?_
  refine lv_istore_n (lv' := [(3, .int 1000000), (0, .ref aS), (1, .ref aU), (2, .ref aU2)]) hx hb dX7_leastTogether_3 rfl hl (by decide) rfl (fun ls hl => ?_)
  refine lv_iconst (v := 0) hx hb dX7_leastTogether_4 (by decide) ?_
  refine lv_istore (lv' := [(4, .int 0), (3, .int 1000000), (0, .ref aS), (1, .ref aU), (2, .ref aU2)]) hx hb dX7_leastTogether_5 hl (by decide) rfl (fun ls hl => ?_)
  have L7_15 : ∀ (n_16 : Nat) (v3_17 : Int32) (v4_18 : Int32)  (ls : Array Slot), f_X7_leastTogether_L7 N nU nU2 Rn_many Rn_worth Rn_widths U U2 n_16 v3_17 v4_18 = some res → lv_has ls 6 [(0, .ref aS), (1, .ref aU), (2, .ref aU2), (3, .int v3_17), (4, .int v4_18)] → W p l e (headSpec wsX7_leastTogether ({ frames := 2, cells := 0, slots := 0, locals := 44 })).room s m ([.ref aS, .ref aU, .ref aU2] : List Value).toArray below meth c s.heap [] 0 0 (MQ below (vp_Si (fun r => r = res)) ([.ref aS, .ref aU, .ref aU2] : List Value).toArray s 0 0 (fun _ => False)) (F0 m 7 ls []) := by
    intro n_16
    induction n_16 with
    | zero =>
      intro v3_17 v4_18 ls h
      simp only [f_X7_leastTogether_L7] at h
      try exact absurd h (by simp)
    | succ n_16 ihn_16 =>
      intro v3_17 v4_18 ls h hl
      rw [f_X7_leastTogether_L7] at h
      refine lv_iload hx hb dX7_leastTogether_7 (lv_at hl 4 rfl) ?_
      refine lv_aload_n hx hb dX7_leastTogether_9 rfl (lv_at hl 1 rfl) ?_
      refine va_alen hx hb hK hP 8 0 rfl rfl (v := nI nU) rfl dX7_leastTogether_10 ?_
      refine lv_icmp_ge (tgt := 82) hx hb dX7_leastTogether_11 (by decide) (fun c_19 => ?_) (fun c_19 => ?_)
      · have h := it_p c_19 h
        refine lv_iload_n hx hb dX7_leastTogether_82 rfl (lv_at hl 3 rfl) ?_
        refine lv_ldcw (v := 1000000) hx hb hown (hts (.constant RX7 289 (1000000)) (by decide +kernel)) dX7_leastTogether_83 ?_
        refine lv_icmp_ge (tgt := 93) hx hb dX7_leastTogether_86 (by decide) (fun c_20 => ?_) (fun c_20 => ?_)
        · have h := it_p c_20 h
          refine lv_bipush (v := (-4)) hx hb dX7_leastTogether_93 (by decide) ?_
          exact W.iret hx hb hr (fun t ht hW => ⟨_, rfl, Option.some.inj h, ht⟩) (fun q hq => by cases hq) dX7_leastTogether_95
        · have h := it_n c_20 h
          refine lv_iload_n hx hb dX7_leastTogether_89 rfl (lv_at hl 3 rfl) ?_
          refine lv_goto (tgt := 95) hx hb dX7_leastTogether_90 (by decide) ?_
          exact W.iret hx hb hr (fun t ht hW => ⟨_, rfl, Option.some.inj h, ht⟩) (fun q hq => by cases hq) dX7_leastTogether_95
      · have h := it_n c_19 h
        refine lv_iconst (v := 0) hx hb dX7_leastTogether_14 (by decide) ?_
        refine lv_istore (lv' := [(5, .int 0), (0, .ref aS), (1, .ref aU), (2, .ref aU2), (3, .int v3_17), (4, .int v4_18)]) hx hb dX7_leastTogether_15 hl (by decide) rfl (fun ls hl => ?_)
        have L17_20 : ∀ (n_21 : Nat) (v3_22 : Int32) (v5_23 : Int32)  (ls : Array Slot), f_X7_leastTogether_L17 N nU nU2 Rn_many Rn_worth Rn_widths U U2 (fun z0 z1 => f_X7_leastTogether_L7 N nU nU2 Rn_many Rn_worth Rn_widths U U2 n_16 z0 z1) v4_18 n_21 v3_22 v5_23 = some res → lv_has ls 6 [(0, .ref aS), (1, .ref aU), (2, .ref aU2), (3, .int v3_22), (4, .int v4_18), (5, .int v5_23)] → W p l e (headSpec wsX7_leastTogether ({ frames := 2, cells := 0, slots := 0, locals := 44 })).room s m ([.ref aS, .ref aU, .ref aU2] : List Value).toArray below meth c s.heap [] 0 0 (MQ below (vp_Si (fun r => r = res)) ([.ref aS, .ref aU, .ref aU2] : List Value).toArray s 0 0 (fun _ => False)) (F0 m 17 ls []) := by
          intro n_21
          induction n_21 with
          | zero =>
            intro v3_22 v5_23 ls h
            simp only [f_X7_leastTogether_L17] at h
            try exact absurd h (by simp)
          | succ n_21 ihn_21 =>
            intro v3_22 v5_23 ls h hl
            rw [f_X7_leastTogether_L17] at h
            refine lv_iload hx hb dX7_leastTogether_17 (lv_at hl 5 rfl) ?_
            refine lv_aload_n hx hb dX7_leastTogether_19 rfl (lv_at hl 2 rfl) ?_
            refine va_alen hx hb hK hP 9 0 rfl rfl (v := nI nU2) rfl dX7_leastTogether_20 ?_
            refine lv_icmp_ge (tgt := 76) hx hb dX7_leastTogether_21 (by decide) (fun c_24 => ?_) (fun c_24 => ?_)
            · have h := it_p c_24 h
              refine lv_iinc (v := (v4_18 + 1)) (lv' := [(4, .int (v4_18 + 1)), (0, .ref aS), (1, .ref aU), (2, .ref aU2), (3, .int v3_22), (5, .int v5_23)]) hx hb dX7_leastTogether_76 hl (k := 4) rfl rfl (by decide) rfl (fun ls hl => ?_)
              refine lv_goto (tgt := 7) hx hb dX7_leastTogether_79 (by decide) ?_
              exact ihn_16 v3_22 (v4_18 + 1) ls h (lv_sub hl [1, 2, 3, 4, 0] rfl)
            · have h := it_n c_24 h
              refine lv_aload_n hx hb dX7_leastTogether_24 rfl (lv_at hl 0 rfl) ?_
              refine va_get (D := (dC, dI)) (ci := 6) (v := .ref aRn) (C := RX7) (T := TX7) (N := 6) hx hb hts (fun _ h => List.mem_cons_of_mem _ (List.mem_append_left _ (List.mem_append_right _ h))) hown hK hP 0 rfl rfl 0 (by decide) (hts (.fieldLink RX7 10 "SlateRows" "now" "LSlateRows$Roof;") (by decide +kernel)) (fun _ h9 => h9) rfl dX7_leastTogether_25 ?_
              refine lv_aload_n hx hb dX7_leastTogether_28 rfl (lv_at hl 1 rfl) ?_
              refine lv_iload hx hb dX7_leastTogether_29 (lv_at hl 4 rfl) ?_
              obtain ⟨hi, h⟩ := ck_some h
              refine va_iald hx hb hK hP 8 0 rfl rfl (gi_in hi) dX7_leastTogether_31 ?_
              refine lv_aload_n hx hb dX7_leastTogether_32 rfl (lv_at hl 2 rfl) ?_
              refine lv_iload hx hb dX7_leastTogether_33 (lv_at hl 5 rfl) ?_
              obtain ⟨hi, h⟩ := ck_some h
              refine va_iald hx hb hK hP 9 0 rfl rfl (gi_in hi) dX7_leastTogether_35 ?_
              obtain ⟨r_25, hg, h⟩ := bd_some h
              refine rdV (As := [.int (U v4_18.toNatClampNeg), .int (U2 v5_23.toNatClampNeg)]) (rest := []) (ci := 3) ⟨hx, hb, hml, hown, hts⟩ (k_X3_hasBoth l dC dI cI cZ cS N aRn aRn_inches aRn_many aRn_worth aRn_lengths aRn_laid aRn_slates Rn_inches Rn_many Rn_worth Rn_lengths Rn_laid Rn_slates Rn_widths Rn_rows Rn_lap (U v4_18.toNatClampNeg) (U2 v5_23.toNatClampNeg) r_25 hg) (cwV 2 hts gX7_leastTogether_X3_hasBoth rfl rfl rfl cd_X3_hasBoth ⟨Nat.le_of_ble_eq_true rfl, Nat.le_of_ble_eq_true rfl⟩) hP hD hK [1, 2, 3, 4, 5, 6, 7] (by decide) rfl rfl rfl rfl hl.1 rfl (Nat.le_of_ble_eq_true rfl) dX7_leastTogether_36 ⟨Nat.zero_le _, Nat.zero_le _⟩ ?_
              refine lv_if_eq (tgt := 70) hx hb dX7_leastTogether_39 (by decide) (fun c_26 => ?_) (fun c_26 => ?_)
              · have h := it_p c_26 h
                refine lv_iinc (v := (v5_23 + 1)) (lv' := [(5, .int (v5_23 + 1)), (0, .ref aS), (1, .ref aU), (2, .ref aU2), (3, .int v3_22), (4, .int v4_18)]) hx hb dX7_leastTogether_70 hl (k := 5) rfl rfl (by decide) rfl (fun ls hl => ?_)
                refine lv_goto (tgt := 17) hx hb dX7_leastTogether_73 (by decide) ?_
                exact ihn_21 v3_22 (v5_23 + 1) ls h (lv_sub hl [1, 2, 3, 4, 5, 0] rfl)
              · have h := it_n c_26 h
                refine lv_iload_n hx hb dX7_leastTogether_42 rfl (lv_at hl 3 rfl) ?_
                refine lv_aload_n hx hb dX7_leastTogether_43 rfl (lv_at hl 0 rfl) ?_
                refine va_get (D := (dC, dI)) (ci := 6) (v := .ref aRn) (C := RX7) (T := TX7) (N := 6) hx hb hts (fun _ h => List.mem_cons_of_mem _ (List.mem_append_left _ (List.mem_append_right _ h))) hown hK hP 0 rfl rfl 0 (by decide) (hts (.fieldLink RX7 10 "SlateRows" "now" "LSlateRows$Roof;") (by decide +kernel)) (fun _ h9 => h9) rfl dX7_leastTogether_44 ?_
                refine lv_aload_n hx hb dX7_leastTogether_47 rfl (lv_at hl 1 rfl) ?_
                refine lv_iload hx hb dX7_leastTogether_48 (lv_at hl 4 rfl) ?_
                obtain ⟨hi, h⟩ := ck_some h
                refine va_iald hx hb hK hP 8 0 rfl rfl (gi_in hi) dX7_leastTogether_50 ?_
                obtain ⟨r_27, hg, h⟩ := bd_some h
                refine rdV (As := [.int (U v4_18.toNatClampNeg)]) (rest := [.int v3_22]) (ci := 3) ⟨hx, hb, hml, hown, hts⟩ (k_X3_worthOfTaken l dC dI cI cZ cS N aRn aRn_inches aRn_many aRn_worth aRn_lengths aRn_laid aRn_slates Rn_inches Rn_many Rn_worth Rn_lengths Rn_laid Rn_slates Rn_widths Rn_rows Rn_lap (U v4_18.toNatClampNeg) r_27 hg) (cwV 1 hts gX7_leastTogether_X3_worthOfTaken rfl rfl rfl cd_X3_worthOfTaken ⟨Nat.le_of_ble_eq_true rfl, Nat.le_of_ble_eq_true rfl⟩) hP hD hK [1, 2, 3, 4, 5, 6, 7] (by decide) rfl rfl rfl rfl hl.1 rfl (Nat.le_of_ble_eq_true rfl) dX7_leastTogether_51 ⟨Nat.zero_le _, Nat.zero_le _⟩ ?_
                refine lv_aload_n hx hb dX7_leastTogether_54 rfl (lv_at hl 0 rfl) ?_
                refine va_get (D := (dC, dI)) (ci := 6) (v := .ref aRn) (C := RX7) (T := TX7) (N := 6) hx hb hts (fun _ h => List.mem_cons_of_mem _ (List.mem_append_left _ (List.mem_append_right _ h))) hown hK hP 0 rfl rfl 0 (by decide) (hts (.fieldLink RX7 10 "SlateRows" "now" "LSlateRows$Roof;") (by decide +kernel)) (fun _ h9 => h9) rfl dX7_leastTogether_55 ?_
                refine lv_aload_n hx hb dX7_leastTogether_58 rfl (lv_at hl 2 rfl) ?_
                refine lv_iload hx hb dX7_leastTogether_59 (lv_at hl 5 rfl) ?_
                obtain ⟨hi, h⟩ := ck_some h
                refine va_iald hx hb hK hP 9 0 rfl rfl (gi_in hi) dX7_leastTogether_61 ?_
                obtain ⟨r_28, hg, h⟩ := bd_some h
                refine rdV (As := [.int (U2 v5_23.toNatClampNeg)]) (rest := [.int r_27, .int v3_22]) (ci := 3) ⟨hx, hb, hml, hown, hts⟩ (k_X3_worthOfTaken l dC dI cI cZ cS N aRn aRn_inches aRn_many aRn_worth aRn_lengths aRn_laid aRn_slates Rn_inches Rn_many Rn_worth Rn_lengths Rn_laid Rn_slates Rn_widths Rn_rows Rn_lap (U2 v5_23.toNatClampNeg) r_28 hg) (cwV 1 hts gX7_leastTogether_X3_worthOfTaken rfl rfl rfl cd_X3_worthOfTaken ⟨Nat.le_of_ble_eq_true rfl, Nat.le_of_ble_eq_true rfl⟩) hP hD hK [1, 2, 3, 4, 5, 6, 7] (by decide) rfl rfl rfl rfl hl.1 rfl (Nat.le_of_ble_eq_true rfl) dX7_leastTogether_62 ⟨Nat.zero_le _, Nat.zero_le _⟩ ?_
                refine lv_iadd hx hb dX7_leastTogether_65 ?_
                refine va_mmin hx hb (hml.trans hl.1.symm) hown (hts (.methodLink RX7 178 Lib.Math.min.name) (by decide +kernel)) (hts (.static Lib.Math.min.name) (by decide +kernel)) (hts (.initialized "java/lang/Math") (by decide +kernel)) (hts (.code Lib.Math.min.name Lib.Math.min.code 2 (some .int)) (by decide +kernel)) (Nat.le_of_ble_eq_true rfl) (Nat.le_of_ble_eq_true rfl) (Nat.zero_le _) (Nat.zero_le _) dX7_leastTogether_66 ?_
                show W _ _ _ _ _ _ _ _ _ _ _ _ _ _ _ (F0 _ _ _ [.int (mn v3_22 (r_27 + r_28))])
                refine lv_istore_n (lv' := [(3, .int (mn v3_22 (r_27 + r_28))), (0, .ref aS), (1, .ref aU), (2, .ref aU2), (4, .int v4_18), (5, .int v5_23)]) hx hb dX7_leastTogether_69 rfl hl (by decide) rfl (fun ls hl => ?_)
                refine lv_iinc (v := (v5_23 + 1)) (lv' := [(5, .int (v5_23 + 1)), (3, .int (mn v3_22 (r_27 + r_28))), (0, .ref aS), (1, .ref aU), (2, .ref aU2), (4, .int v4_18)]) hx hb dX7_leastTogether_70 hl (k := 5) rfl rfl (by decide) rfl (fun ls hl => ?_)
                refine lv_goto (tgt := 17) hx hb dX7_leastTogether_73 (by decide) ?_
                exact ihn_21 (mn v3_22 (r_27 + r_28)) (v5_23 + 1) ls h (lv_sub hl [2, 3, 4, 1, 5, 0] rfl)
        exact L17_20 N v3_17 0 ls h (lv_sub hl [1, 2, 3, 4, 5, 0] rfl)
  exact L7_15 N 1000000 0 ls h (lv_sub hl [2, 3, 4, 1, 0] rfl)
