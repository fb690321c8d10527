/-! ===== element: it returns or throws ===== -/
def f_X7_element (N : Nat) (nums : Nat → Int32) (hold size x1 x2 : Int32) : Option (Nat × Int32) :=
  (f_X7_isShelf N x1).bind fun r_1 => if (b2i r_1) = 0 then some (1, 0) else (ck (gi x1 8) (if hold = 2 then ((f_X4_hasPlace N size x2).bind fun r_2 => if (b2i r_2) = 0 then some (2, 0) else (ck (gi x2 100) (some (0, nums x2.toNatClampNeg)))) else some (2, 0)))
def ngW : List Cond := [.declares ⟨"java/lang/RuntimeException", "<init>", "(Ljava/lang/String;)V"⟩, .declares ⟨"java/lang/Exception", "<init>", "(Ljava/lang/String;)V"⟩, .declares ⟨"java/lang/Throwable", "<init>", "(Ljava/lang/String;)V"⟩, .castable "java/lang/IllegalArgumentException" "java/lang/IllegalArgumentException", .castable "java/lang/IllegalStateException" "java/lang/IllegalStateException", .castable "java/lang/UnsupportedOperationException" "java/lang/UnsupportedOperationException"]
/-- what a throw wants of the state: two statics of Throwable, and words that the tables alone decide -/
def thrS (A : Nat → Prop) (U : State) : Prop := (vx_Zq Bundle.tN "UNASSIGNED_STACK" Bundle.steD A U U.heap ∧ vx_Zq Bundle.tN "SUPPRESSED_SENTINEL" Bundle.listD A U U.heap) ∧ ∀ w, w ∈ ngW → va_Nw w U
theorem ngW_ot : ∀ w ∈ ngW, w.onTables = true := by decide
theorem ngW_use {args : Array Value} {U : State} (h : ∀ w, w ∈ ngW → va_Nw w U) : ∀ w ∈ ngW, w.before args U = true := fun w hw => va_Nw.use (ngW_ot w hw) (h w hw)
theorem ngW_cast {a b : String} {s U : State} (hW : s.WarmedH U.vm) (hZ : va_Nw (.castable a b) s) : va_Nw (.castable a b) U := va_tabs rfl (rfl : (s.setVm U.vm).vm = U.vm) (by rw [Cond.castable_setVm hW.alike]; exact hZ)
theorem ngW_warm {s U : State} (hW : s.WarmedH U.vm) (h : ∀ w, w ∈ ngW → va_Nw w s) : ∀ w, w ∈ ngW → va_Nw w U := by
  intro w hw
  have h0 := h w hw
  unfold ngW at hw
  simp only [List.mem_cons, List.not_mem_nil, or_false] at hw
  rcases hw with rfl | rfl | rfl | rfl | rfl | rfl
  · exact va_Nw.warmD hW h0
  · exact va_Nw.warmD hW h0
  · exact va_Nw.warmD hW h0
  · exact ngW_cast hW h0
  · exact ngW_cast hW h0
  · exact ngW_cast hW h0
def iae : String := "java/lang/IllegalArgumentException"
def ise : String := "java/lang/IllegalStateException"
def elX (D : va_G) (cI cZ cS : ClassId) (wc : va_W) (sz : Nat) (k : Nat) (E : String) (_ : Unit) (t : State) : Prop := ((k = 1 ∧ E = iae) ∨ (k = 2 ∧ E = ise)) ∧ qW D cI cZ cS (va_A wc sz) wc t
theorem vx_none1 : ∀ w ∈ (vx_atS RX7 250 "java/lang/IllegalArgumentException" ["java/lang/RuntimeException", "java/lang/Exception"]).filter (fun w => !goodWord w), w ∈ ngW := by decide +kernel
theorem vx_none2 : ∀ w ∈ (vx_atS RX7 257 "java/lang/IllegalStateException" ["java/lang/RuntimeException", "java/lang/Exception"]).filter (fun w => !goodWord w), w ∈ ngW := by decide +kernel
set_option maxHeartbeats 4000000 in
set_option maxRecDepth 100000 in
theorem k_X7_element (l : Launch) (hst : l.stackTraces = false) (dC : Nat → ClassId) (dI : Nat → Nat → Nat) (cI cZ cS : ClassId) (N : Nat) (aS aS_shelves aT aT_numbers aNow aKept aMind : Nat) (sz : Nat) (S_shelves : Nat → Option Nat) (S_isKept : Int32) (S_ways : Option Nat) (T_numbers : Nat → Int32) (T_holds : Int32) (T_laying : Option Nat) (T_sort : Int32) (T_size : Int32) (x1 : Int32) (x2 : Int32) (sa1 sa2 : Nat) (hd : gi x1 8 = true → S_shelves x1.toNatClampNeg = some aT) (res : Nat × Int32) (h : f_X7_element N T_numbers T_holds T_size x1 x2 = some res) : vx_Met l yX7_element wsX7_element ({ frames := 6, cells := 1, slots := 6, locals := 120 }) (va_Pc [.ref aS, .int x1, .int x2] (fun U => preW (dC, dI) cI cZ cS [(aS, .inr (6, [.ref aNow, .ref aKept, .ref aMind, .ref aS_shelves, .int S_isKept, va_rf S_ways])), (aS_shelves, .inl (cS, 8, .inr (.inr (.inr (.inr S_shelves))))), (aT, .inr (4, [.ref aT_numbers, .int T_holds, va_rf T_laying, .int T_sort, .int T_size])), (aT_numbers, .inl (cI, 100, .inl T_numbers))] sz U ∧ thrS (va_A [(aS, .inr (6, [.ref aNow, .ref aKept, .ref aMind, .ref aS_shelves, .int S_isKept, va_rf S_ways])), (aS_shelves, .inl (cS, 8, .inr (.inr (.inr (.inr S_shelves))))), (aT, .inr (4, [.ref aT_numbers, .int T_holds, va_rf T_laying, .int T_sort, .int T_size])), (aT_numbers, .inl (cI, 100, .inl T_numbers))] sz) U ∧ vk_R RX7 248 "no such shelf" sa1 U ∧ vk_R RX7 255 "no such element" sa2 U)) (va_Ql (fun (r : Int64) (_ : Unit) => res.1 = 0 ∧ r = res.2.toInt64) (fun _ => qW (dC, dI) cI cZ cS (va_A [(aS, .inr (6, [.ref aNow, .ref aKept, .ref aMind, .ref aS_shelves, .int S_isKept, va_rf S_ways])), (aS_shelves, .inl (cS, 8, .inr (.inr (.inr (.inr S_shelves))))), (aT, .inr (4, [.ref aT_numbers, .int T_holds, va_rf T_laying, .int T_sort, .int T_size])), (aT_numbers, .inl (cI, 100, .inl T_numbers))] sz) [(aS, .inr (6, [.ref aNow, .ref aKept, .ref aMind, .ref aS_shelves, .int S_isKept, va_rf S_ways])), (aS_shelves, .inl (cS, 8, .inr (.inr (.inr (.inr S_shelves))))), (aT, .inr (4, [.ref aT_numbers, .int T_holds, va_rf T_laying, .int T_sort, .int T_size])), (aT_numbers, .inl (cI, 100, .inl T_numbers))]) (va_A [(aS, .inr (6, [.ref aNow, .ref aKept, .ref aMind, .ref aS_shelves, .int S_isKept, va_rf S_ways])), (aS_shelves, .inl (cS, 8, .inr (.inr (.inr (.inr S_shelves))))), (aT, .inr (4, [.ref aT_numbers, .int T_holds, va_rf T_laying, .int T_sort, .int T_size])), (aT_numbers, .inl (cI, 100, .inl T_numbers))] sz)) (vx_X (fun _ : Unit => True) (elX (dC, dI) cI cZ cS [(aS, .inr (6, [.ref aNow, .ref aKept, .ref aMind, .ref aS_shelves, .int S_isKept, va_rf S_ways])), (aS_shelves, .inl (cS, 8, .inr (.inr (.inr (.inr S_shelves))))), (aT, .inr (4, [.ref aT_numbers, .int T_holds, va_rf T_laying, .int T_sort, .int T_size])), (aT_numbers, .inl (cI, 100, .inl T_numbers))] sz res.1) (va_A [(aS, .inr (6, [.ref aNow, .ref aKept, .ref aMind, .ref aS_shelves, .int S_isKept, va_rf S_ways])), (aS_shelves, .inl (cS, 8, .inr (.inr (.inr (.inr S_shelves))))), (aT, .inr (4, [.ref aT_numbers, .int T_holds, va_rf T_laying, .int T_sort, .int T_size])), (aT_numbers, .inl (cI, 100, .inl T_numbers))] sz)) 1 6 (va_A [(aS, .inr (6, [.ref aNow, .ref aKept, .ref aMind, .ref aS_shelves, .int S_isKept, va_rf S_ways])), (aS_shelves, .inl (cS, 8, .inr (.inr (.inr (.inr S_shelves))))), (aT, .inr (4, [.ref aT_numbers, .int T_holds, va_rf T_laying, .int T_sort, .int T_size])), (aT_numbers, .inl (cI, 100, .inl T_numbers))] sz) := by
  refine vx_ofW (cc := cX7_element) (maxL := 4) (ret := (some .long)) (by decide) rfl ?_
  intro p e s m args below meth c s₁ B hml htab hv
  obtain ⟨rfl, ⟨hsz, hP, hK, hD0⟩, ⟨⟨hU, hN⟩, hNG⟩, hk1, hk2⟩ := hv
  have hx := B.exec
  have hb := B.bytes
  have hr := B.returns
  have hts := atoms_spec (ws := wsX7_element) B.pre
  have hown : s.vm.findClass RX7 = some m.cls := findClass_of_methodNamed B.named
  have hlocks := B.notSynchronized
  subst hsz
  have hD := hD0.self (sz := s.heap.size)
  unfold elX
  generalize hAe : va_A [(aS, .inr (6, [.ref aNow, .ref aKept, .ref aMind, .ref aS_shelves, .int S_isKept, va_rf S_ways])), (aS_shelves, .inl (cS, 8, .inr (.inr (.inr (.inr S_shelves))))), (aT, .inr (4, [.ref aT_numbers, .int T_holds, va_rf T_laying, .int T_sort, .int T_size])), (aT_numbers, .inl (cI, 100, .inl T_numbers))] s.heap.size = A at hD hU hN ⊢
  have hA : ∀ q : Nat, s.heap.size ≤ q → A q := fun q h => by rw [← hAe]; exact Or.inr h
  have hS : va_S A s.heap s.heap [] := va_S.rf
  have hl := lv_entry ([.ref aS, .int x1, .int x2]) (n := 4) (Nat.le_of_ble_eq_true rfl)
  rw [lg_entry_eq]
  generalize (lg_sl ([.ref aS, .int x1, .int x2]) ++ List.replicate (4 - (lg_sl ([.ref aS, .int x1, .int x2])).length) Slot.unset).toArray = ls at hl ⊢
  have hl : lv_has ls 4 [(0, .ref aS), (1, .int x1), (2, .int x2)] := hl
  unfold f_X7_element at h
  refine lv_aload_n hx hb dX7_element_0 rfl (lv_at hl 0 rfl) ?_
  refine lv_iload_n hx hb dX7_element_1 rfl (lv_at hl 1 rfl) ?_
  obtain ⟨r_1, hg, h⟩ := bd_some h
  refine rdV (As := [.int x1]) (rest := []) (ci := 6) ⟨hx, hb, hml, hown, hts⟩ (k_X7_isShelf l dC dI cI cZ cS N aS aNow aKept aMind aS_shelves S_isKept S_ways x1 r_1 hg) (cwV 1 hts gX7_element_X7_isShelf rfl rfl rfl cd_X7_isShelf ⟨Nat.le_of_ble_eq_true rfl, Nat.le_of_ble_eq_true rfl⟩) hP hD hK [0] (by decide) rfl rfl rfl rfl hl.1 rfl (Nat.le_of_ble_eq_true rfl) dX7_element_2 ⟨Nat.zero_le _, Nat.zero_le _⟩ ?_
  refine lv_if_ne (tgt := 18) hx hb dX7_element_5 (by decide) (fun c_2 => ?_) (fun c_2 => ?_)
  · have h := it_n c_2 h
    refine lv_aload_n hx hb dX7_element_18 rfl (lv_at hl 0 rfl) ?_
    refine va_get (D := (dC, dI)) (ci := 6) (v := .ref aS_shelves) (C := RX7) (T := TX7) (N := 6) hx hb hts (fun _ h => List.mem_cons_of_mem _ (List.mem_append_left _ (List.mem_append_left _ (List.mem_append_left _ (List.mem_append_right _ h))))) hown hK hP 0 rfl rfl 3 (by decide) (hts (.fieldLink RX7 24 "SlateRows" "shelves" "[LSlateRows$Shelf;") (by decide +kernel)) (fun _ h9 => h9) rfl dX7_element_19 ?_
    refine lv_iload_n hx hb dX7_element_22 rfl (lv_at hl 1 rfl) ?_
    obtain ⟨hi, h⟩ := ck_some h
    refine va_aldq hx hb hK hP 1 2 rfl rfl (gi_in hi) dX7_element_23 ?_
    rw [hd hi]
    show W _ _ _ _ _ _ _ _ _ _ _ _ _ _ _ (F0 _ _ _ [.ref aT])
    refine lv_astore_n (lv' := [(3, .ref aT), (0, .ref aS), (1, .int x1), (2, .int x2)]) hx hb dX7_element_24 rfl hl (by decide) rfl (fun ls hl => ?_)
    refine lv_aload_n hx hb dX7_element_25 rfl (lv_at hl 0 rfl) ?_
    refine va_get (D := (dC, dI)) (ci := 4) (v := .int T_holds) (C := RX4) (T := TX4) (N := 5) hx hb hts (fun _ h => List.mem_cons_of_mem _ (List.mem_append_left _ (List.mem_append_left _ (List.mem_append_right _ h)))) hown hK hP 2 rfl rfl 1 (by decide) (hts (.fieldLink RX7 41 "SlateRows$Shelf" "holds" "I") (by decide +kernel)) (fun _ h9 => h9) rfl dX7_element_26 ?_
    refine lv_iconst (v := 2) hx hb dX7_element_29 (by decide) ?_
    refine lv_icmp_ne (tgt := 41) hx hb dX7_element_30 (by decide) (fun c_3 => ?_) (fun c_3 => ?_)
    · have h := it_n c_3 h
      have h := Option.some.inj h
      refine vx_throwS hx hb hst (own := RX7) (cls := "java/lang/IllegalStateException") (text := "no such element") (names := ["java/lang/RuntimeException", "java/lang/Exception"]) (ik := 253) (is := 255) (ic := 257) (A := A) hown (by decide +kernel) (by decide +kernel) (hts (.classLink RX7 253 "java/lang/IllegalStateException") (by decide +kernel)) (hts (.initialized "java/lang/IllegalStateException") (by decide +kernel)) hk2 (vx_hat (fun w hw => hts w (List.mem_cons_of_mem _ (List.mem_append_right _ hw))) vx_none2 (ngW_use hNG)) (by decide +kernel) hU hN hS (by rw [hml]; exact hl.1) dX7_element_41 dX7_element_44 dX7_element_45 dX7_element_47 dX7_element_50 (fun x hx => (htab x hx).elim) (by decide) (by decide) (by decide) (by decide) hlocks (fun t hvm hz hkp => ⟨(), trivial, ⟨Or.inr ⟨by rw [← h], rfl⟩, ⟨pP_mem.mpr fun q hq => pAt_kept (pP_mem.mp hP q hq) (hkp q.1 (pAt_lt (pP_mem.mp hP q hq))), va_K.moved hvm hK, hD⟩⟩, hz, fun q h1 _ => hkp q h1⟩) (fun z hz => by cases hz) (Nat.le_refl _) (Nat.le_refl _)
    · have h := it_p c_3 h
      refine lv_aload_n hx hb dX7_element_33 rfl (lv_at hl 0 rfl) ?_
      refine lv_iload_n hx hb dX7_element_34 rfl (lv_at hl 3 rfl) ?_
      obtain ⟨r_5, hg, h⟩ := bd_some h
      refine rdV (As := [.int x2]) (rest := []) (ci := 4) ⟨hx, hb, hml, hown, hts⟩ (k_X4_hasPlace l dC dI cI cZ cS N aT aT_numbers T_numbers T_holds T_laying T_sort T_size x2 r_5 hg) (cwV 1 hts gX7_element_X4_hasPlace rfl rfl rfl cd_X4_hasPlace ⟨Nat.le_of_ble_eq_true rfl, Nat.le_of_ble_eq_true rfl⟩) hP hD hK [2, 3] (by decide) rfl rfl rfl rfl hl.1 rfl (Nat.le_of_ble_eq_true rfl) dX7_element_35 ⟨Nat.zero_le _, Nat.zero_le _⟩ ?_
      refine lv_if_ne (tgt := 51) hx hb dX7_element_38 (by decide) (fun c_6 => ?_) (fun c_6 => ?_)
      · have h := it_n c_6 h
        refine lv_aload_n hx hb dX7_element_51 rfl (lv_at hl 0 rfl) ?_
        refine va_get (D := (dC, dI)) (ci := 4) (v := .ref aT_numbers) (C := RX4) (T := TX4) (N := 5) hx hb hts (fun _ h => List.mem_cons_of_mem _ (List.mem_append_left _ (List.mem_append_left _ (List.mem_append_right _ h)))) hown hK hP 2 rfl rfl 0 (by decide) (hts (.fieldLink RX7 108 "SlateRows$Shelf" "numbers" "[I") (by decide +kernel)) (fun _ h9 => h9) rfl dX7_element_52 ?_
        refine lv_iload_n hx hb dX7_element_55 rfl (lv_at hl 3 rfl) ?_
        obtain ⟨hi, h⟩ := ck_some h
        refine va_iald hx hb hK hP 3 0 rfl rfl (gi_in hi) dX7_element_56 ?_
        refine lv_i2l hx hb dX7_element_57 rfl ?_
        have h := Option.some.inj h
        refine W.widen (k := 1) (n := 6) (by omega) (by omega) ?_
        exact vx_ret (W.lret hx hb hr (fun t ht hW => ⟨⟨_, (), rfl, ⟨by rw [← h], by rw [← h]⟩, by rw [ht]; exact hP, va_K.moved hW.alike hK, hD⟩, hS.F ht⟩) hS.2.2 dX7_element_58)
      · have h := it_p c_6 h
        have h := Option.some.inj h
        refine vx_throwS hx hb hst (own := RX7) (cls := "java/lang/IllegalStateException") (text := "no such element") (names := ["java/lang/RuntimeException", "java/lang/Exception"]) (ik := 253) (is := 255) (ic := 257) (A := A) hown (by decide +kernel) (by decide +kernel) (hts (.classLink RX7 253 "java/lang/IllegalStateException") (by decide +kernel)) (hts (.initialized "java/lang/IllegalStateException") (by decide +kernel)) hk2 (vx_hat (fun w hw => hts w (List.mem_cons_of_mem _ (List.mem_append_right _ hw))) vx_none2 (ngW_use hNG)) (by decide +kernel) hU hN hS (by rw [hml]; exact hl.1) dX7_element_41 dX7_element_44 dX7_element_45 dX7_element_47 dX7_element_50 (fun x hx => (htab x hx).elim) (by decide) (by decide) (by decide) (by decide) hlocks (fun t hvm hz hkp => ⟨(), trivial, ⟨Or.inr ⟨by rw [← h], rfl⟩, ⟨pP_mem.mpr fun q hq => pAt_kept (pP_mem.mp hP q hq) (hkp q.1 (pAt_lt (pP_mem.mp hP q hq))), va_K.moved hvm hK, hD⟩⟩, hz, fun q h1 _ => hkp q h1⟩) (fun z hz => by cases hz) (Nat.le_refl _) (Nat.le_refl _)
  · have h := it_p c_2 h
    have h := Option.some.inj h
    refine vx_throwS hx hb hst (own := RX7) (cls := "java/lang/IllegalArgumentException") (text := "no such shelf") (names := ["java/lang/RuntimeException", "java/lang/Exception"]) (ik := 246) (is := 248) (ic := 250) (A := A) hown (by decide +kernel) (by decide +kernel) (hts (.classLink RX7 246 "java/lang/IllegalArgumentException") (by decide +kernel)) (hts (.initialized "java/lang/IllegalArgumentException") (by decide +kernel)) hk1 (vx_hat (fun w hw => hts w (List.mem_cons_of_mem _ (List.mem_append_left _ (List.mem_append_right _ hw)))) vx_none1 (ngW_use hNG)) (by decide +kernel) hU hN hS (by rw [hml]; exact hl.1) dX7_element_8 dX7_element_11 dX7_element_12 dX7_element_14 dX7_element_17 (fun x hx => (htab x hx).elim) (by decide) (by decide) (by decide) (by decide) hlocks (fun t hvm hz hkp => ⟨(), trivial, ⟨Or.inl ⟨by rw [← h], rfl⟩, ⟨pP_mem.mpr fun q hq => pAt_kept (pP_mem.mp hP q hq) (hkp q.1 (pAt_lt (pP_mem.mp hP q hq))), va_K.moved hvm hK, hD⟩⟩, hz, fun q h1 _ => hkp q h1⟩) (fun z hz => by cases hz) (Nat.le_refl _) (Nat.le_refl _)
