/-! ===== fail: it returns or throws one of three ===== -/
def f_X1_fail (N : Nat) (kind fig : Int32) : Option Nat := if fig = 0 then some 0 else (if kind = 4 then some 0 else (if kind = 6 then some 1 else ((f_X1_isHanded N kind).bind fun r_1 => if (b2i r_1) = 0 then some 3 else some 2)))
def uoe : String := "java/lang/UnsupportedOperationException"
def flX (D : va_G) (cI cZ cS : ClassId) (wc : va_W) (sz : Nat) (k : Nat) (E : String) (_ : Unit) (t : State) : Prop := ((k = 1 ∧ E = uoe) ∨ (k = 2 ∧ E = iae) ∨ (k = 3 ∧ E = ise)) ∧ qW D cI cZ cS (va_A wc sz) wc t
theorem vx_none3 : ∀ w ∈ (vx_atS RX1 28 "java/lang/UnsupportedOperationException" ["java/lang/RuntimeException", "java/lang/Exception"]).filter (fun w => !goodWord w), w ∈ ngW := by decide +kernel
theorem vx_none4 : ∀ w ∈ (vx_atS RX1 39 "java/lang/IllegalArgumentException" ["java/lang/RuntimeException", "java/lang/Exception"]).filter (fun w => !goodWord w), w ∈ ngW := by decide +kernel
theorem vx_none5 : ∀ w ∈ (vx_atS RX1 44 "java/lang/IllegalStateException" ["java/lang/RuntimeException", "java/lang/Exception"]).filter (fun w => !goodWord w), w ∈ ngW := by decide +kernel
set_option maxHeartbeats 4000000 in
set_option maxRecDepth 100000 in
theorem k_X1_fail (l : Launch) (hst : l.stackTraces = false) (dC : Nat → ClassId) (dI : Nat → Nat → Nat) (cI cZ cS : ClassId) (N : Nat) (aY : Nat) (sz : Nat) (Y_kind Y_figure : Int32) (sa1 sa2 sa3 : Nat) (res : Nat) (h : f_X1_fail N Y_kind Y_figure = some res) : vx_Met l yX1_fail wsX1_fail ({ frames := 6, cells := 1, slots := 6, locals := 120 }) (va_Pc [.ref aY] (fun U => preW (dC, dI) cI cZ cS [(aY, .inr (1, [.int Y_kind, .int Y_figure]))] sz U ∧ thrS (va_A [(aY, .inr (1, [.int Y_kind, .int Y_figure]))] sz) U ∧ vk_R RX1 26 "told" sa1 U ∧ vk_R RX1 37 "handed" sa2 U ∧ vk_R RX1 42 "laying" sa3 U)) (va_Qv (fun _ : Unit => res = 0) (fun _ => qW (dC, dI) cI cZ cS (va_A [(aY, .inr (1, [.int Y_kind, .int Y_figure]))] sz) [(aY, .inr (1, [.int Y_kind, .int Y_figure]))]) (va_A [(aY, .inr (1, [.int Y_kind, .int Y_figure]))] sz)) (vx_X (fun _ : Unit => True) (flX (dC, dI) cI cZ cS [(aY, .inr (1, [.int Y_kind, .int Y_figure]))] sz res) (va_A [(aY, .inr (1, [.int Y_kind, .int Y_figure]))] sz)) 1 6 (va_A [(aY, .inr (1, [.int Y_kind, .int Y_figure]))] sz) := by
  refine vx_ofW (cc := cX1_fail) (maxL := 1) (ret := none) (by decide) rfl ?_
  intro p e s m args below meth c s₁ B hml htab hv
  obtain ⟨rfl, ⟨hsz, hP, hK, hD0⟩, ⟨⟨hU, hN⟩, hNG⟩, hk1, hk2, hk3⟩ := hv
  have hx := B.exec
  have hb := B.bytes
  have hr := B.returns
  have hts := atoms_spec (ws := wsX1_fail) B.pre
  have hown : s.vm.findClass RX1 = some m.cls := findClass_of_methodNamed B.named
  have hlocks := B.notSynchronized
  subst hsz
  have hD := hD0.self (sz := s.heap.size)
  unfold flX
  generalize hAe : va_A [(aY, .inr (1, [.int Y_kind, .int Y_figure]))] s.heap.size = A at hD hU hN ⊢
  have hA : ∀ q : Nat, s.heap.size ≤ q → A q := fun q h => by rw [← hAe]; exact Or.inr h
  have hS : va_S A s.heap s.heap [] := va_S.rf
  have hl := lv_entry ([.ref aY]) (n := 1) (Nat.le_of_ble_eq_true rfl)
  rw [lg_entry_eq]
  generalize (lg_sl ([.ref aY]) ++ List.replicate (1 - (lg_sl ([.ref aY])).length) Slot.unset).toArray = ls at hl ⊢
  have hl : lv_has ls 1 [(0, .ref aY)] := hl
  unfold f_X1_fail at h
  refine lv_aload_n hx hb dX1_fail_0 rfl (lv_at hl 0 rfl) ?_
  refine va_get (D := (dC, dI)) (ci := 1) (v := .int Y_figure) (C := RX1) (T := TX1) (N := 2) hx hb hts (fun _ h => List.mem_cons_of_mem _ (List.mem_append_left _ (List.mem_append_left _ (List.mem_append_left _ (List.mem_append_right _ h))))) hown hK hP 0 rfl rfl 1 (by decide) (hts (.fieldLink RX1 15 "SlateRows$Laying" "figure" "I") (by decide +kernel)) (fun _ h9 => h9) rfl dX1_fail_1 ?_
  refine lv_if_eq (tgt := 15) hx hb dX1_fail_4 (by decide) (fun c_1 => ?_) (fun c_1 => ?_)
  · have h := it_p c_1 h
    have h := Option.some.inj h
    refine W.widen (k := 1) (n := 6) (by omega) (by omega) ?_
    exact vx_ret (W.vret hx hb hr (fun t ht hW => ⟨⟨(), rfl, h.symm, by rw [ht]; exact hP, va_K.moved hW.alike hK, hD⟩, hS.F ht⟩) hS.2.2 dX1_fail_15)
  · have h := it_n c_1 h
    refine lv_aload_n hx hb dX1_fail_7 rfl (lv_at hl 0 rfl) ?_
    refine va_get (D := (dC, dI)) (ci := 1) (v := .int Y_kind) (C := RX1) (T := TX1) (N := 2) hx hb hts (fun _ h => List.mem_cons_of_mem _ (List.mem_append_left _ (List.mem_append_left _ (List.mem_append_left _ (List.mem_append_right _ h))))) hown hK hP 0 rfl rfl 0 (by decide) (hts (.fieldLink RX1 9 "SlateRows$Laying" "kind" "I") (by decide +kernel)) (fun _ h9 => h9) rfl dX1_fail_8 ?_
    refine lv_iconst (v := 4) hx hb dX1_fail_11 (by decide) ?_
    refine lv_icmp_ne (tgt := 16) hx hb dX1_fail_12 (by decide) (fun c_2 => ?_) (fun c_2 => ?_)
    · have h := it_n c_2 h
      refine lv_aload_n hx hb dX1_fail_16 rfl (lv_at hl 0 rfl) ?_
      refine va_get (D := (dC, dI)) (ci := 1) (v := .int Y_kind) (C := RX1) (T := TX1) (N := 2) hx hb hts (fun _ h => List.mem_cons_of_mem _ (List.mem_append_left _ (List.mem_append_left _ (List.mem_append_left _ (List.mem_append_right _ h))))) hown hK hP 0 rfl rfl 0 (by decide) (hts (.fieldLink RX1 9 "SlateRows$Laying" "kind" "I") (by decide +kernel)) (fun _ h9 => h9) rfl dX1_fail_17 ?_
      refine lv_bipush (v := 6) hx hb dX1_fail_20 (by decide) ?_
      refine lv_icmp_ne (tgt := 35) hx hb dX1_fail_22 (by decide) (fun c_3 => ?_) (fun c_3 => ?_)
      · have h := it_n c_3 h
        refine lv_aload_n hx hb dX1_fail_35 rfl (lv_at hl 0 rfl) ?_
        obtain ⟨r_1, hg, h⟩ := bd_some h
        refine rdV (As := []) (rest := []) (ci := 1) ⟨hx, hb, hml, hown, hts⟩ (k_X1_isHanded l dC dI cI cZ cS N aY Y_kind Y_figure r_1 hg) (cwV 0 hts gX1_fail_X1_isHanded rfl rfl rfl cd_X1_isHanded ⟨Nat.le_of_ble_eq_true rfl, Nat.le_of_ble_eq_true rfl⟩) hP hD hK [0] (by decide) rfl rfl rfl rfl hl.1 rfl (Nat.le_of_ble_eq_true rfl) dX1_fail_36 ⟨Nat.zero_le _, Nat.zero_le _⟩ ?_
        refine lv_if_eq (tgt := 52) hx hb dX1_fail_39 (by decide) (fun c_4 => ?_) (fun c_4 => ?_)
        · have h := it_p c_4 h
          have h := Option.some.inj h
          refine vx_throwS hx hb hst (own := RX1) (cls := "java/lang/IllegalStateException") (text := "laying") (names := ["java/lang/RuntimeException", "java/lang/Exception"]) (ik := 40) (is := 42) (ic := 44) (A := A) hown (by decide +kernel) (by decide +kernel) (hts (.classLink RX1 40 "java/lang/IllegalStateException") (by decide +kernel)) (hts (.initialized "java/lang/IllegalStateException") (by decide +kernel)) hk3 (vx_hat (fun w hw => hts w (List.mem_cons_of_mem _ (List.mem_append_right _ hw))) vx_none5 (ngW_use hNG)) (by decide +kernel) hU hN hS (by rw [hml]; exact hl.1) dX1_fail_52 dX1_fail_55 dX1_fail_56 dX1_fail_58 dX1_fail_61 (fun x hx => (htab x hx).elim) (by decide) (by decide) (by decide) (by decide) hlocks (fun t hvm hz hkp => ⟨(), trivial, ⟨Or.inr (Or.inr ⟨h.symm, rfl⟩), ⟨pP_mem.mpr fun q hq => pAt_kept (pP_mem.mp hP q hq) (hkp q.1 (pAt_lt (pP_mem.mp hP q hq))), va_K.moved hvm hK, hD⟩⟩, hz, fun q h1 _ => hkp q h1⟩) (fun z hz => by cases hz) (Nat.le_refl _) (Nat.le_refl _)
        · have h := it_n c_4 h
          have h := Option.some.inj h
          refine vx_throwS hx hb hst (own := RX1) (cls := "java/lang/IllegalArgumentException") (text := "handed") (names := ["java/lang/RuntimeException", "java/lang/Exception"]) (ik := 35) (is := 37) (ic := 39) (A := A) hown (by decide +kernel) (by decide +kernel) (hts (.classLink RX1 35 "java/lang/IllegalArgumentException") (by decide +kernel)) (hts (.initialized "java/lang/IllegalArgumentException") (by decide +kernel)) hk2 (vx_hat (fun w hw => hts w (List.mem_cons_of_mem _ (List.mem_append_left _ (List.mem_append_right _ hw)))) vx_none4 (ngW_use hNG)) (by decide +kernel) hU hN hS (by rw [hml]; exact hl.1) dX1_fail_42 dX1_fail_45 dX1_fail_46 dX1_fail_48 dX1_fail_51 (fun x hx => (htab x hx).elim) (by decide) (by decide) (by decide) (by decide) hlocks (fun t hvm hz hkp => ⟨(), trivial, ⟨Or.inr (Or.inl ⟨h.symm, rfl⟩), ⟨pP_mem.mpr fun q hq => pAt_kept (pP_mem.mp hP q hq) (hkp q.1 (pAt_lt (pP_mem.mp hP q hq))), va_K.moved hvm hK, hD⟩⟩, hz, fun q h1 _ => hkp q h1⟩) (fun z hz => by cases hz) (Nat.le_refl _) (Nat.le_refl _)
      · have h := it_p c_3 h
        have h := Option.some.inj h
        refine vx_throwS hx hb hst (own := RX1) (cls := "java/lang/UnsupportedOperationException") (text := "told") (names := ["java/lang/RuntimeException", "java/lang/Exception"]) (ik := 24) (is := 26) (ic := 28) (A := A) hown (by decide +kernel) (by decide +kernel) (hts (.classLink RX1 24 "java/lang/UnsupportedOperationException") (by decide +kernel)) (hts (.initialized "java/lang/UnsupportedOperationException") (by decide +kernel)) hk1 (vx_hat (fun w hw => hts w (List.mem_cons_of_mem _ (List.mem_append_left _ (List.mem_append_left _ (List.mem_append_right _ hw))))) vx_none3 (ngW_use hNG)) (by decide +kernel) hU hN hS (by rw [hml]; exact hl.1) dX1_fail_25 dX1_fail_28 dX1_fail_29 dX1_fail_31 dX1_fail_34 (fun x hx => (htab x hx).elim) (by decide) (by decide) (by decide) (by decide) hlocks (fun t hvm hz hkp => ⟨(), trivial, ⟨Or.inl ⟨h.symm, rfl⟩, ⟨pP_mem.mpr fun q hq => pAt_kept (pP_mem.mp hP q hq) (hkp q.1 (pAt_lt (pP_mem.mp hP q hq))), va_K.moved hvm hK, hD⟩⟩, hz, fun q h1 _ => hkp q h1⟩) (fun z hz => by cases hz) (Nat.le_refl _) (Nat.le_refl _)
    · have h := it_p c_2 h
      have h := Option.some.inj h
      refine W.widen (k := 1) (n := 6) (by omega) (by omega) ?_
      exact vx_ret (W.vret hx hb hr (fun t ht hW => ⟨⟨(), rfl, h.symm, by rw [ht]; exact hP, va_K.moved hW.alike hK, hD⟩, hS.F ht⟩) hS.2.2 dX1_fail_15)
