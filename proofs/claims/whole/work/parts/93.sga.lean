
def f_X7_fills_R (N : Nat) (Rn_laid : Nat → Int32) (Rn_rows : Int32) (x1 : Int32) : Option (Int32) :=
  (f_X7_refusalOfOpen N Rn_laid Rn_rows x1 1).bind fun r_1 => if r_1 = 0 then none else (some (r_1))
set_option maxHeartbeats 4000000 in
set_option maxRecDepth 100000 in
theorem k_X7_fills_R (l : Launch) (dC : Nat → ClassId) (dI : Nat → Nat → Nat) (cI cZ cS : ClassId) (N : Nat) (aS aRn aRn_inches aRn_many aRn_worth aRn_lengths aRn_laid aRn_slates aKept aMind aShv : Nat) (S_isKept : Int32) (S_ways : Option Nat) (Rn_inches : Nat → Int32) (Rn_many : Nat → Int32) (Rn_worth : Nat → Int32) (Rn_lengths : Nat → Int32) (Rn_laid : Nat → Int32) (Rn_slates : Nat → Int32) (Rn_widths : Int32) (Rn_rows : Int32) (Rn_lap : Int32) (x1 : Int32) (res : Int32) (h : f_X7_fills_R N Rn_laid Rn_rows x1 = some res) : Met l yX7_fills wsX7_fills ({ frames := 2, cells := 0, slots := 0, locals := 43 }) (va_Pc [.ref aS, .int x1] (wd (dC, dI) cI cZ cS [(aS, .inr (6, [.ref aRn, .ref aKept, .ref aMind, .ref aShv, .int S_isKept, va_rf S_ways])), (aRn, .inr (3, [.ref aRn_inches, .ref aRn_many, .ref aRn_worth, .ref aRn_lengths, .ref aRn_laid, .ref aRn_slates, .int Rn_widths, .int Rn_rows, .int Rn_lap])), (aRn_inches, .inl (cI, 4, .inl Rn_inches)), (aRn_many, .inl (cI, 4, .inl Rn_many)), (aRn_worth, .inl (cI, 4, .inl Rn_worth)), (aRn_lengths, .inl (cI, 6, .inl Rn_lengths)), (aRn_laid, .inl (cI, 6, .inl Rn_laid)), (aRn_slates, .inl (cI, 72, .inl Rn_slates))])) (vp_Si (fun r => r = res)) 0 0 (fun _ => False) := by
  refine Met.ofW (cc := cX7_fills) (maxL := 3) (ret := (some .int)) (by decide) rfl ?_
  intro p e s m args below meth c s₁ B hml hv
  obtain ⟨rfl, hP, hK, hD⟩ := hv
  have hx := B.exec
  have hb := B.bytes
  have hr := B.returns
  have hts := atoms_spec (ws := wsX7_fills) B.pre
  have hown : s.vm.findClass RX7 = some m.cls := findClass_of_methodNamed B.named
  have hlocks := B.notSynchronized
  have hl := lv_entry ([.ref aS, .int x1]) (n := 3) (Nat.le_of_ble_eq_true rfl)
  rw [lg_entry_eq]
  generalize (lg_sl ([.ref aS, .int x1]) ++ List.replicate (3 - (lg_sl ([.ref aS, .int x1])).length) Slot.unset).toArray = ls at hl ⊢
  have hl : lv_has ls 3 [(0, .ref aS), (1, .int x1)] := hl
  unfold f_X7_fills_R at h
  refine lv_aload_n hx hb dX7_fills_0 rfl (lv_at hl 0 rfl) ?_
  refine lv_iload_n hx hb dX7_fills_1 rfl (lv_at hl 1 rfl) ?_
  refine lv_iconst (v := 1) hx hb dX7_fills_2 (by decide) ?_
  obtain ⟨r_1, hg, h⟩ := bd_some h
  refine rdV (As := [.int x1, .int 1]) (rest := []) (ci := 6) ⟨hx, hb, hml, hown, hts⟩ (k_X7_refusalOfOpen l dC dI cI cZ cS N aS aRn aRn_inches aRn_many aRn_worth aRn_lengths aRn_laid aRn_slates aKept aMind aShv S_isKept S_ways Rn_inches Rn_many Rn_worth Rn_lengths Rn_laid Rn_slates Rn_widths Rn_rows Rn_lap x1 1 r_1 hg) (cwV 2 hts gX7_fills_X7_refusalOfOpen rfl rfl rfl cd_X7_refusalOfOpen ⟨Nat.le_of_ble_eq_true rfl, Nat.le_of_ble_eq_true rfl⟩) hP hD hK [0, 1, 2, 3, 4, 5, 6, 7] (by decide) rfl rfl rfl rfl hl.1 rfl (Nat.le_of_ble_eq_true rfl) dX7_fills_3 ⟨Nat.zero_le _, Nat.zero_le _⟩ ?_
  refine lv_istore_n (lv' := [(2, .int r_1), (0, .ref aS), (1, .int x1)]) hx hb dX7_fills_6 rfl hl (by decide) rfl (fun ls hl => ?_)
  refine lv_iload_n hx hb dX7_fills_7 rfl (lv_at hl 0 rfl) ?_
  refine lv_if_ne (tgt := 26) hx hb dX7_fills_8 (by decide) (fun c_2 => ?_) (fun c_2 => ?_)
  · have h := it_n c_2 h
    refine lv_iload_n hx hb dX7_fills_26 rfl (lv_at hl 0 rfl) ?_
    exact W.iret hx hb hr (fun t ht hW => ⟨_, rfl, Option.some.inj h, ht⟩) (fun q hq => by cases hq) dX7_fills_27
  · have h := it_p c_2 h
    refine lv_aload_n hx hb dX7_fills_11 rfl (lv_at hl 1 rfl) ?_
    refine lv_aload_n hx hb dX7_fills_12 rfl (lv_at hl 1 rfl) ?_
    refine va_get (D := (dC, dI)) (ci := 6) (v := .ref aRn) (C := RX7) (T := TX7) (N := 6) hx hb hts (fun _ h => List.mem_cons_of_mem _ (List.mem_append_left _ (List.mem_append_left _ (List.mem_append_right _ h)))) hown hK hP 0 rfl rfl 0 (by decide) (hts (.fieldLink RX7 10 "SlateRows" "now" "LSlateRows$Roof;") (by decide +kernel)) (fun _ h9 => h9) rfl dX7_fills_13 ?_
    refine lv_iload_n hx hb dX7_fills_16 rfl (lv_at hl 2 rfl) ?_
    cases h
def f_X7_first_R (N : Nat) (Rn_laid : Nat → Int32) (Rn_rows : Int32) (x1 : Int32) (x2 : Int32) : Option (Int32) :=
  if x2 < 0 then ((f_X7_refusalOfOpen N Rn_laid Rn_rows x1 0).bind fun r_2 => if r_2 = 0 then none else (some (r_2))) else ((f_X7_refusalOfOpen N Rn_laid Rn_rows x1 1).bind fun r_4 => if r_4 = 0 then none else (some (r_4)))
set_option maxHeartbeats 4000000 in
set_option maxRecDepth 100000 in
theorem k_X7_first_R (l : Launch) (dC : Nat → ClassId) (dI : Nat → Nat → Nat) (cI cZ cS : ClassId) (N : Nat) (aS aRn aRn_inches aRn_many aRn_worth aRn_lengths aRn_laid aRn_slates aKept aMind aShv : Nat) (S_isKept : Int32) (S_ways : Option Nat) (Rn_inches : Nat → Int32) (Rn_many : Nat → Int32) (Rn_worth : Nat → Int32) (Rn_lengths : Nat → Int32) (Rn_laid : Nat → Int32) (Rn_slates : Nat → Int32) (Rn_widths : Int32) (Rn_rows : Int32) (Rn_lap : Int32) (x1 : Int32) (x2 : Int32) (res : Int32) (h : f_X7_first_R N Rn_laid Rn_rows x1 x2 = some res) : Met l yX7_first wsX7_first ({ frames := 2, cells := 0, slots := 0, locals := 43 }) (va_Pc [.ref aS, .int x1, .int x2] (wd (dC, dI) cI cZ cS [(aS, .inr (6, [.ref aRn, .ref aKept, .ref aMind, .ref aShv, .int S_isKept, va_rf S_ways])), (aRn, .inr (3, [.ref aRn_inches, .ref aRn_many, .ref aRn_worth, .ref aRn_lengths, .ref aRn_laid, .ref aRn_slates, .int Rn_widths, .int Rn_rows, .int Rn_lap])), (aRn_inches, .inl (cI, 4, .inl Rn_inches)), (aRn_many, .inl (cI, 4, .inl Rn_many)), (aRn_worth, .inl (cI, 4, .inl Rn_worth)), (aRn_lengths, .inl (cI, 6, .inl Rn_lengths)), (aRn_laid, .inl (cI, 6, .inl Rn_laid)), (aRn_slates, .inl (cI, 72, .inl Rn_slates))])) (vp_Si (fun r => r = res)) 0 0 (fun _ => False) := by
  refine Met.ofW (cc := cX7_first) (maxL := 5) (ret := (some .int)) (by decide) rfl ?_
  intro p e s m args below meth c s₁ B hml hv
  obtain ⟨rfl, hP, hK, hD⟩ := hv
  have hx := B.exec
  have hb := B.bytes
  have hr := B.returns
  have hts := atoms_spec (ws := wsX7_first) B.pre
  have hown : s.vm.findClass RX7 = some m.cls := findClass_of_methodNamed B.named
  have hlocks := B.notSynchronized
  have hl := lv_entry ([.ref aS, .int x1, .int x2]) (n := 5) (Nat.le_of_ble_eq_true rfl)
  rw [lg_entry_eq]
  generalize (lg_sl ([.ref aS, .int x1, .int x2]) ++ List.replicate (5 - (lg_sl ([.ref aS, .int x1, .int x2])).length) Slot.unset).toArray = ls at hl ⊢
  have hl : lv_has ls 5 [(0, .ref aS), (1, .int x1), (2, .int x2)] := hl
  unfold f_X7_first_R at h
  refine lv_aload_n hx hb dX7_first_0 rfl (lv_at hl 0 rfl) ?_
  refine lv_iload_n hx hb dX7_first_1 rfl (lv_at hl 1 rfl) ?_
  refine lv_iload_n hx hb dX7_first_2 rfl (lv_at hl 2 rfl) ?_
  refine lv_if_lt (tgt := 10) hx hb dX7_first_3 (by decide) (fun c_1 => ?_) (fun c_1 => ?_)
  · have h := it_p c_1 h
    refine lv_iconst (v := 0) hx hb dX7_first_10 (by decide) ?_
    obtain ⟨r_2, hg, h⟩ := bd_some h
    refine rdV (As := [.int x1, .int 0]) (rest := []) (ci := 6) ⟨hx, hb, hml, hown, hts⟩ (k_X7_refusalOfOpen l dC dI cI cZ cS N aS aRn aRn_inches aRn_many aRn_worth aRn_lengths aRn_laid aRn_slates aKept aMind aShv S_isKept S_ways Rn_inches Rn_many Rn_worth Rn_lengths Rn_laid Rn_slates Rn_widths Rn_rows Rn_lap x1 0 r_2 hg) (cwV 2 hts gX7_first_X7_refusalOfOpen rfl rfl rfl cd_X7_refusalOfOpen ⟨Nat.le_of_ble_eq_true rfl, Nat.le_of_ble_eq_true rfl⟩) hP hD hK [0, 1, 2, 3, 4, 5, 6, 7] (by decide) rfl rfl rfl rfl hl.1 rfl (Nat.le_of_ble_eq_true rfl) dX7_first_11 ⟨Nat.zero_le _, Nat.zero_le _⟩ ?_
    refine lv_istore_n (lv' := [(3, .int r_2), (0, .ref aS), (1, .int x1), (2, .int x2)]) hx hb dX7_first_14 rfl hl (by decide) rfl (fun ls hl => ?_)
    refine lv_iload_n hx hb dX7_first_15 rfl (lv_at hl 0 rfl) ?_
    refine lv_if_eq (tgt := 21) hx hb dX7_first_16 (by decide) (fun c_3 => ?_) (fun c_3 => ?_)
    · have h := it_p c_3 h
      refine lv_aload_n hx hb dX7_first_21 rfl (lv_at hl 1 rfl) ?_
      refine lv_aload_n hx hb dX7_first_22 rfl (lv_at hl 1 rfl) ?_
      refine va_get (D := (dC, dI)) (ci := 6) (v := .ref aRn) (C := RX7) (T := TX7) (N := 6) hx hb hts (fun _ h => List.mem_cons_of_mem _ (List.mem_append_left _ (List.mem_append_left _ (List.mem_append_right _ h)))) hown hK hP 0 rfl rfl 0 (by decide) (hts (.fieldLink RX7 10 "SlateRows" "now" "LSlateRows$Roof;") (by decide +kernel)) (fun _ h9 => h9) rfl dX7_first_23 ?_
      refine lv_iload_n hx hb dX7_first_26 rfl (lv_at hl 2 rfl) ?_
      cases h
    · have h := it_n c_3 h
      refine lv_iload_n hx hb dX7_first_19 rfl (lv_at hl 0 rfl) ?_
      exact W.iret hx hb hr (fun t ht hW => ⟨_, rfl, Option.some.inj h, ht⟩) (fun q hq => by cases hq) dX7_first_20
  · have h := it_n c_1 h
    refine lv_iconst (v := 1) hx hb dX7_first_6 (by decide) ?_
    refine lv_goto (tgt := 11) hx hb dX7_first_7 (by decide) ?_
    obtain ⟨r_4, hg, h⟩ := bd_some h
    refine rdV (As := [.int x1, .int 1]) (rest := []) (ci := 6) ⟨hx, hb, hml, hown, hts⟩ (k_X7_refusalOfOpen l dC dI cI cZ cS N aS aRn aRn_inches aRn_many aRn_worth aRn_lengths aRn_laid aRn_slates aKept aMind aShv S_isKept S_ways Rn_inches Rn_many Rn_worth Rn_lengths Rn_laid Rn_slates Rn_widths Rn_rows Rn_lap x1 1 r_4 hg) (cwV 2 hts gX7_first_X7_refusalOfOpen rfl rfl rfl cd_X7_refusalOfOpen ⟨Nat.le_of_ble_eq_true rfl, Nat.le_of_ble_eq_true rfl⟩) hP hD hK [0, 1, 2, 3, 4, 5, 6, 7] (by decide) rfl rfl rfl rfl hl.1 rfl (Nat.le_of_ble_eq_true rfl) dX7_first_11 ⟨Nat.zero_le _, Nat.zero_le _⟩ ?_
    refine lv_istore_n (lv' := [(3, .int r_4), (0, .ref aS), (1, .int x1), (2, .int x2)]) hx hb dX7_first_14 rfl hl (by decide) rfl (fun ls hl => ?_)
    refine lv_iload_n hx hb dX7_first_15 rfl (lv_at hl 0 rfl) ?_
    refine lv_if_eq (tgt := 21) hx hb dX7_first_16 (by decide) (fun c_5 => ?_) (fun c_5 => ?_)
    · have h := it_p c_5 h
      refine lv_aload_n hx hb dX7_first_21 rfl (lv_at hl 1 rfl) ?_
      refine lv_aload_n hx hb dX7_first_22 rfl (lv_at hl 1 rfl) ?_
      refine va_get (D := (dC, dI)) (ci := 6) (v := .ref aRn) (C := RX7) (T := TX7) (N := 6) hx hb hts (fun _ h => List.mem_cons_of_mem _ (List.mem_append_left _ (List.mem_append_left _ (List.mem_append_right _ h)))) hown hK hP 0 rfl rfl 0 (by decide) (hts (.fieldLink RX7 10 "SlateRows" "now" "LSlateRows$Roof;") (by decide +kernel)) (fun _ h9 => h9) rfl dX7_first_23 ?_
      refine lv_iload_n hx hb dX7_first_26 rfl (lv_at hl 2 rfl) ?_
      cases h
    · have h := it_n c_5 h
      refine lv_iload_n hx hb dX7_first_19 rfl (lv_at hl 0 rfl) ?_
      exact W.iret hx hb hr (fun t ht hW => ⟨_, rfl, Option.some.inj h, ht⟩) (fun q hq => by cases hq) dX7_first_20
def f_X7_best_R (N : Nat) (Rn_laid : Nat → Int32) (Rn_rows : Int32) (x1 : Int32) (x2 : Int32) : Option (Int32) :=
  if x2 < (-1) then ((f_X7_refusalOfOpen N Rn_laid Rn_rows x1 0).bind fun r_2 => if r_2 = 0 then none else (some (r_2))) else ((f_X7_refusalOfOpen N Rn_laid Rn_rows x1 1).bind fun r_4 => if r_4 = 0 then none else (some (r_4)))
set_option maxHeartbeats 4000000 in
set_option maxRecDepth 100000 in
theorem k_X7_best_R (l : Launch) (dC : Nat → ClassId) (dI : Nat → Nat → Nat) (cI cZ cS : ClassId) (N : Nat) (aS aRn aRn_inches aRn_many aRn_worth aRn_lengths aRn_laid aRn_slates aKept aMind aShv : Nat) (S_isKept : Int32) (S_ways : Option Nat) (Rn_inches : Nat → Int32) (Rn_many : Nat → Int32) (Rn_worth : Nat → Int32) (Rn_lengths : Nat → Int32) (Rn_laid : Nat → Int32) (Rn_slates : Nat → Int32) (Rn_widths : Int32) (Rn_rows : Int32) (Rn_lap : Int32) (x1 : Int32) (x2 : Int32) (res : Int32) (h : f_X7_best_R N Rn_laid Rn_rows x1 x2 = some res) : Met l yX7_best wsX7_best ({ frames := 2, cells := 0, slots := 0, locals := 43 }) (va_Pc [.ref aS, .int x1, .int x2] (wd (dC, dI) cI cZ cS [(aS, .inr (6, [.ref aRn, .ref aKept, .ref aMind, .ref aShv, .int S_isKept, va_rf S_ways])), (aRn, .inr (3, [.ref aRn_inches, .ref aRn_many, .ref aRn_worth, .ref aRn_lengths, .ref aRn_laid, .ref aRn_slates, .int Rn_widths, .int Rn_rows, .int Rn_lap])), (aRn_inches, .inl (cI, 4, .inl Rn_inches)), (aRn_many, .inl (cI, 4, .inl Rn_many)), (aRn_worth, .inl (cI, 4, .inl Rn_worth)), (aRn_lengths, .inl (cI, 6, .inl Rn_lengths)), (aRn_laid, .inl (cI, 6, .inl Rn_laid)), (aRn_slates, .inl (cI, 72, .inl Rn_slates))])) (vp_Si (fun r => r = res)) 0 0 (fun _ => False) := by
  refine Met.ofW (cc := cX7_best) (maxL := 5) (ret := (some .int)) (by decide) rfl ?_
  intro p e s m args below meth c s₁ B hml hv
  obtain ⟨rfl, hP, hK, hD⟩ := hv
  have hx := B.exec
  have hb := B.bytes
  have hr := B.returns
  have hts := atoms_spec (ws := wsX7_best) B.pre
  have hown : s.vm.findClass RX7 = some m.cls := findClass_of_methodNamed B.named
  have hlocks := B.notSynchronized
  have hl := lv_entry ([.ref aS, .int x1, .int x2]) (n := 5) (Nat.le_of_ble_eq_true rfl)
  rw [lg_entry_eq]
  generalize (lg_sl ([.ref aS, .int x1, .int x2]) ++ List.replicate (5 - (lg_sl ([.ref aS, .int x1, .int x2])).length) Slot.unset).toArray = ls at hl ⊢
  have hl : lv_has ls 5 [(0, .ref aS), (1, .int x1), (2, .int x2)] := hl
  unfold f_X7_best_R at h
  refine lv_aload_n hx hb dX7_best_0 rfl (lv_at hl 0 rfl) ?_
  refine lv_iload_n hx hb dX7_best_1 rfl (lv_at hl 1 rfl) ?_
  refine lv_iload_n hx hb dX7_best_2 rfl (lv_at hl 2 rfl) ?_
  refine lv_iconst (v := (-1)) hx hb dX7_best_3 (by decide) ?_
  refine lv_icmp_lt (tgt := 11) hx hb dX7_best_4 (by decide) (fun c_1 => ?_) (fun c_1 => ?_)
  · have h := it_p c_1 h
    refine lv_iconst (v := 0) hx hb dX7_best_11 (by decide) ?_
    obtain ⟨r_2, hg, h⟩ := bd_some h
    refine rdV (As := [.int x1, .int 0]) (rest := []) (ci := 6) ⟨hx, hb, hml, hown, hts⟩ (k_X7_refusalOfOpen l dC dI cI cZ cS N aS aRn aRn_inches aRn_many aRn_worth aRn_lengths aRn_laid aRn_slates aKept aMind aShv S_isKept S_ways Rn_inches Rn_many Rn_worth Rn_lengths Rn_laid Rn_slates Rn_widths Rn_rows Rn_lap x1 0 r_2 hg) (cwV 2 hts gX7_best_X7_refusalOfOpen rfl rfl rfl cd_X7_refusalOfOpen ⟨Nat.le_of_ble_eq_true rfl, Nat.le_of_ble_eq_true rfl⟩) hP hD hK [0, 1, 2, 3, 4, 5, 6, 7] (by decide) rfl rfl rfl rfl hl.1 rfl (Nat.le_of_ble_eq_true rfl) dX7_best_12 ⟨Nat.zero_le _, Nat.zero_le _⟩ ?_
    refine lv_istore_n (lv' := [(3, .int r_2), (0, .ref aS), (1, .int x1), (2, .int x2)]) hx hb dX7_best_15 rfl hl (by decide) rfl (fun ls hl => ?_)
    refine lv_iload_n hx hb dX7_best_16 rfl (lv_at hl 0 rfl) ?_
    refine lv_if_eq (tgt := 22) hx hb dX7_best_17 (by decide) (fun c_3 => ?_) (fun c_3 => ?_)
    · have h := it_p c_3 h
      refine lv_aload_n hx hb dX7_best_22 rfl (lv_at hl 1 rfl) ?_
      refine lv_aload_n hx hb dX7_best_23 rfl (lv_at hl 1 rfl) ?_
      refine va_get (D := (dC, dI)) (ci := 6) (v := .ref aRn) (C := RX7) (T := TX7) (N := 6) hx hb hts (fun _ h => List.mem_cons_of_mem _ (List.mem_append_left _ (List.mem_append_left _ (List.mem_append_right _ h)))) hown hK hP 0 rfl rfl 0 (by decide) (hts (.fieldLink RX7 10 "SlateRows" "now" "LSlateRows$Roof;") (by decide +kernel)) (fun _ h9 => h9) rfl dX7_best_24 ?_
      refine lv_iload_n hx hb dX7_best_27 rfl (lv_at hl 2 rfl) ?_
      cases h
    · have h := it_n c_3 h
      refine lv_iload_n hx hb dX7_best_20 rfl (lv_at hl 0 rfl) ?_
      exact W.iret hx hb hr (fun t ht hW => ⟨_, rfl, Option.some.inj h, ht⟩) (fun q hq => by cases hq) dX7_best_21
  · have h := it_n c_1 h
    refine lv_iconst (v := 1) hx hb dX7_best_7 (by decide) ?_
    refine lv_goto (tgt := 12) hx hb dX7_best_8 (by decide) ?_
    obtain ⟨r_4, hg, h⟩ := bd_some h
    refine rdV (As := [.int x1, .int 1]) (rest := []) (ci := 6) ⟨hx, hb, hml, hown, hts⟩ (k_X7_refusalOfOpen l dC dI cI cZ cS N aS aRn aRn_inches aRn_many aRn_worth aRn_lengths aRn_laid aRn_slates aKept aMind aShv S_isKept S_ways Rn_inches Rn_many Rn_worth Rn_lengths Rn_laid Rn_slates Rn_widths Rn_rows Rn_lap x1 1 r_4 hg) (cwV 2 hts gX7_best_X7_refusalOfOpen rfl rfl rfl cd_X7_refusalOfOpen ⟨Nat.le_of_ble_eq_true rfl, Nat.le_of_ble_eq_true rfl⟩) hP hD hK [0, 1, 2, 3, 4, 5, 6, 7] (by decide) rfl rfl rfl rfl hl.1 rfl (Nat.le_of_ble_eq_true rfl) dX7_best_12 ⟨Nat.zero_le _, Nat.zero_le _⟩ ?_
    refine lv_istore_n (lv' := [(3, .int r_4), (0, .ref aS), (1, .int x1), (2, .int x2)]) hx hb dX7_best_15 rfl hl (by decide) rfl (fun ls hl => ?_)
    refine lv_iload_n hx hb dX7_best_16 rfl (lv_at hl 0 rfl) ?_
    refine lv_if_eq (tgt := 22) hx hb dX7_best_17 (by decide) (fun c_5 => ?_) (fun c_5 => ?_)
    · have h := it_p c_5 h
      refine lv_aload_n hx hb dX7_best_22 rfl (lv_at hl 1 rfl) ?_
      refine lv_aload_n hx hb dX7_best_23 rfl (lv_at hl 1 rfl) ?_
      refine va_get (D := (dC, dI)) (ci := 6) (v := .ref aRn) (C := RX7) (T := TX7) (N := 6) hx hb hts (fun _ h => List.mem_cons_of_mem _ (List.mem_append_left _ (List.mem_append_left _ (List.mem_append_right _ h)))) hown hK hP 0 rfl rfl 0 (by decide) (hts (.fieldLink RX7 10 "SlateRows" "now" "LSlateRows$Roof;") (by decide +kernel)) (fun _ h9 => h9) rfl dX7_best_24 ?_
      refine lv_iload_n hx hb dX7_best_27 rfl (lv_at hl 2 rfl) ?_
      cases h
    · have h := it_n c_5 h
      refine lv_iload_n hx hb dX7_best_20 rfl (lv_at hl 0 rfl) ?_
      exact W.iret hx hb hr (fun t ht hW => ⟨_, rfl, Option.some.inj h, ht⟩) (fun q hq => by cases hq) dX7_best_21
def f_X7_cuts_R (N : Nat) (Rn_laid : Nat → Int32) (Rn_rows : Int32) (x1 : Int32) (x2 : Int32) : Option (Int32) :=
  if x2 < (-1) then ((f_X7_refusalOfOpen N Rn_laid Rn_rows x1 0).bind fun r_2 => if r_2 = 0 then none else (some (r_2))) else ((f_X7_refusalOfOpen N Rn_laid Rn_rows x1 1).bind fun r_4 => if r_4 = 0 then none else (some (r_4)))
set_option maxHeartbeats 4000000 in
set_option maxRecDepth 100000 in
theorem k_X7_cuts_R (l : Launch) (dC : Nat → ClassId) (dI : Nat → Nat → Nat) (cI cZ cS : ClassId) (N : Nat) (aS aRn aRn_inches aRn_many aRn_worth aRn_lengths aRn_laid aRn_slates aKept aMind aShv : Nat) (S_isKept : Int32) (S_ways : Option Nat) (Rn_inches : Nat → Int32) (Rn_many : Nat → Int32) (Rn_worth : Nat → Int32) (Rn_lengths : Nat → Int32) (Rn_laid : Nat → Int32) (Rn_slates : Nat → Int32) (Rn_widths : Int32) (Rn_rows : Int32) (Rn_lap : Int32) (x1 : Int32) (x2 : Int32) (res : Int32) (h : f_X7_cuts_R N Rn_laid Rn_rows x1 x2 = some res) : Met l yX7_cuts wsX7_cuts ({ frames := 2, cells := 0, slots := 0, locals := 43 }) (va_Pc [.ref aS, .int x1, .int x2] (wd (dC, dI) cI cZ cS [(aS, .inr (6, [.ref aRn, .ref aKept, .ref aMind, .ref aShv, .int S_isKept, va_rf S_ways])), (aRn, .inr (3, [.ref aRn_inches, .ref aRn_many, .ref aRn_worth, .ref aRn_lengths, .ref aRn_laid, .ref aRn_slates, .int Rn_widths, .int Rn_rows, .int Rn_lap])), (aRn_inches, .inl (cI, 4, .inl Rn_inches)), (aRn_many, .inl (cI, 4, .inl Rn_many)), (aRn_worth, .inl (cI, 4, .inl Rn_worth)), (aRn_lengths, .inl (cI, 6, .inl Rn_lengths)), (aRn_laid, .inl (cI, 6, .inl Rn_laid)), (aRn_slates, .inl (cI, 72, .inl Rn_slates))])) (vp_Si (fun r => r = res)) 0 0 (fun _ => False) := by
  refine Met.ofW (cc := cX7_cuts) (maxL := 5) (ret := (some .int)) (by decide) rfl ?_
  intro p e s m args below meth c s₁ B hml hv
  obtain ⟨rfl, hP, hK, hD⟩ := hv
  have hx := B.exec
  have hb := B.bytes
  have hr := B.returns
  have hts := atoms_spec (ws := wsX7_cuts) B.pre
  have hown : s.vm.findClass RX7 = some m.cls := findClass_of_methodNamed B.named
  have hlocks := B.notSynchronized
  have hl := lv_entry ([.ref aS, .int x1, .int x2]) (n := 5) (Nat.le_of_ble_eq_true rfl)
  rw [lg_entry_eq]
  generalize (lg_sl ([.ref aS, .int x1, .int x2]) ++ List.replicate (5 - (lg_sl ([.ref aS, .int x1, .int x2])).length) Slot.unset).toArray = ls at hl ⊢
  have hl : lv_has ls 5 [(0, .ref aS), (1, .int x1), (2, .int x2)] := hl
  unfold f_X7_cuts_R at h
  refine lv_aload_n hx hb dX7_cuts_0 rfl (lv_at hl 0 rfl) ?_
  refine lv_iload_n hx hb dX7_cuts_1 rfl (lv_at hl 1 rfl) ?_
  refine lv_iload_n hx hb dX7_cuts_2 rfl (lv_at hl 2 rfl) ?_
  refine lv_iconst (v := (-1)) hx hb dX7_cuts_3 (by decide) ?_
  refine lv_icmp_lt (tgt := 11) hx hb dX7_cuts_4 (by decide) (fun c_1 => ?_) (fun c_1 => ?_)
  · have h := it_p c_1 h
    refine lv_iconst (v := 0) hx hb dX7_cuts_11 (by decide) ?_
    obtain ⟨r_2, hg, h⟩ := bd_some h
    refine rdV (As := [.int x1, .int 0]) (rest := []) (ci := 6) ⟨hx, hb, hml, hown, hts⟩ (k_X7_refusalOfOpen l dC dI cI cZ cS N aS aRn aRn_inches aRn_many aRn_worth aRn_lengths aRn_laid aRn_slates aKept aMind aShv S_isKept S_ways Rn_inches Rn_many Rn_worth Rn_lengths Rn_laid Rn_slates Rn_widths Rn_rows Rn_lap x1 0 r_2 hg) (cwV 2 hts gX7_cuts_X7_refusalOfOpen rfl rfl rfl cd_X7_refusalOfOpen ⟨Nat.le_of_ble_eq_true rfl, Nat.le_of_ble_eq_true rfl⟩) hP hD hK [0, 1, 2, 3, 4, 5, 6, 7] (by decide) rfl rfl rfl rfl hl.1 rfl (Nat.le_of_ble_eq_true rfl) dX7_cuts_12 ⟨Nat.zero_le _, Nat.zero_le _⟩ ?_
    refine lv_istore_n (lv' := [(3, .int r_2), (0, .ref aS), (1, .int x1), (2, .int x2)]) hx hb dX7_cuts_15 rfl hl (by decide) rfl (fun ls hl => ?_)
    refine lv_iload_n hx hb dX7_cuts_16 rfl (lv_at hl 0 rfl) ?_
    refine lv_if_eq (tgt := 22) hx hb dX7_cuts_17 (by decide) (fun c_3 => ?_) (fun c_3 => ?_)
    · have h := it_p c_3 h
      refine lv_aload_n hx hb dX7_cuts_22 rfl (lv_at hl 1 rfl) ?_
      refine lv_aload_n hx hb dX7_cuts_23 rfl (lv_at hl 1 rfl) ?_
      refine va_get (D := (dC, dI)) (ci := 6) (v := .ref aRn) (C := RX7) (T := TX7) (N := 6) hx hb hts (fun _ h => List.mem_cons_of_mem _ (List.mem_append_left _ (List.mem_append_left _ (List.mem_append_right _ h)))) hown hK hP 0 rfl rfl 0 (by decide) (hts (.fieldLink RX7 10 "SlateRows" "now" "LSlateRows$Roof;") (by decide +kernel)) (fun _ h9 => h9) rfl dX7_cuts_24 ?_
      refine lv_iload_n hx hb dX7_cuts_27 rfl (lv_at hl 2 rfl) ?_
      cases h
    · have h := it_n c_3 h
      refine lv_iload_n hx hb dX7_cuts_20 rfl (lv_at hl 0 rfl) ?_
      exact W.iret hx hb hr (fun t ht hW => ⟨_, rfl, Option.some.inj h, ht⟩) (fun q hq => by cases hq) dX7_cuts_21
  · have h := it_n c_1 h
    refine lv_iconst (v := 1) hx hb dX7_cuts_7 (by decide) ?_
    refine lv_goto (tgt := 12) hx hb dX7_cuts_8 (by decide) ?_
    obtain ⟨r_4, hg, h⟩ := bd_some h
    refine rdV (As := [.int x1, .int 1]) (rest := []) (ci := 6) ⟨hx, hb, hml, hown, hts⟩ (k_X7_refusalOfOpen l dC dI cI cZ cS N aS aRn aRn_inches aRn_many aRn_worth aRn_lengths aRn_laid aRn_slates aKept aMind aShv S_isKept S_ways Rn_inches Rn_many Rn_worth Rn_lengths Rn_laid Rn_slates Rn_widths Rn_rows Rn_lap x1 1 r_4 hg) (cwV 2 hts gX7_cuts_X7_refusalOfOpen rfl rfl rfl cd_X7_refusalOfOpen ⟨Nat.le_of_ble_eq_true rfl, Nat.le_of_ble_eq_true rfl⟩) hP hD hK [0, 1, 2, 3, 4, 5, 6, 7] (by decide) rfl rfl rfl rfl hl.1 rfl (Nat.le_of_ble_eq_true rfl) dX7_cuts_12 ⟨Nat.zero_le _, Nat.zero_le _⟩ ?_
    refine lv_istore_n (lv' := [(3, .int r_4), (0, .ref aS), (1, .int x1), (2, .int x2)]) hx hb dX7_cuts_15 rfl hl (by decide) rfl (fun ls hl => ?_)
    refine lv_iload_n hx hb dX7_cuts_16 rfl (lv_at hl 0 rfl) ?_
    refine lv_if_eq (tgt := 22) hx hb dX7_cuts_17 (by decide) (fun c_5 => ?_) (fun c_5 => ?_)
    · have h := it_p c_5 h
      refine lv_aload_n hx hb dX7_cuts_22 rfl (lv_at hl 1 rfl) ?_
      refine lv_aload_n hx hb dX7_cuts_23 rfl (lv_at hl 1 rfl) ?_
      refine va_get (D := (dC, dI)) (ci := 6) (v := .ref aRn) (C := RX7) (T := TX7) (N := 6) hx hb hts (fun _ h => List.mem_cons_of_mem _ (List.mem_append_left _ (List.mem_append_left _ (List.mem_append_right _ h)))) hown hK hP 0 rfl rfl 0 (by decide) (hts (.fieldLink RX7 10 "SlateRows" "now" "LSlateRows$Roof;") (by decide +kernel)) (fun _ h9 => h9) rfl dX7_cuts_24 ?_
      refine lv_iload_n hx hb dX7_cuts_27 rfl (lv_at hl 2 rfl) ?_
      cases h
    · have h := it_n c_5 h
      refine lv_iload_n hx hb dX7_cuts_20 rfl (lv_at hl 0 rfl) ?_
      exact W.iret hx hb hr (fun t ht hW => ⟨_, rfl, Option.some.inj h, ht⟩) (fun q hq => by cases hq) dX7_cuts_21
def f_X7_ends_R (N : Nat) (Rn_laid : Nat → Int32) (Rn_widths : Int32) (Rn_rows : Int32) (x1 : Int32) (x2 : Int32) : Option (Int32) :=
  (f_X7_isWidth N Rn_widths x2).bind fun r_1 => (f_X7_refusalOfOpen N Rn_laid Rn_rows x1 (b2i r_1)).bind fun r_2 => if r_2 = 0 then none else (some (r_2))
set_option maxHeartbeats 4000000 in
set_option maxRecDepth 100000 in
theorem k_X7_ends_R (l : Launch) (dC : Nat → ClassId) (dI : Nat → Nat → Nat) (cI cZ cS : ClassId) (N : Nat) (aS aRn aRn_inches aRn_many aRn_worth aRn_lengths aRn_laid aRn_slates aKept aMind aShv : Nat) (S_isKept : Int32) (S_ways : Option Nat) (Rn_inches : Nat → Int32) (Rn_many : Nat → Int32) (Rn_worth : Nat → Int32) (Rn_lengths : Nat → Int32) (Rn_laid : Nat → Int32) (Rn_slates : Nat → Int32) (Rn_widths : Int32) (Rn_rows : Int32) (Rn_lap : Int32) (x1 : Int32) (x2 : Int32) (res : Int32) (h : f_X7_ends_R N Rn_laid Rn_widths Rn_rows x1 x2 = some res) : Met l yX7_ends wsX7_ends ({ frames := 2, cells := 0, slots := 0, locals := 43 }) (va_Pc [.ref aS, .int x1, .int x2] (wd (dC, dI) cI cZ cS [(aS, .inr (6, [.ref aRn, .ref aKept, .ref aMind, .ref aShv, .int S_isKept, va_rf S_ways])), (aRn, .inr (3, [.ref aRn_inches, .ref aRn_many, .ref aRn_worth, .ref aRn_lengths, .ref aRn_laid, .ref aRn_slates, .int Rn_widths, .int Rn_rows, .int Rn_lap])), (aRn_inches, .inl (cI, 4, .inl Rn_inches)), (aRn_many, .inl (cI, 4, .inl Rn_many)), (aRn_worth, .inl (cI, 4, .inl Rn_worth)), (aRn_lengths, .inl (cI, 6, .inl Rn_lengths)), (aRn_laid, .inl (cI, 6, .inl Rn_laid)), (aRn_slates, .inl (cI, 72, .inl Rn_slates))])) (vp_Si (fun r => r = res)) 0 0 (fun _ => False) := by
  refine Met.ofW (cc := cX7_ends) (maxL := 4) (ret := (some .int)) (by decide) rfl ?_
  intro p e s m args below meth c s₁ B hml hv
  obtain ⟨rfl, hP, hK, hD⟩ := hv
  have hx := B.exec
  have hb := B.bytes
  have hr := B.returns
  have hts := atoms_spec (ws := wsX7_ends) B.pre
  have hown : s.vm.findClass RX7 = some m.cls := findClass_of_methodNamed B.named
  have hlocks := B.notSynchronized
  have hl := lv_entry ([.ref aS, .int x1, .int x2]) (n := 4) (Nat.le_of_ble_eq_true rfl)
  rw [lg_entry_eq]
  generalize (lg_sl ([.ref aS, .int x1, .int x2]) ++ List.replicate (4 - (lg_sl ([.ref aS, .int x1, .int x2])).length) Slot.unset).toArray = ls at hl ⊢
  have hl : lv_has ls 4 [(0, .ref aS), (1, .int x1), (2, .int x2)] := hl
  unfold f_X7_ends_R at h
  refine lv_aload_n hx hb dX7_ends_0 rfl (lv_at hl 0 rfl) ?_
  refine lv_iload_n hx hb dX7_ends_1 rfl (lv_at hl 1 rfl) ?_
  refine lv_aload_n hx hb dX7_ends_2 rfl (lv_at hl 0 rfl) ?_
  refine lv_iload_n hx hb dX7_ends_3 rfl (lv_at hl 2 rfl) ?_
  obtain ⟨r_1, hg, h⟩ := bd_some h
  refine rdV (As := [.int x2]) (rest := [.int x1, .ref aS]) (ci := 6) ⟨hx, hb, hml, hown, hts⟩ (k_X7_isWidth l dC dI cI cZ cS N aS aRn aRn_inches aRn_many aRn_worth aRn_lengths aRn_laid aRn_slates aKept aMind aShv S_isKept S_ways Rn_inches Rn_many Rn_worth Rn_lengths Rn_laid Rn_slates Rn_widths Rn_rows Rn_lap x2 r_1 hg) (cwV 1 hts gX7_ends_X7_isWidth rfl rfl rfl cd_X7_isWidth ⟨Nat.le_of_ble_eq_true rfl, Nat.le_of_ble_eq_true rfl⟩) hP hD hK [0, 1, 2, 3, 4, 5, 6, 7] (by decide) rfl rfl rfl rfl hl.1 rfl (Nat.le_of_ble_eq_true rfl) dX7_ends_4 ⟨Nat.zero_le _, Nat.zero_le _⟩ ?_
  obtain ⟨r_2, hg, h⟩ := bd_some h
  refine rdV (As := [.int x1, .int (b2i r_1)]) (rest := []) (ci := 6) ⟨hx, hb, hml, hown, hts⟩ (k_X7_refusalOfOpen l dC dI cI cZ cS N aS aRn aRn_inches aRn_many aRn_worth aRn_lengths aRn_laid aRn_slates aKept aMind aShv S_isKept S_ways Rn_inches Rn_many Rn_worth Rn_lengths Rn_laid Rn_slates Rn_widths Rn_rows Rn_lap x1 (b2i r_1) r_2 hg) (cwV 2 hts gX7_ends_X7_refusalOfOpen rfl rfl rfl cd_X7_refusalOfOpen ⟨Nat.le_of_ble_eq_true rfl, Nat.le_of_ble_eq_true rfl⟩) hP hD hK [0, 1, 2, 3, 4, 5, 6, 7] (by decide) rfl rfl rfl rfl hl.1 rfl (Nat.le_of_ble_eq_true rfl) dX7_ends_7 ⟨Nat.zero_le _, Nat.zero_le _⟩ ?_
  refine lv_istore_n (lv' := [(3, .int r_2), (0, .ref aS), (1, .int x1), (2, .int x2)]) hx hb dX7_ends_10 rfl hl (by decide) rfl (fun ls hl => ?_)
  refine lv_iload_n hx hb dX7_ends_11 rfl (lv_at hl 0 rfl) ?_
  refine lv_if_ne (tgt := 31) hx hb dX7_ends_12 (by decide) (fun c_3 => ?_) (fun c_3 => ?_)
  · have h := it_n c_3 h
    refine lv_iload_n hx hb dX7_ends_31 rfl (lv_at hl 0 rfl) ?_
    exact W.iret hx hb hr (fun t ht hW => ⟨_, rfl, Option.some.inj h, ht⟩) (fun q hq => by cases hq) dX7_ends_32
  · have h := it_p c_3 h
    refine lv_aload_n hx hb dX7_ends_15 rfl (lv_at hl 1 rfl) ?_
    refine lv_aload_n hx hb dX7_ends_16 rfl (lv_at hl 1 rfl) ?_
    refine va_get (D := (dC, dI)) (ci := 6) (v := .ref aRn) (C := RX7) (T := TX7) (N := 6) hx hb hts (fun _ h => List.mem_cons_of_mem _ (List.mem_append_left _ (List.mem_append_left _ (List.mem_append_right _ h)))) hown hK hP 0 rfl rfl 0 (by decide) (hts (.fieldLink RX7 10 "SlateRows" "now" "LSlateRows$Roof;") (by decide +kernel)) (fun _ h9 => h9) rfl dX7_ends_17 ?_
    refine lv_iload_n hx hb dX7_ends_20 rfl (lv_at hl 2 rfl) ?_
    cases h
def f_X7_two_R (N : Nat) (Rn_laid : Nat → Int32) (Rn_rows : Int32) (x1 : Int32) (x2 : Int32) : Option (Int32) :=
  (f_X7_isRow N Rn_rows x1).bind fun r_1 => if (b2i r_1) = 0 then (some ((-1))) else ((f_X7_isRow N Rn_rows x2).bind fun r_3 => if (b2i r_3) = 0 then (some ((-1))) else (if 1 < (ab (x1 - x2)) then (ck (gi x1 6) (if 0 < (Rn_laid x1.toNatClampNeg) then (some ((-3))) else (ck (gi x2 6) (if (Rn_laid x2.toNatClampNeg) ≤ 0 then none else (some ((-3))))))) else (some ((-1)))))
set_option maxHeartbeats 4000000 in
set_option maxRecDepth 100000 in
theorem k_X7_two_R (l : Launch) (dC : Nat → ClassId) (dI : Nat → Nat → Nat) (cI cZ cS : ClassId) (N : Nat) (aS aRn aRn_inches aRn_many aRn_worth aRn_lengths aRn_laid aRn_slates aKept aMind aShv : Nat) (S_isKept : Int32) (S_ways : Option Nat) (Rn_inches : Nat → Int32) (Rn_many : Nat → Int32) (Rn_worth : Nat → Int32) (Rn_lengths : Nat → Int32) (Rn_laid : Nat → Int32) (Rn_slates : Nat → Int32) (Rn_widths : Int32) (Rn_rows : Int32) (Rn_lap : Int32) (x1 : Int32) (x2 : Int32) (res : Int32) (h : f_X7_two_R N Rn_laid Rn_rows x1 x2 = some res) : Met l yX7_two wsX7_two ({ frames := 1, cells := 0, slots := 0, locals := 21 }) (va_Pc [.ref aS, .int x1, .int x2] (wd (dC, dI) cI cZ cS [(aS, .inr (6, [.ref aRn, .ref aKept, .ref aMind, .ref aShv, .int S_isKept, va_rf S_ways])), (aRn, .inr (3, [.ref aRn_inches, .ref aRn_many, .ref aRn_worth, .ref aRn_lengths, .ref aRn_laid, .ref aRn_slates, .int Rn_widths, .int Rn_rows, .int Rn_lap])), (aRn_inches, .inl (cI, 4, .inl Rn_inches)), (aRn_many, .inl (cI, 4, .inl Rn_many)), (aRn_worth, .inl (cI, 4, .inl Rn_worth)), (aRn_lengths, .inl (cI, 6, .inl Rn_lengths)), (aRn_laid, .inl (cI, 6, .inl Rn_laid)), (aRn_slates, .inl (cI, 72, .inl Rn_slates))])) (vp_Si (fun r => r = res)) 0 0 (fun _ => False) := by
  refine Met.ofW (cc := cX7_two) (maxL := 5) (ret := (some .int)) (by decide) rfl ?_
  intro p e s m args below meth c s₁ B hml hv
  obtain ⟨rfl, hP, hK, hD⟩ := hv
  have hx := B.exec
  have hb := B.bytes
  have hr := B.returns
  have hts := atoms_spec (ws := wsX7_two) B.pre
  have hown : s.vm.findClass RX7 = some m.cls := findClass_of_methodNamed B.named
  have hlocks := B.notSynchronized
  have hl := lv_entry ([.ref aS, .int x1, .int x2]) (n := 5) (Nat.le_of_ble_eq_true rfl)
  rw [lg_entry_eq]
  generalize (lg_sl ([.ref aS, .int x1, .int x2]) ++ List.replicate (5 - (lg_sl ([.ref aS, .int x1, .int x2])).length) Slot.unset).toArray = ls at hl ⊢
  have hl : lv_has ls 5 [(0, .ref aS), (1, .int x1), (2, .int x2)] := hl
  unfold f_X7_two_R at h
  refine lv_aload_n hx hb dX7_two_0 rfl (lv_at hl 0 rfl) ?_
  refine lv_iload_n hx hb dX7_two_1 rfl (lv_at hl 1 rfl) ?_
  obtain ⟨r_1, hg, h⟩ := bd_some h
  refine rdV (As := [.int x1]) (rest := []) (ci := 6) ⟨hx, hb, hml, hown, hts⟩ (k_X7_isRow l dC dI cI cZ cS N aS aRn aRn_inches aRn_many aRn_worth aRn_lengths aRn_laid aRn_slates aKept aMind aShv S_isKept S_ways Rn_inches Rn_many Rn_worth Rn_lengths Rn_laid Rn_slates Rn_widths Rn_rows Rn_lap x1 r_1 hg) (cwV 1 hts gX7_two_X7_isRow rfl rfl rfl cd_X7_isRow ⟨Nat.le_of_ble_eq_true rfl, Nat.le_of_ble_eq_true rfl⟩) hP hD hK [0, 1, 2, 3, 4, 5, 6, 7] (by decide) rfl rfl rfl rfl hl.1 rfl (Nat.le_of_ble_eq_true rfl) dX7_two_2 ⟨Nat.zero_le _, Nat.zero_le _⟩ ?_
  refine lv_if_eq (tgt := 26) hx hb dX7_two_5 (by decide) (fun c_2 => ?_) (fun c_2 => ?_)
  · have h := it_p c_2 h
    refine lv_iconst (v := (-1)) hx hb dX7_two_26 (by decide) ?_
    exact W.iret hx hb hr (fun t ht hW => ⟨_, rfl, Option.some.inj h, ht⟩) (fun q hq => by cases hq) dX7_two_27
  · have h := it_n c_2 h
    refine lv_aload_n hx hb dX7_two_8 rfl (lv_at hl 0 rfl) ?_
    refine lv_iload_n hx hb dX7_two_9 rfl (lv_at hl 2 rfl) ?_
    obtain ⟨r_3, hg, h⟩ := bd_some h
    refine rdV (As := [.int x2]) (rest := []) (ci := 6) ⟨hx, hb, hml, hown, hts⟩ (k_X7_isRow l dC dI cI cZ cS N aS aRn aRn_inches aRn_many aRn_worth aRn_lengths aRn_laid aRn_slates aKept aMind aShv S_isKept S_ways Rn_inches Rn_many Rn_worth Rn_lengths Rn_laid Rn_slates Rn_widths Rn_rows Rn_lap x2 r_3 hg) (cwV 1 hts gX7_two_X7_isRow rfl rfl rfl cd_X7_isRow ⟨Nat.le_of_ble_eq_true rfl, Nat.le_of_ble_eq_true rfl⟩) hP hD hK [0, 1, 2, 3, 4, 5, 6, 7] (by decide) rfl rfl rfl rfl hl.1 rfl (Nat.le_of_ble_eq_true rfl) dX7_two_10 ⟨Nat.zero_le _, Nat.zero_le _⟩ ?_
    refine lv_if_eq (tgt := 26) hx hb dX7_two_13 (by decide) (fun c_4 => ?_) (fun c_4 => ?_)
    · have h := it_p c_4 h
      refine lv_iconst (v := (-1)) hx hb dX7_two_26 (by decide) ?_
      exact W.iret hx hb hr (fun t ht hW => ⟨_, rfl, Option.some.inj h, ht⟩) (fun q hq => by cases hq) dX7_two_27
    · have h := it_n c_4 h
      refine lv_iload_n hx hb dX7_two_16 rfl (lv_at hl 1 rfl) ?_
      refine lv_iload_n hx hb dX7_two_17 rfl (lv_at hl 2 rfl) ?_
      refine lv_isub hx hb dX7_two_18 ?_
      refine va_mabs hx hb (hml.trans hl.1.symm) hown (hts (.methodLink RX7 153 Lib.Math.abs.name) (by decide +kernel)) (hts (.static Lib.Math.abs.name) (by decide +kernel)) (hts (.initialized "java/lang/Math") (by decide +kernel)) (hts (.code Lib.Math.abs.name Lib.Math.abs.code 1 (some .int)) (by decide +kernel)) (Nat.le_of_ble_eq_true rfl) (Nat.le_of_ble_eq_true rfl) (Nat.zero_le _) (Nat.zero_le _) dX7_two_19 ?_
      show W _ _ _ _ _ _ _ _ _ _ _ _ _ _ _ (F0 _ _ _ [.int (ab (x1 - x2))])
      refine lv_iconst (v := 1) hx hb dX7_two_22 (by decide) ?_
      refine lv_icmp_gt (tgt := 28) hx hb dX7_two_23 (by decide) (fun c_5 => ?_) (fun c_5 => ?_)
      · have h := it_p c_5 h
        refine lv_aload_n hx hb dX7_two_28 rfl (lv_at hl 0 rfl) ?_
        refine va_get (D := (dC, dI)) (ci := 6) (v := .ref aRn) (C := RX7) (T := TX7) (N := 6) hx hb hts (fun _ h => List.mem_cons_of_mem _ (List.mem_append_left _ (List.mem_append_left _ (List.mem_append_right _ h)))) hown hK hP 0 rfl rfl 0 (by decide) (hts (.fieldLink RX7 10 "SlateRows" "now" "LSlateRows$Roof;") (by decide +kernel)) (fun _ h9 => h9) rfl dX7_two_29 ?_
        refine va_get (D := (dC, dI)) (ci := 3) (v := .ref aRn_laid) (C := RX3) (T := TX3) (N := 9) hx hb hts (fun _ h => List.mem_cons_of_mem _ (List.mem_append_left _ (List.mem_append_right _ h))) hown hK hP 1 rfl rfl 4 (by decide) (hts (.fieldLink RX7 83 "SlateRows$Roof" "laid" "[I") (by decide +kernel)) (fun _ h9 => h9) rfl dX7_two_32 ?_
        refine lv_iload_n hx hb dX7_two_35 rfl (lv_at hl 1 rfl) ?_
        obtain ⟨hi, h⟩ := ck_some h
        refine va_iald hx hb hK hP 6 0 rfl rfl (gi_in hi) dX7_two_36 ?_
        refine lv_if_gt (tgt := 52) hx hb dX7_two_37 (by decide) (fun c_6 => ?_) (fun c_6 => ?_)
        · have h := it_p c_6 h
          refine lv_bipush (v := (-3)) hx hb dX7_two_52 (by decide) ?_
          exact W.iret hx hb hr (fun t ht hW => ⟨_, rfl, Option.some.inj h, ht⟩) (fun q hq => by cases hq) dX7_two_54
        · have h := it_n c_6 h
          refine lv_aload_n hx hb dX7_two_40 rfl (lv_at hl 0 rfl) ?_
          refine va_get (D := (dC, dI)) (ci := 6) (v := .ref aRn) (C := RX7) (T := TX7) (N := 6) hx hb hts (fun _ h => List.mem_cons_of_mem _ (List.mem_append_left _ (List.mem_append_left _ (List.mem_append_right _ h)))) hown hK hP 0 rfl rfl 0 (by decide) (hts (.fieldLink RX7 10 "SlateRows" "now" "LSlateRows$Roof;") (by decide +kernel)) (fun _ h9 => h9) rfl dX7_two_41 ?_
          refine va_get (D := (dC, dI)) (ci := 3) (v := .ref aRn_laid) (C := RX3) (T := TX3) (N := 9) hx hb hts (fun _ h => List.mem_cons_of_mem _ (List.mem_append_left _ (List.mem_append_right _ h))) hown hK hP 1 rfl rfl 4 (by decide) (hts (.fieldLink RX7 83 "SlateRows$Roof" "laid" "[I") (by decide +kernel)) (fun _ h9 => h9) rfl dX7_two_44 ?_
          refine lv_iload_n hx hb dX7_two_47 rfl (lv_at hl 2 rfl) ?_
          obtain ⟨hi, h⟩ := ck_some h
          refine va_iald hx hb hK hP 6 0 rfl rfl (gi_in hi) dX7_two_48 ?_
          refine lv_if_le (tgt := 55) hx hb dX7_two_49 (by decide) (fun c_7 => ?_) (fun c_7 => ?_)
          · have h := it_p c_7 h
            refine lv_aload_n hx hb dX7_two_55 rfl (lv_at hl 0 rfl) ?_
            refine lv_aload_n hx hb dX7_two_56 rfl (lv_at hl 0 rfl) ?_
            refine va_get (D := (dC, dI)) (ci := 6) (v := .ref aRn) (C := RX7) (T := TX7) (N := 6) hx hb hts (fun _ h => List.mem_cons_of_mem _ (List.mem_append_left _ (List.mem_append_left _ (List.mem_append_right _ h)))) hown hK hP 0 rfl rfl 0 (by decide) (hts (.fieldLink RX7 10 "SlateRows" "now" "LSlateRows$Roof;") (by decide +kernel)) (fun _ h9 => h9) rfl dX7_two_57 ?_
            refine lv_iload_n hx hb dX7_two_60 rfl (lv_at hl 1 rfl) ?_
            cases h
          · have h := it_n c_7 h
            refine lv_bipush (v := (-3)) hx hb dX7_two_52 (by decide) ?_
            exact W.iret hx hb hr (fun t ht hW => ⟨_, rfl, Option.some.inj h, ht⟩) (fun q hq => by cases hq) dX7_two_54
      · have h := it_n c_5 h
        refine lv_iconst (v := (-1)) hx hb dX7_two_26 (by decide) ?_
        exact W.iret hx hb hr (fun t ht hW => ⟨_, rfl, Option.some.inj h, ht⟩) (fun q hq => by cases hq) dX7_two_27
def f_X7_uses_R (N : Nat) (Rn_many : Nat → Int32) (Rn_laid : Nat → Int32) (Rn_widths : Int32) (Rn_rows : Int32) (x1 : Int32) (x2 : Int32) : Option (Int32) :=
  (f_X7_isWidth N Rn_widths x2).bind fun r_1 => (f_X7_refusalOfOpen N Rn_laid Rn_rows x1 (b2i r_1)).bind fun r_2 => if r_2 = 0 then (ck (gi x2 4) (if (Rn_many x2.toNatClampNeg) = 0 then (some (0)) else none)) else (some (r_2))
set_option maxHeartbeats 4000000 in
set_option maxRecDepth 100000 in
theorem k_X7_uses_R (l : Launch) (dC : Nat → ClassId) (dI : Nat → Nat → Nat) (cI cZ cS : ClassId) (N : Nat) (aS aRn aRn_inches aRn_many aRn_worth aRn_lengths aRn_laid aRn_slates aRm aRm_inches aRm_many aRm_worth aRm_lengths aRm_laid aRm_slates aKept aShv : Nat) (S_isKept : Int32) (S_ways : Option Nat) (Rn_inches : Nat → Int32) (Rn_many : Nat → Int32) (Rn_worth : Nat → Int32) (Rn_lengths : Nat → Int32) (Rn_laid : Nat → Int32) (Rn_slates : Nat → Int32) (Rn_widths : Int32) (Rn_rows : Int32) (Rn_lap : Int32) (Rm_inches : Nat → Int32) (Rm_many : Nat → Int32) (Rm_worth : Nat → Int32) (Rm_lengths : Nat → Int32) (Rm_laid : Nat → Int32) (Rm_slates : Nat → Int32) (Rm_widths : Int32) (Rm_rows : Int32) (Rm_lap : Int32) (x1 : Int32) (x2 : Int32) (res : Int32) (h : f_X7_uses_R N Rn_many Rn_laid Rn_widths Rn_rows x1 x2 = some res) : Met l yX7_uses wsX7_uses ({ frames := 2, cells := 0, slots := 0, locals := 43 }) (va_Pc [.ref aS, .int x1, .int x2] (wd (dC, dI) cI cZ cS [(aS, .inr (6, [.ref aRn, .ref aKept, .ref aRm, .ref aShv, .int S_isKept, va_rf S_ways])), (aRn, .inr (3, [.ref aRn_inches, .ref aRn_many, .ref aRn_worth, .ref aRn_lengths, .ref aRn_laid, .ref aRn_slates, .int Rn_widths, .int Rn_rows, .int Rn_lap])), (aRn_inches, .inl (cI, 4, .inl Rn_inches)), (aRn_many, .inl (cI, 4, .inl Rn_many)), (aRn_worth, .inl (cI, 4, .inl Rn_worth)), (aRn_lengths, .inl (cI, 6, .inl Rn_lengths)), (aRn_laid, .inl (cI, 6, .inl Rn_laid)), (aRn_slates, .inl (cI, 72, .inl Rn_slates)), (aRm, .inr (3, [.ref aRm_inches, .ref aRm_many, .ref aRm_worth, .ref aRm_lengths, .ref aRm_laid, .ref aRm_slates, .int Rm_widths, .int Rm_rows, .int Rm_lap])), (aRm_inches, .inl (cI, 4, .inl Rm_inches)), (aRm_many, .inl (cI, 4, .inl Rm_many)), (aRm_worth, .inl (cI, 4, .inl Rm_worth)), (aRm_lengths, .inl (cI, 6, .inl Rm_lengths)), (aRm_laid, .inl (cI, 6, .inl Rm_laid)), (aRm_slates, .inl (cI, 72, .inl Rm_slates))])) (vp_Si (fun r => r = res)) 0 0 (fun _ => False) := by
  refine Met.ofW (cc := cX7_uses) (maxL := 5) (ret := (some .int)) (by decide) rfl ?_
  intro p e s m args below meth c s₁ B hml hv
  obtain ⟨rfl, hP, hK, hD⟩ := hv
  have hx := B.exec
  have hb := B.bytes
  have hr := B.returns
  have hts := atoms_spec (ws := wsX7_uses) B.pre
  have hown : s.vm.findClass RX7 = some m.cls := findClass_of_methodNamed B.named
  have hlocks := B.notSynchronized
  have hl := lv_entry ([.ref aS, .int x1, .int x2]) (n := 5) (Nat.le_of_ble_eq_true rfl)
  rw [lg_entry_eq]
  generalize (lg_sl ([.ref aS, .int x1, .int x2]) ++ List.replicate (5 - (lg_sl ([.ref aS, .int x1, .int x2])).length) Slot.unset).toArray = ls at hl ⊢
  have hl : lv_has ls 5 [(0, .ref aS), (1, .int x1), (2, .int x2)] := hl
  unfold f_X7_uses_R at h
  refine lv_aload_n hx hb dX7_uses_0 rfl (lv_at hl 0 rfl) ?_
  refine lv_iload_n hx hb dX7_uses_1 rfl (lv_at hl 1 rfl) ?_
  refine lv_aload_n hx hb dX7_uses_2 rfl (lv_at hl 0 rfl) ?_
  refine lv_iload_n hx hb dX7_uses_3 rfl (lv_at hl 2 rfl) ?_
  obtain ⟨r_1, hg, h⟩ := bd_some h
  refine rdV (As := [.int x2]) (rest := [.int x1, .ref aS]) (ci := 6) ⟨hx, hb, hml, hown, hts⟩ (k_X7_isWidth l dC dI cI cZ cS N aS aRn aRn_inches aRn_many aRn_worth aRn_lengths aRn_laid aRn_slates aKept aRm aShv S_isKept S_ways Rn_inches Rn_many Rn_worth Rn_lengths Rn_laid Rn_slates Rn_widths Rn_rows Rn_lap x2 r_1 hg) (cwV 1 hts gX7_uses_X7_isWidth rfl rfl rfl cd_X7_isWidth ⟨Nat.le_of_ble_eq_true rfl, Nat.le_of_ble_eq_true rfl⟩) hP hD hK [0, 1, 2, 3, 4, 5, 6, 7] (by decide) rfl rfl rfl rfl hl.1 rfl (Nat.le_of_ble_eq_true rfl) dX7_uses_4 ⟨Nat.zero_le _, Nat.zero_le _⟩ ?_
  obtain ⟨r_2, hg, h⟩ := bd_some h
  refine rdV (As := [.int x1, .int (b2i r_1)]) (rest := []) (ci := 6) ⟨hx, hb, hml, hown, hts⟩ (k_X7_refusalOfOpen l dC dI cI cZ cS N aS aRn aRn_inches aRn_many aRn_worth aRn_lengths aRn_laid aRn_slates aKept aRm aShv S_isKept S_ways Rn_inches Rn_many Rn_worth Rn_lengths Rn_laid Rn_slates Rn_widths Rn_rows Rn_lap x1 (b2i r_1) r_2 hg) (cwV 2 hts gX7_uses_X7_refusalOfOpen rfl rfl rfl cd_X7_refusalOfOpen ⟨Nat.le_of_ble_eq_true rfl, Nat.le_of_ble_eq_true rfl⟩) hP hD hK [0, 1, 2, 3, 4, 5, 6, 7] (by decide) rfl rfl rfl rfl hl.1 rfl (Nat.le_of_ble_eq_true rfl) dX7_uses_7 ⟨Nat.zero_le _, Nat.zero_le _⟩ ?_
  refine lv_istore_n (lv' := [(3, .int r_2), (0, .ref aS), (1, .int x1), (2, .int x2)]) hx hb dX7_uses_10 rfl hl (by decide) rfl (fun ls hl => ?_)
  refine lv_iload_n hx hb dX7_uses_11 rfl (lv_at hl 0 rfl) ?_
  refine lv_if_eq (tgt := 17) hx hb dX7_uses_12 (by decide) (fun c_3 => ?_) (fun c_3 => ?_)
  · have h := it_p c_3 h
    refine lv_aload_n hx hb dX7_uses_17 rfl (lv_at hl 1 rfl) ?_
    refine va_get (D := (dC, dI)) (ci := 6) (v := .ref aRn) (C := RX7) (T := TX7) (N := 6) hx hb hts (fun _ h => List.mem_cons_of_mem _ (List.mem_append_left _ (List.mem_append_left _ (List.mem_append_right _ h)))) hown hK hP 0 rfl rfl 0 (by decide) (hts (.fieldLink RX7 10 "SlateRows" "now" "LSlateRows$Roof;") (by decide +kernel)) (fun _ h9 => h9) rfl dX7_uses_18 ?_
    refine va_get (D := (dC, dI)) (ci := 3) (v := .ref aRn_many) (C := RX3) (T := TX3) (N := 9) hx hb hts (fun _ h => List.mem_cons_of_mem _ (List.mem_append_left _ (List.mem_append_right _ h))) hown hK hP 1 rfl rfl 1 (by decide) (hts (.fieldLink RX7 68 "SlateRows$Roof" "many" "[I") (by decide +kernel)) (fun _ h9 => h9) rfl dX7_uses_21 ?_
    refine lv_iload_n hx hb dX7_uses_24 rfl (lv_at hl 3 rfl) ?_
    obtain ⟨hi, h⟩ := ck_some h
    refine va_iald hx hb hK hP 3 0 rfl rfl (gi_in hi) dX7_uses_25 ?_
    refine lv_if_ne (tgt := 31) hx hb dX7_uses_26 (by decide) (fun c_4 => ?_) (fun c_4 => ?_)
    · have h := it_n c_4 h
      refine lv_aload_n hx hb dX7_uses_31 rfl (lv_at hl 1 rfl) ?_
      refine lv_aload_n hx hb dX7_uses_32 rfl (lv_at hl 1 rfl) ?_
      refine va_get (D := (dC, dI)) (ci := 6) (v := .ref aRn) (C := RX7) (T := TX7) (N := 6) hx hb hts (fun _ h => List.mem_cons_of_mem _ (List.mem_append_left _ (List.mem_append_left _ (List.mem_append_right _ h)))) hown hK hP 0 rfl rfl 0 (by decide) (hts (.fieldLink RX7 10 "SlateRows" "now" "LSlateRows$Roof;") (by decide +kernel)) (fun _ h9 => h9) rfl dX7_uses_33 ?_
      refine lv_iload_n hx hb dX7_uses_36 rfl (lv_at hl 2 rfl) ?_
      cases h
    · have h := it_p c_4 h
      refine lv_iconst (v := 0) hx hb dX7_uses_29 (by decide) ?_
      exact W.iret hx hb hr (fun t ht hW => ⟨_, rfl, Option.some.inj h, ht⟩) (fun q hq => by cases hq) dX7_uses_30
  · have h := it_n c_3 h
    refine lv_iload_n hx hb dX7_uses_15 rfl (lv_at hl 0 rfl) ?_
    exact W.iret hx hb hr (fun t ht hW => ⟨_, rfl, Option.some.inj h, ht⟩) (fun q hq => by cases hq) dX7_uses_16
