/-! ===== toss ===== -/
def f_X7_toss_L (N : Nat) (Sh : Nat → Option Nat) (hold kind fig x1 : Int32) : Option Int32 :=
  (f_X7_isShelf N x1).bind fun r_1 => if (b2i r_1) = 0 then some (-1) else ((f_X7_refusalOfLaying_L N Sh hold x1).bind fun r_2 => if r_2 = 0 then (ck (gi x1 8) ((f_X1_fail N kind fig).bind fun k => if k = 0 then some (-15) else (if k = 1 then ((f_X1_effort N kind fig).bind fun a => some (200 + a)) else (if k = 2 then some (100 + fig) else some fig)))) else some r_2)
def f_X7_toss_N (N : Nat) (Sh : Nat → Option Nat) (hold x1 : Int32) : Option Int32 :=
  (f_X7_isShelf N x1).bind fun r_1 => if (b2i r_1) = 0 then some (-1) else ((f_X7_refusalOfLaying_N N Sh hold x1).bind fun r_2 => if r_2 = 0 then none else some r_2)
/-- what toss wants of the state besides its world -/
def tossS (A : Nat → Prop) (sa1 sa2 sa3 : Nat) (U : State) : Prop := thrS A U ∧ vk_R RX1 26 "told" sa1 U ∧ vk_R RX1 37 "handed" sa2 U ∧ vk_R RX1 42 "laying" sa3 U ∧ va_Nc "java/lang/IllegalArgumentException" "java/lang/UnsupportedOperationException" U ∧ va_Nc "java/lang/IllegalStateException" "java/lang/UnsupportedOperationException" U ∧ va_Nc "java/lang/IllegalStateException" "java/lang/IllegalArgumentException" U
theorem thrS.moved {A B : Nat → Prop} {s U : State} (hU : U.heap = s.heap) (hW : s.WarmedH U.vm) (hAB : ∀ q, B q → A q) (h : thrS A s) : thrS B U := by
  unfold thrS
  rw [hU]
  exact ⟨⟨(vx_Zq.moved hW.alike h.1.1).narrow hAB, (vx_Zq.moved hW.alike h.1.2).narrow hAB⟩, ngW_warm hW h.2⟩
theorem met_of_vx {l : Launch} {y : MethodName} {ws : List Cond} {rm : Room} {Pc : Array Value → State → Prop} {Qc : Array Value → State → Outcome → State → Prop} {mc ms : Nat} {free : Addr → Prop} (h : vx_Met l y ws rm Pc Qc (fun _ _ _ => False) mc ms free) : Met l y ws rm Pc Qc mc ms free := by
  intro p e ha hc hk s m args below hfr hS hP hK
  obtain ⟨n, o, h1, h2, h3, h4⟩ := h p e ha hc hk s m args below hfr hS hP hK
  refine ⟨n, o, h1, h2, h3, ?_⟩
  rcases h4 with h4 | ⟨q, _, E, ce, L, hx, _⟩
  · exact h4
  · exact hx.elim
set_option maxHeartbeats 4000000 in
set_option maxRecDepth 100000 in
theorem k_X7_toss_N (l : Launch) (hst : l.stackTraces = false) (dC : Nat → ClassId) (dI : Nat → Nat → Nat) (cI cZ cS : ClassId) (N : Nat) (aS aS_shelves aT aT_numbers aNow aKept aMind : Nat) (sz : Nat) (S_shelves : Nat → Option Nat) (S_isKept : Int32) (S_ways : Option Nat) (T_numbers : Nat → Int32) (T_holds : Int32) (T_sort : Int32) (T_size : Int32) (x1 : Int32) (sa1 sa2 sa3 : Nat) (hd : gi x1 8 = true → S_shelves x1.toNatClampNeg = some aT) (res : Int32) (h : f_X7_toss_N N S_shelves T_holds x1 = some res) : Met l yX7_toss wsX7_toss ({ frames := 7, cells := 1, slots := 6, locals := 140 }) (va_Pc [.ref aS, .int x1] (fun U => preW (dC, dI) cI cZ cS [(aS, .inr (6, [.ref aNow, .ref aKept, .ref aMind, .ref aS_shelves, .int S_isKept, va_rf S_ways])), (aS_shelves, .inl (cS, 8, .inr (.inr (.inr (.inr S_shelves))))), (aT, .inr (4, [.ref aT_numbers, .int T_holds, .null, .int T_sort, .int T_size])), (aT_numbers, .inl (cI, 100, .inl T_numbers))] sz U ∧ tossS (va_A [(aS, .inr (6, [.ref aNow, .ref aKept, .ref aMind, .ref aS_shelves, .int S_isKept, va_rf S_ways])), (aS_shelves, .inl (cS, 8, .inr (.inr (.inr (.inr S_shelves))))), (aT, .inr (4, [.ref aT_numbers, .int T_holds, .null, .int T_sort, .int T_size])), (aT_numbers, .inl (cI, 100, .inl T_numbers))] sz) sa1 sa2 sa3 U)) (va_Qi (fun (r : Int32) (_ : Unit) => r = res) (fun _ => qW (dC, dI) cI cZ cS (va_A [(aS, .inr (6, [.ref aNow, .ref aKept, .ref aMind, .ref aS_shelves, .int S_isKept, va_rf S_ways])), (aS_shelves, .inl (cS, 8, .inr (.inr (.inr (.inr S_shelves))))), (aT, .inr (4, [.ref aT_numbers, .int T_holds, .null, .int T_sort, .int T_size])), (aT_numbers, .inl (cI, 100, .inl T_numbers))] sz) [(aS, .inr (6, [.ref aNow, .ref aKept, .ref aMind, .ref aS_shelves, .int S_isKept, va_rf S_ways])), (aS_shelves, .inl (cS, 8, .inr (.inr (.inr (.inr S_shelves))))), (aT, .inr (4, [.ref aT_numbers, .int T_holds, .null, .int T_sort, .int T_size])), (aT_numbers, .inl (cI, 100, .inl T_numbers))]) (va_A [(aS, .inr (6, [.ref aNow, .ref aKept, .ref aMind, .ref aS_shelves, .int S_isKept, va_rf S_ways])), (aS_shelves, .inl (cS, 8, .inr (.inr (.inr (.inr S_shelves))))), (aT, .inr (4, [.ref aT_numbers, .int T_holds, .null, .int T_sort, .int T_size])), (aT_numbers, .inl (cI, 100, .inl T_numbers))] sz)) 1 6 (va_A [(aS, .inr (6, [.ref aNow, .ref aKept, .ref aMind, .ref aS_shelves, .int S_isKept, va_rf S_ways])), (aS_shelves, .inl (cS, 8, .inr (.inr (.inr (.inr S_shelves))))), (aT, .inr (4, [.ref aT_numbers, .int T_holds, .null, .int T_sort, .int T_size])), (aT_numbers, .inl (cI, 100, .inl T_numbers))] sz) := by
  refine met_of_vx ?_
  refine vx_ofWH (cc := cX7_toss) (maxL := 5) (ret := (some .int)) (hh := [(34, 38, 41, 274), (34, 38, 52, 246), (34, 38, 62, 253)]) (by decide) rfl ?_
  intro p e s m args below meth c s₁ B hml hv
  obtain ⟨rfl, ⟨hsz, hP, hK, hD0⟩, htoss⟩ := hv
  have hx := B.exec
  have hb := B.bytes
  have hr := B.returns
  have hts := atoms_spec (ws := wsX7_toss) B.pre
  have hown : s.vm.findClass RX7 = some m.cls := findClass_of_methodNamed B.named
  have hlocks := B.notSynchronized
  have htab : c.exceptionTable.toList = tableOf [(34, 38, 41, 274), (34, 38, 52, 246), (34, 38, 62, 253)] := vx_table (x := yX7_toss) B (hts _ List.mem_cons_self)
  subst hsz
  have hD := hD0.self (sz := s.heap.size)
  generalize hAe : va_A [(aS, .inr (6, [.ref aNow, .ref aKept, .ref aMind, .ref aS_shelves, .int S_isKept, va_rf S_ways])), (aS_shelves, .inl (cS, 8, .inr (.inr (.inr (.inr S_shelves))))), (aT, .inr (4, [.ref aT_numbers, .int T_holds, .null, .int T_sort, .int T_size])), (aT_numbers, .inl (cI, 100, .inl T_numbers))] s.heap.size = A at hD htoss ⊢
  have hA : ∀ q : Nat, s.heap.size ≤ q → A q := fun q h => by rw [← hAe]; exact Or.inr h
  have hS : va_S A s.heap s.heap [] := va_S.rf
  have hl := lv_entry ([.ref aS, .int x1]) (n := 5) (Nat.le_of_ble_eq_true rfl)
  rw [lg_entry_eq]
  generalize (lg_sl ([.ref aS, .int x1]) ++ List.replicate (5 - (lg_sl ([.ref aS, .int x1])).length) Slot.unset).toArray = ls at hl ⊢
  have hl : lv_has ls 5 [(0, .ref aS), (1, .int x1)] := hl
  unfold f_X7_toss_N at h
  refine lv_aload_n hx hb dX7_toss_0 rfl (lv_at hl 0 rfl) ?_
  refine lv_iload_n hx hb dX7_toss_1 rfl (lv_at hl 1 rfl) ?_
  obtain ⟨r_1, hg, h⟩ := bd_some h
  refine rdV (As := [.int x1]) (rest := []) (ci := 6) ⟨hx, hb, hml, hown, hts⟩ (k_X7_isShelf l dC dI cI cZ cS N aS aNow aKept aMind aS_shelves S_isKept S_ways x1 r_1 hg) (cwV 1 hts gX7_toss_X7_isShelf rfl rfl rfl cd_X7_isShelf ⟨Nat.le_of_ble_eq_true rfl, Nat.le_of_ble_eq_true rfl⟩) hP hD hK [0] (by decide) rfl rfl rfl rfl hl.1 rfl (Nat.le_of_ble_eq_true rfl) dX7_toss_2 ⟨Nat.zero_le _, Nat.zero_le _⟩ ?_
  refine lv_if_eq (tgt := 16) hx hb dX7_toss_5 (by decide) (fun c_2 => ?_) (fun c_2 => ?_)
  · have h := it_p c_2 h
    have h := Option.some.inj h
    refine lv_iconst (v := (-1)) hx hb dX7_toss_16 (by decide) ?_
    refine lv_istore_n (lv' := [(2, .int (-1)), (0, .ref aS), (1, .int x1)]) hx hb dX7_toss_17 rfl hl (by decide) rfl (fun ls hl => ?_)
    refine lv_iload_n hx hb dX7_toss_18 rfl (lv_at hl 0 rfl) ?_
    refine lv_if_eq (tgt := 24) hx hb dX7_toss_19 (by decide) (fun c_3 => absurd c_3 (by decide)) (fun c_3 => ?_)
    refine lv_iload_n hx hb dX7_toss_22 rfl (lv_at hl 0 rfl) ?_
    refine W.widen (k := 1) (n := 6) (by omega) (by omega) ?_
    exact vx_ret (W.iret hx hb hr (fun t ht hW => ⟨⟨_, (), rfl, h, by rw [ht]; exact hP, va_K.moved hW.alike hK, hD⟩, hS.F ht⟩) hS.2.2 dX7_toss_23)
  · have h := it_n c_2 h
    refine lv_aload_n hx hb dX7_toss_8 rfl (lv_at hl 0 rfl) ?_
    refine lv_iload_n hx hb dX7_toss_9 rfl (lv_at hl 1 rfl) ?_
    obtain ⟨r_2, hg, h⟩ := bd_some h
    refine rdV (As := [.int x1]) (rest := []) (ci := 6) ⟨hx, hb, hml, hown, hts⟩ (k_X7_refusalOfLaying_N l dC dI cI cZ cS N aS aS_shelves aT aT_numbers aNow aKept aMind S_shelves S_isKept S_ways T_numbers T_holds T_sort T_size x1 hd r_2 hg) (cwV 1 hts gX7_toss_X7_refusalOfLaying rfl rfl rfl cd_X7_refusalOfLaying ⟨Nat.le_of_ble_eq_true rfl, Nat.le_of_ble_eq_true rfl⟩) hP hD hK [0, 1, 2, 3] (by decide) rfl rfl rfl rfl hl.1 rfl (Nat.le_of_ble_eq_true rfl) dX7_toss_10 ⟨Nat.zero_le _, Nat.zero_le _⟩ ?_
    refine lv_goto (tgt := 17) hx hb dX7_toss_13 (by decide) ?_
    refine lv_istore_n (lv' := [(2, .int r_2), (0, .ref aS), (1, .int x1)]) hx hb dX7_toss_17 rfl hl (by decide) rfl (fun ls hl => ?_)
    refine lv_iload_n hx hb dX7_toss_18 rfl (lv_at hl 0 rfl) ?_
    refine lv_if_eq (tgt := 24) hx hb dX7_toss_19 (by decide) (fun c_3 => ?_) (fun c_3 => ?_)
    · have h := it_p c_3 h
      cases h
    · have h := it_n c_3 h
      have h := Option.some.inj h
      refine lv_iload_n hx hb dX7_toss_22 rfl (lv_at hl 0 rfl) ?_
      refine W.widen (k := 1) (n := 6) (by omega) (by omega) ?_
      exact vx_ret (W.iret hx hb hr (fun t ht hW => ⟨⟨_, (), rfl, h, by rw [ht]; exact hP, va_K.moved hW.alike hK, hD⟩, hS.F ht⟩) hS.2.2 dX7_toss_23)
set_option maxHeartbeats 4000000 in
set_option maxRecDepth 100000 in
theorem k_X7_toss_L (l : Launch) (hst : l.stackTraces = false) (dC : Nat → ClassId) (dI : Nat → Nat → Nat) (cI cZ cS : ClassId) (N : Nat) (aS aS_shelves aT aT_numbers aY aNow aKept aMind : Nat) (sz : Nat) (S_shelves : Nat → Option Nat) (S_isKept : Int32) (S_ways : Option Nat) (T_numbers : Nat → Int32) (T_holds : Int32) (T_sort : Int32) (T_size : Int32) (Y_kind Y_figure : Int32) (x1 : Int32) (sa1 sa2 sa3 : Nat) (hd : gi x1 8 = true → S_shelves x1.toNatClampNeg = some aT) (res : Int32) (h : f_X7_toss_L N S_shelves T_holds Y_kind Y_figure x1 = some res) : Met l yX7_toss wsX7_toss ({ frames := 7, cells := 1, slots := 6, locals := 140 }) (va_Pc [.ref aS, .int x1] (fun U => preW (dC, dI) cI cZ cS [(aS, .inr (6, [.ref aNow, .ref aKept, .ref aMind, .ref aS_shelves, .int S_isKept, va_rf S_ways])), (aS_shelves, .inl (cS, 8, .inr (.inr (.inr (.inr S_shelves))))), (aT, .inr (4, [.ref aT_numbers, .int T_holds, .ref aY, .int T_sort, .int T_size])), (aT_numbers, .inl (cI, 100, .inl T_numbers)), (aY, .inr (1, [.int Y_kind, .int Y_figure]))] sz U ∧ tossS (va_A [(aS, .inr (6, [.ref aNow, .ref aKept, .ref aMind, .ref aS_shelves, .int S_isKept, va_rf S_ways])), (aS_shelves, .inl (cS, 8, .inr (.inr (.inr (.inr S_shelves))))), (aT, .inr (4, [.ref aT_numbers, .int T_holds, .ref aY, .int T_sort, .int T_size])), (aT_numbers, .inl (cI, 100, .inl T_numbers)), (aY, .inr (1, [.int Y_kind, .int Y_figure]))] sz) sa1 sa2 sa3 U)) (va_Qi (fun (r : Int32) (_ : Unit) => r = res) (fun _ => qW (dC, dI) cI cZ cS (va_A [(aS, .inr (6, [.ref aNow, .ref aKept, .ref aMind, .ref aS_shelves, .int S_isKept, va_rf S_ways])), (aS_shelves, .inl (cS, 8, .inr (.inr (.inr (.inr S_shelves))))), (aT, .inr (4, [.ref aT_numbers, .int T_holds, .ref aY, .int T_sort, .int T_size])), (aT_numbers, .inl (cI, 100, .inl T_numbers)), (aY, .inr (1, [.int Y_kind, .int Y_figure]))] sz) [(aS, .inr (6, [.ref aNow, .ref aKept, .ref aMind, .ref aS_shelves, .int S_isKept, va_rf S_ways])), (aS_shelves, .inl (cS, 8, .inr (.inr (.inr (.inr S_shelves))))), (aT, .inr (4, [.ref aT_numbers, .int T_holds, .ref aY, .int T_sort, .int T_size])), (aT_numbers, .inl (cI, 100, .inl T_numbers)), (aY, .inr (1, [.int Y_kind, .int Y_figure]))]) (va_A [(aS, .inr (6, [.ref aNow, .ref aKept, .ref aMind, .ref aS_shelves, .int S_isKept, va_rf S_ways])), (aS_shelves, .inl (cS, 8, .inr (.inr (.inr (.inr S_shelves))))), (aT, .inr (4, [.ref aT_numbers, .int T_holds, .ref aY, .int T_sort, .int T_size])), (aT_numbers, .inl (cI, 100, .inl T_numbers)), (aY, .inr (1, [.int Y_kind, .int Y_figure]))] sz)) 1 6 (va_A [(aS, .inr (6, [.ref aNow, .ref aKept, .ref aMind, .ref aS_shelves, .int S_isKept, va_rf S_ways])), (aS_shelves, .inl (cS, 8, .inr (.inr (.inr (.inr S_shelves))))), (aT, .inr (4, [.ref aT_numbers, .int T_holds, .ref aY, .int T_sort, .int T_size])), (aT_numbers, .inl (cI, 100, .inl T_numbers)), (aY, .inr (1, [.int Y_kind, .int Y_figure]))] sz) := by
  refine met_of_vx ?_
  refine vx_ofWH (cc := cX7_toss) (maxL := 5) (ret := (some .int)) (hh := [(34, 38, 41, 274), (34, 38, 52, 246), (34, 38, 62, 253)]) (by decide) rfl ?_
  intro p e s m args below meth c s₁ B hml hv
  obtain ⟨rfl, ⟨hsz, hP, hK, hD0⟩, htoss⟩ := hv
  have hx := B.exec
  have hb := B.bytes
  have hr := B.returns
  have hts := atoms_spec (ws := wsX7_toss) B.pre
  have hown : s.vm.findClass RX7 = some m.cls := findClass_of_methodNamed B.named
  have hlocks := B.notSynchronized
  have htab : c.exceptionTable.toList = tableOf [(34, 38, 41, 274), (34, 38, 52, 246), (34, 38, 62, 253)] := vx_table (x := yX7_toss) B (hts _ List.mem_cons_self)
  subst hsz
  have hD := hD0.self (sz := s.heap.size)
  generalize hAe : va_A [(aS, .inr (6, [.ref aNow, .ref aKept, .ref aMind, .ref aS_shelves, .int S_isKept, va_rf S_ways])), (aS_shelves, .inl (cS, 8, .inr (.inr (.inr (.inr S_shelves))))), (aT, .inr (4, [.ref aT_numbers, .int T_holds, .ref aY, .int T_sort, .int T_size])), (aT_numbers, .inl (cI, 100, .inl T_numbers)), (aY, .inr (1, [.int Y_kind, .int Y_figure]))] s.heap.size = A at hD htoss ⊢
  have hA : ∀ q : Nat, s.heap.size ≤ q → A q := fun q h => by rw [← hAe]; exact Or.inr h
  have hS : va_S A s.heap s.heap [] := va_S.rf
  have hl := lv_entry ([.ref aS, .int x1]) (n := 5) (Nat.le_of_ble_eq_true rfl)
  rw [lg_entry_eq]
  generalize (lg_sl ([.ref aS, .int x1]) ++ List.replicate (5 - (lg_sl ([.ref aS, .int x1])).length) Slot.unset).toArray = ls at hl ⊢
  have hl : lv_has ls 5 [(0, .ref aS), (1, .int x1)] := hl
  unfold f_X7_toss_L at h
  refine lv_aload_n hx hb dX7_toss_0 rfl (lv_at hl 0 rfl) ?_
  refine lv_iload_n hx hb dX7_toss_1 rfl (lv_at hl 1 rfl) ?_
  obtain ⟨r_1, hg, h⟩ := bd_some h
  refine rdV (As := [.int x1]) (rest := []) (ci := 6) ⟨hx, hb, hml, hown, hts⟩ (k_X7_isShelf l dC dI cI cZ cS N aS aNow aKept aMind aS_shelves S_isKept S_ways x1 r_1 hg) (cwV 1 hts gX7_toss_X7_isShelf rfl rfl rfl cd_X7_isShelf ⟨Nat.le_of_ble_eq_true rfl, Nat.le_of_ble_eq_true rfl⟩) hP hD hK [0] (by decide) rfl rfl rfl rfl hl.1 rfl (Nat.le_of_ble_eq_true rfl) dX7_toss_2 ⟨Nat.zero_le _, Nat.zero_le _⟩ ?_
  refine lv_if_eq (tgt := 16) hx hb dX7_toss_5 (by decide) (fun c_2 => ?_) (fun c_2 => ?_)
  · have h := it_p c_2 h
    have h := Option.some.inj h
    refine lv_iconst (v := (-1)) hx hb dX7_toss_16 (by decide) ?_
    refine lv_istore_n (lv' := [(2, .int (-1)), (0, .ref aS), (1, .int x1)]) hx hb dX7_toss_17 rfl hl (by decide) rfl (fun ls hl => ?_)
    refine lv_iload_n hx hb dX7_toss_18 rfl (lv_at hl 0 rfl) ?_
    refine lv_if_eq (tgt := 24) hx hb dX7_toss_19 (by decide) (fun c_3 => absurd c_3 (by decide)) (fun c_3 => ?_)
    refine lv_iload_n hx hb dX7_toss_22 rfl (lv_at hl 0 rfl) ?_
    refine W.widen (k := 1) (n := 6) (by omega) (by omega) ?_
    exact vx_ret (W.iret hx hb hr (fun t ht hW => ⟨⟨_, (), rfl, h, by rw [ht]; exact hP, va_K.moved hW.alike hK, hD⟩, hS.F ht⟩) hS.2.2 dX7_toss_23)
  · have h := it_n c_2 h
    refine lv_aload_n hx hb dX7_toss_8 rfl (lv_at hl 0 rfl) ?_
    refine lv_iload_n hx hb dX7_toss_9 rfl (lv_at hl 1 rfl) ?_
    obtain ⟨r_2, hg, h⟩ := bd_some h
    refine rdV (As := [.int x1]) (rest := []) (ci := 6) ⟨hx, hb, hml, hown, hts⟩ (k_X7_refusalOfLaying_L l dC dI cI cZ cS N aS aS_shelves aT aT_numbers aY aNow aKept aMind S_shelves S_isKept S_ways T_numbers T_holds T_sort T_size Y_kind Y_figure x1 hd r_2 hg) (cwV 1 hts gX7_toss_X7_refusalOfLaying rfl rfl rfl cd_X7_refusalOfLaying ⟨Nat.le_of_ble_eq_true rfl, Nat.le_of_ble_eq_true rfl⟩) hP hD hK [0, 1, 2, 3, 4] (by decide) rfl rfl rfl rfl hl.1 rfl (Nat.le_of_ble_eq_true rfl) dX7_toss_10 ⟨Nat.zero_le _, Nat.zero_le _⟩ ?_
    refine lv_goto (tgt := 17) hx hb dX7_toss_13 (by decide) ?_
    refine lv_istore_n (lv' := [(2, .int r_2), (0, .ref aS), (1, .int x1)]) hx hb dX7_toss_17 rfl hl (by decide) rfl (fun ls hl => ?_)
    refine lv_iload_n hx hb dX7_toss_18 rfl (lv_at hl 0 rfl) ?_
    refine lv_if_eq (tgt := 24) hx hb dX7_toss_19 (by decide) (fun c_3 => ?_) (fun c_3 => ?_)
    · have h := it_p c_3 h
      refine lv_aload_n hx hb dX7_toss_24 rfl (lv_at hl 1 rfl) ?_
      refine va_get (D := (dC, dI)) (ci := 6) (v := .ref aS_shelves) (C := RX7) (T := TX7) (N := 6) hx hb hts (fun _ h => List.mem_cons_of_mem _ (List.mem_append_left _ (List.mem_append_left _ (List.mem_append_left _ (List.mem_append_left _ (List.mem_append_left _ (List.mem_append_right _ h))))))) hown hK hP 0 rfl rfl 3 (by decide) (hts (.fieldLink RX7 24 "SlateRows" "shelves" "[LSlateRows$Shelf;") (by decide +kernel)) (fun _ h9 => h9) rfl dX7_toss_25 ?_
      refine lv_iload_n hx hb dX7_toss_28 rfl (lv_at hl 2 rfl) ?_
      obtain ⟨hi, h⟩ := ck_some h
      refine va_aldq hx hb hK hP 1 2 rfl rfl (gi_in hi) dX7_toss_29 ?_
      rw [hd hi]
      show W _ _ _ _ _ _ _ _ _ _ _ _ _ _ _ (F0 _ _ _ [.ref aT])
      refine va_get (D := (dC, dI)) (ci := 4) (v := .ref aY) (C := RX4) (T := TX4) (N := 5) hx hb hts (fun _ h => List.mem_cons_of_mem _ (List.mem_append_left _ (List.mem_append_left _ (List.mem_append_left _ (List.mem_append_left _ (List.mem_append_right _ h)))))) hown hK hP 2 rfl rfl 2 (by decide) (hts (.fieldLink RX7 193 "SlateRows$Shelf" "laying" "LSlateRows$Laying;") (by decide +kernel)) (fun _ h9 => h9) rfl dX7_toss_30 ?_
      refine lv_astore_n (lv' := [(3, .ref aY), (2, .int r_2), (0, .ref aS), (1, .int x1)]) hx hb dX7_toss_33 rfl hl (by decide) rfl (fun ls hl => ?_)
      refine lv_aload_n hx hb dX7_toss_34 rfl (lv_at hl 0 rfl) ?_
      obtain ⟨k4, hg, h⟩ := bd_some h
      have hPc := hP.sub (ws' := [(aY, .inr (1, [.int Y_kind, .int Y_figure]))]) [4] rfl
      have hDc := hD.sub (ws' := [(aY, .inr (1, [.int Y_kind, .int Y_figure]))]) [4] (by decide) rfl
      have hFc := va_free (wc := [(aY, .inr (1, [.int Y_kind, .int Y_figure]))]) hD hS hA [4] rfl
      obtain ⟨ht1, hk1s, hk2s, hk3s, hn1, hn2, hn3⟩ := htoss
      refine vx_callv (vx_runV (g := F0 m 35 ls [.ref aY]) (As := []) (rest := []) ⟨hx, hb, hml, hown, hts⟩ (k_X1_fail l hst dC dI cI cZ cS N aY s.heap.size Y_kind Y_figure sa1 sa2 sa3 k4 hg) (cwV 0 hts gX7_toss_X1_fail rfl rfl rfl (by decide +kernel) ⟨Nat.le_of_ble_eq_true rfl, Nat.le_of_ble_eq_true rfl⟩) ⟨fun a U g9 mk q => ⟨q.1, ⟨q.2.1.1, q.2.1.2.1, va_K.moved (u := U) (U := U.calling g9 mk a) (Vm.Alike.refl U.vm) q.2.1.2.2.1, q.2.1.2.2.2⟩, ⟨⟨vx_Zq.moved (u := U) (U := U.calling g9 mk a) (Vm.Alike.refl U.vm) q.2.2.1.1.1, vx_Zq.moved (u := U) (U := U.calling g9 mk a) (Vm.Alike.refl U.vm) q.2.2.1.1.2⟩, fun w hw => va_Nw.same (u := U) (U := U.calling g9 mk a) (ngW_ot w hw) rfl (q.2.2.1.2 w hw)⟩, vk_R.same (u := U) (U := U.calling g9 mk a) rfl q.2.2.2.1, vk_R.same (u := U) (U := U.calling g9 mk a) rfl q.2.2.2.2.1, vk_R.same (u := U) (U := U.calling g9 mk a) rfl q.2.2.2.2.2⟩, va_recv hK hPc (ci := 1) (q0 := 0) rfl rfl, fun U hU hW => ⟨rfl, ⟨by rw [hU], wd_of hPc hDc hK hU hW⟩, thrS.moved hU hW hFc ht1, vk_R.warm hW hk1s, vk_R.warm hW hk2s, vk_R.warm hW hk3s⟩⟩ rfl rfl hl.1 rfl (lv_room (Nat.le_of_ble_eq_true rfl)) dX7_toss_35 ⟨Nat.le_of_ble_eq_true rfl, Nat.le_of_ble_eq_true rfl⟩) hS (fun q _ h => hFc q h) hFc (fun q _ h => hFc q h) (fun E ce q9 u t H1 locs1 ht hvm hpx hBX hz1 hk1 hS1 hce hcv hcl => ?_) (fun u t H1 locs1 ht hvm hw hB hz1 hk1 hS1 => ?_)
      · obtain ⟨hE, hP1, hK1, hD1⟩ := hBX
        rw [ht] at hP1
        obtain ⟨hP, hD⟩ := va_join (wr := [(aS, .inr (6, [.ref aNow, .ref aKept, .ref aMind, .ref aS_shelves, .int S_isKept, va_rf S_ways])), (aS_shelves, .inl (cS, 8, .inr (.inr (.inr (.inr S_shelves))))), (aT, .inr (4, [.ref aT_numbers, .int T_holds, .ref aY, .int T_sort, .int T_size])), (aT_numbers, .inl (cI, 100, .inl T_numbers))]) (w1 := [(aY, .inr (1, [.int Y_kind, .int Y_figure]))]) hP hD [4] [0, 1, 2, 3] rfl rfl (by decide) (by decide) hk1 hFc hP1 hD1
        rcases hE with ⟨hkE, hE⟩ | ⟨hkE, hE⟩ | ⟨hkE, hE⟩ <;> subst hkE
        · refine vx_widen (k := 1) (n := 6) (by omega) (by omega) ?_
          subst hE
          refine vx_catch (own := RX7) (name := "java/lang/UnsupportedOperationException") hown [] (⟨34, 38, 41, 274⟩ : ExceptionTableEntry) [(⟨34, 38, 52, 246⟩ : ExceptionTableEntry), (⟨34, 38, 62, 253⟩ : ExceptionTableEntry)] htab (fun z hz => by cases hz) (by decide) (by decide) (hts (.classLink RX7 274 "java/lang/UnsupportedOperationException") (by decide +kernel)) (ngW_use ht1.2 (.castable "java/lang/UnsupportedOperationException" "java/lang/UnsupportedOperationException") (by decide +kernel)) hce hcv hcl ?_
          have h := it_p (show (1 : Nat) = 1 from rfl) (it_n (show ¬ (1 : Nat) = 0 by decide) h)
          refine lv_astore (lv' := [(4, .ref q9), (3, .ref aY), (2, .int r_2), (0, .ref aS), (1, .int x1)]) hx hb dX7_toss_41 hl (by decide) rfl (fun ls hl => ?_)
          obtain ⟨r_4, hg, h⟩ := bd_some h
          have h := Option.some.inj h
          refine lv_sipush (v := 200) hx hb dX7_toss_43 (by decide) ?_
          refine lv_aload_n hx hb dX7_toss_46 rfl (lv_at hl 1 rfl) ?_
          refine rdV (As := []) (rest := [.int 200]) (ci := 1) ⟨hx, hb, hml, hown, hts⟩ (k_X1_effort l dC dI cI cZ cS N aY Y_kind Y_figure r_4 hg) (cwV 0 hts gX7_toss_X1_effort rfl rfl rfl cd_X1_effort ⟨Nat.le_of_ble_eq_true rfl, Nat.le_of_ble_eq_true rfl⟩) hP hD hK [4] (by decide) rfl rfl rfl rfl hl.1 rfl (Nat.le_of_ble_eq_true rfl) dX7_toss_47 ⟨Nat.le_of_ble_eq_true rfl, Nat.le_of_ble_eq_true rfl⟩ ?_
          refine lv_iadd hx hb dX7_toss_50 ?_
          exact vx_ret (W.iret hx hb hr (fun t9 ht9 hW9 => ⟨⟨_, (), rfl, h, by rw [ht9]; exact hP, va_K.moved hW9.alike hK, hD⟩, hS1.F ht9⟩) hS1.2.2 dX7_toss_51)
        · refine vx_widen (k := 1) (n := 6) (by omega) (by omega) ?_
          subst hE
          refine vx_catch (own := RX7) (name := "java/lang/IllegalArgumentException") hown [(⟨34, 38, 41, 274⟩ : ExceptionTableEntry)] (⟨34, 38, 52, 246⟩ : ExceptionTableEntry) [(⟨34, 38, 62, 253⟩ : ExceptionTableEntry)] htab (fun z hz => by rcases List.mem_singleton.mp hz with rfl; exact Or.inr ⟨by decide, _, hts (.classLink RX7 274 "java/lang/UnsupportedOperationException") (by decide +kernel), hn1⟩) (by decide) (by decide) (hts (.classLink RX7 246 "java/lang/IllegalArgumentException") (by decide +kernel)) (ngW_use ht1.2 (.castable "java/lang/IllegalArgumentException" "java/lang/IllegalArgumentException") (by decide +kernel)) hce hcv hcl ?_
          have h := it_p (show (2 : Nat) = 2 from rfl) (it_n (show ¬ (2 : Nat) = 1 by decide) (it_n (show ¬ (2 : Nat) = 0 by decide) h))
          refine lv_astore (lv' := [(4, .ref q9), (3, .ref aY), (2, .int r_2), (0, .ref aS), (1, .int x1)]) hx hb dX7_toss_52 hl (by decide) rfl (fun ls hl => ?_)
          have h := Option.some.inj h
          refine lv_bipush (v := 100) hx hb dX7_toss_54 (by decide) ?_
          refine lv_aload_n hx hb dX7_toss_56 rfl (lv_at hl 1 rfl) ?_
          refine va_get (D := (dC, dI)) (ci := 1) (v := .int Y_figure) (C := RX1) (T := TX1) (N := 2) hx hb hts (fun _ h => List.mem_cons_of_mem _ (List.mem_append_left _ (List.mem_append_left _ (List.mem_append_left _ (List.mem_append_right _ h))))) hown hK hP 4 rfl rfl 1 (by decide) (hts (.fieldLink RX7 276 "SlateRows$Laying" "figure" "I") (by decide +kernel)) (fun _ h9 => h9) rfl dX7_toss_57 ?_
          refine lv_iadd hx hb dX7_toss_60 ?_
          exact vx_ret (W.iret hx hb hr (fun t9 ht9 hW9 => ⟨⟨_, (), rfl, h, by rw [ht9]; exact hP, va_K.moved hW9.alike hK, hD⟩, hS1.F ht9⟩) hS1.2.2 dX7_toss_61)
        · refine vx_widen (k := 1) (n := 6) (by omega) (by omega) ?_
          subst hE
          refine vx_catch (own := RX7) (name := "java/lang/IllegalStateException") hown [(⟨34, 38, 41, 274⟩ : ExceptionTableEntry), (⟨34, 38, 52, 246⟩ : ExceptionTableEntry)] (⟨34, 38, 62, 253⟩ : ExceptionTableEntry) [] htab (fun z hz => by rcases List.mem_cons.mp hz with rfl | hz; exact Or.inr ⟨by decide, _, hts (.classLink RX7 274 "java/lang/UnsupportedOperationException") (by decide +kernel), hn2⟩; rcases List.mem_singleton.mp hz with rfl; exact Or.inr ⟨by decide, _, hts (.classLink RX7 246 "java/lang/IllegalArgumentException") (by decide +kernel), hn3⟩) (by decide) (by decide) (hts (.classLink RX7 253 "java/lang/IllegalStateException") (by decide +kernel)) (ngW_use ht1.2 (.castable "java/lang/IllegalStateException" "java/lang/IllegalStateException") (by decide +kernel)) hce hcv hcl ?_
          have h := it_n (show ¬ (3 : Nat) = 2 by decide) (it_n (show ¬ (3 : Nat) = 1 by decide) (it_n (show ¬ (3 : Nat) = 0 by decide) h))
          refine lv_astore (lv' := [(4, .ref q9), (3, .ref aY), (2, .int r_2), (0, .ref aS), (1, .int x1)]) hx hb dX7_toss_62 hl (by decide) rfl (fun ls hl => ?_)
          have h := Option.some.inj h
          refine lv_aload_n hx hb dX7_toss_64 rfl (lv_at hl 1 rfl) ?_
          refine va_get (D := (dC, dI)) (ci := 1) (v := .int Y_figure) (C := RX1) (T := TX1) (N := 2) hx hb hts (fun _ h => List.mem_cons_of_mem _ (List.mem_append_left _ (List.mem_append_left _ (List.mem_append_left _ (List.mem_append_right _ h))))) hown hK hP 4 rfl rfl 1 (by decide) (hts (.fieldLink RX7 276 "SlateRows$Laying" "figure" "I") (by decide +kernel)) (fun _ h9 => h9) rfl dX7_toss_65 ?_
          exact vx_ret (W.iret hx hb hr (fun t9 ht9 hW9 => ⟨⟨_, (), rfl, h, by rw [ht9]; exact hP, va_K.moved hW9.alike hK, hD⟩, hS1.F ht9⟩) hS1.2.2 dX7_toss_68)
      · obtain ⟨hP1, hK1, hD1⟩ := hB
        rw [ht] at hP1
        obtain ⟨hP, hD⟩ := va_join (wr := [(aS, .inr (6, [.ref aNow, .ref aKept, .ref aMind, .ref aS_shelves, .int S_isKept, va_rf S_ways])), (aS_shelves, .inl (cS, 8, .inr (.inr (.inr (.inr S_shelves))))), (aT, .inr (4, [.ref aT_numbers, .int T_holds, .ref aY, .int T_sort, .int T_size])), (aT_numbers, .inl (cI, 100, .inl T_numbers))]) (w1 := [(aY, .inr (1, [.int Y_kind, .int Y_figure]))]) hP hD [4] [0, 1, 2, 3] rfl rfl (by decide) (by decide) hk1 hFc hP1 hD1
        subst hw
        have h := it_p (show (0 : Nat) = 0 from rfl) h
        have h := Option.some.inj h
        refine lv_goto (tgt := 69) hx hb dX7_toss_38 (by decide) ?_
        refine lv_bipush (v := (-15)) hx hb dX7_toss_69 (by decide) ?_
        exact vx_ret (W.iret hx hb hr (fun t9 ht9 hW9 => ⟨⟨_, (), rfl, h, by rw [ht9]; exact hP, va_K.moved hW9.alike hK, hD⟩, hS1.F ht9⟩) hS1.2.2 dX7_toss_71)
    · have h := it_n c_3 h
      have h := Option.some.inj h
      refine lv_iload_n hx hb dX7_toss_22 rfl (lv_at hl 0 rfl) ?_
      refine W.widen (k := 1) (n := 6) (by omega) (by omega) ?_
      exact vx_ret (W.iret hx hb hr (fun t ht hW => ⟨⟨_, (), rfl, h, by rw [ht]; exact hP, va_K.moved hW.alike hK, hD⟩, hS.F ht⟩) hS.2.2 dX7_toss_23)
section RTO
variable {N : Nat} {kp kk kf : Nat → Int32} {hold : Int32} {Sh : Nat → Option Nat}
theorem r_toss_L {x1 : Int32} {k f : Nat} (hT : ∀ dd, dd < 8 → x1 = nI dd → kp dd = hold ∧ hold = 1 ∧ kk dd = nI k ∧ kf dd = nI f ∧ k ≤ 6 ∧ f ≤ 9) : ∃ a, f_X7_toss_L N Sh hold (nI k) (nI f) x1 = some a ∧ f_X8_toss N kp kk kf x1 = some a := by
  unfold f_X7_toss_L f_X8_toss
  rw [c_isShelf, bs]
  cases hb : inB x1 8 with
  | false =>
    rw [if_pos (show b2i false = 0 from rfl), wrongL_out hb, bs, if_neg (show ¬ (-1 : Int32) = 0 by decide)]
    exact ⟨_, rfl, rfl⟩
  | true =>
    obtain ⟨dd, hd, hx⟩ := inB_t (by omega) hb
    obtain ⟨t1, t2, t3, t4, t5, t6⟩ := hT dd hd hx
    obtain ⟨a1, a2⟩ := (r_wrongL (N := N) (Sh := Sh) hd hx t1 (Or.inr (Or.inl t2))).1 t2
    obtain ⟨e, b1, b2⟩ := r_effort (N := N) (kk := kk) (kf := kf) hd t3 t4 t5 t6
    subst hx
    rw [if_neg (show ¬ b2i true = 0 by decide), a1, bs, if_pos rfl, a2, bs, if_pos rfl]
    simp only [giT (show dd < 8 by omega) (show 8 < 2 ^ 31 by omega), ck_t, cl_nI (show dd < 2 ^ 31 by omega), t3, t4]
    unfold f_X1_fail f_X1_isHanded
    by_cases hf0 : nI f = 0
    · rw [if_pos hf0, bs, if_pos rfl]
      by_cases h4 : nI k = 4
      · rw [if_pos h4]
        exact ⟨_, rfl, rfl⟩
      · rw [if_neg h4, if_pos hf0]
        exact ⟨_, rfl, rfl⟩
    · rw [if_neg hf0]
      by_cases h4 : nI k = 4
      · rw [if_pos h4, if_pos h4, bs, if_pos rfl]
        exact ⟨_, rfl, rfl⟩
      · rw [if_neg h4, if_neg h4, if_neg hf0]
        by_cases h6 : nI k = 6
        · rw [if_pos h6, bs, if_neg (show ¬ (1 : Nat) = 0 by decide), if_pos rfl, b1, bs, if_neg (show ¬ nI k = 2 by rw [h6]; decide), if_neg (show ¬ nI k = 5 by rw [h6]; decide), if_pos h6, b2, bs]
          exact ⟨_, rfl, rfl⟩
        · rw [if_neg h6]
          by_cases h2 : nI k = 2
          · rw [if_pos h2, if_pos h2, bs, if_neg (show ¬ b2i true = 0 by decide), bs, if_neg (show ¬ (2 : Nat) = 0 by decide), if_neg (show ¬ (2 : Nat) = 1 by decide), if_pos rfl]
            exact ⟨_, rfl, rfl⟩
          · rw [if_neg h2, if_neg h2]
            by_cases h5 : nI k = 5
            · rw [if_pos h5, if_pos h5, bs, if_neg (show ¬ b2i true = 0 by decide), bs, if_neg (show ¬ (2 : Nat) = 0 by decide), if_neg (show ¬ (2 : Nat) = 1 by decide), if_pos rfl]
              exact ⟨_, rfl, rfl⟩
            · rw [if_neg h5, if_neg h5, bs, if_pos (show b2i false = 0 from rfl), bs, if_neg (show ¬ (3 : Nat) = 0 by decide), if_neg (show ¬ (3 : Nat) = 1 by decide), if_neg (show ¬ (3 : Nat) = 2 by decide), if_neg h6]
              exact ⟨_, rfl, rfl⟩
theorem r_toss_N {x1 : Int32} (hT : ∀ dd, dd < 8 → x1 = nI dd → kp dd = hold ∧ (hold = 0 ∨ hold = 2)) : ∃ a, f_X7_toss_N N Sh hold x1 = some a ∧ f_X8_toss N kp kk kf x1 = some a := by
  unfold f_X7_toss_N f_X8_toss
  rw [c_isShelf, bs]
  cases hb : inB x1 8 with
  | false =>
    rw [if_pos (show b2i false = 0 from rfl), wrongL_out hb, bs, if_neg (show ¬ (-1 : Int32) = 0 by decide)]
    exact ⟨_, rfl, rfl⟩
  | true =>
    obtain ⟨dd, hd, hx⟩ := inB_t (by omega) hb
    obtain ⟨t1, t2⟩ := hT dd hd hx
    have hn1 : ¬ hold = 1 := by
      rcases t2 with e | e <;> rw [e] <;> decide
    obtain ⟨a, a0, a1, a2⟩ := (r_wrongL (N := N) (Sh := Sh) hd hx t1 (by rcases t2 with e | e; exact Or.inl e; exact Or.inr (Or.inr e))).2 hn1
    rw [if_neg (show ¬ b2i true = 0 by decide), a1, bs, if_neg a0, a2, bs, if_neg a0]
    exact ⟨_, rfl, rfl⟩
end RTO
