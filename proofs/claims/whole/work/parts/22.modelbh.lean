theorem cd_X8_two : yX8_two.cls = RX8 ∧ yX8_two.cls ≠ "java/lang/invoke/MethodHandle" ∧ yX8_two.cls ≠ "java/lang/invoke/VarHandle" ∧ (parseMethodDescriptor yX8_two.desc).map (fun d => d.parameters.length) = some 2 := by decide +kernel
theorem cd_X8_heapWorth : yX8_heapWorth.cls = RX8 ∧ yX8_heapWorth.cls ≠ "java/lang/invoke/MethodHandle" ∧ yX8_heapWorth.cls ≠ "java/lang/invoke/VarHandle" ∧ (parseMethodDescriptor yX8_heapWorth.desc).map (fun d => d.parameters.length) = some 0 := by decide +kernel
def f_X8_two_L137 (N : Nat) (M_s : Nat → Int32) (M_isOne : Nat → Int32) (M_isTwo : Nat → Int32) (K113 : Int32 → Int32 → Option (Int32 × (Nat → Int32) × (Nat → Int32) × (Nat → Int32))) (x4 : Int32) : Nat → Int32 → Int32 → Option (Int32 × (Nat → Int32) × (Nat → Int32) × (Nat → Int32))
  | 0, _, _ => none
  | n + 1, v3, v5 =>
    if 28561 ≤ v5 then (K113 v3 (x4 + 1)) else (ck (gi v5 28561) (if (M_isTwo v5.toNatClampNeg) = 0 then (f_X8_two_L137 N M_s M_isOne M_isTwo K113 x4 n v3 (v5 + 1)) else ((f_X8_isThere N M_s x4 v5).bind fun r_19 => if (b2i r_19) = 0 then (f_X8_two_L137 N M_s M_isOne M_isTwo K113 x4 n v3 (v5 + 1)) else ((f_X8_worthOf N M_s x4).bind fun r_21 => (f_X8_worthOf N M_s v5).bind fun r_22 => if v3 < 0 then (f_X8_two_L137 N M_s M_isOne M_isTwo K113 x4 n (r_21 + r_22) (v5 + 1)) else (if v3 ≤ (r_21 + r_22) then (f_X8_two_L137 N M_s M_isOne M_isTwo K113 x4 n v3 (v5 + 1)) else (f_X8_two_L137 N M_s M_isOne M_isTwo K113 x4 n (r_21 + r_22) (v5 + 1)))))))
def f_X8_two_L113 (N : Nat) (M_s : Nat → Int32) (M_isOne : Nat → Int32) (M_isTwo : Nat → Int32) : Nat → Int32 → Int32 → Option (Int32 × (Nat → Int32) × (Nat → Int32) × (Nat → Int32))
  | 0, _, _ => none
  | n + 1, v3, v4 =>
    if 28561 ≤ v4 then (some (v3, M_s, M_isOne, M_isTwo)) else (ck (gi v4 28561) (if (M_isOne v4.toNatClampNeg) = 0 then (f_X8_two_L113 N M_s M_isOne M_isTwo n v3 (v4 + 1)) else (f_X8_two_L137 N M_s M_isOne M_isTwo (fun z0 z1 => f_X8_two_L113 N M_s M_isOne M_isTwo n z0 z1) v4 N v3 0)))
def f_X8_two_L58 (N : Nat) (M_s : Nat → Int32) (x1 : Int32) (x2 : Int32) : Nat → Int32 → (Nat → Int32) → (Nat → Int32) → Option (Int32 × (Nat → Int32) × (Nat → Int32) × (Nat → Int32))
  | 0, _, _, _ => none
  | n + 1, v3, M_isOne, M_isTwo =>
    if 28561 ≤ v3 then ((f_X8_marks_1 N 16 M_s M_isOne x1 0 0).bind fun r_13 => (f_X8_marks_2 N 16 r_13.1 M_isTwo x2 0 0).bind fun r_14 => f_X8_two_L113 N r_14.1 r_13.2 r_14.2 N (-4) 0) else (ck (gi v3 28561) (ck (gi v3 28561) (f_X8_two_L58 N M_s x1 x2 n (v3 + 1) (upd M_isOne v3.toNatClampNeg (vp_nar .boolean 0)) (upd M_isTwo v3.toNatClampNeg (vp_nar .boolean 0)))))
def f_X8_two (N : Nat) (M_s : Nat → Int32) (M_isOne : Nat → Int32) (M_isTwo : Nat → Int32) (x1 : Int32) (x2 : Int32) : Option (Int32 × (Nat → Int32) × (Nat → Int32) × (Nat → Int32)) :=
  (f_X8_isRow N M_s x1).bind fun r_1 => if (b2i r_1) = 0 then (some ((-1), M_s, M_isOne, M_isTwo)) else ((f_X8_isRow N M_s x2).bind fun r_3 => if (b2i r_3) = 0 then (some ((-1), M_s, M_isOne, M_isTwo)) else (if x1 = x2 then (some ((-1), M_s, M_isOne, M_isTwo)) else (if (x1 - x2) = 1 then (some ((-1), M_s, M_isOne, M_isTwo)) else (if (x2 - x1) = 1 then (some ((-1), M_s, M_isOne, M_isTwo)) else ((f_X8_isLaid N M_s x1).bind fun r_8 => if (b2i r_8) = 0 then ((f_X8_isLaid N M_s x2).bind fun r_10 => if (b2i r_10) = 0 then (f_X8_two_L58 N M_s x1 x2 N 0 M_isOne M_isTwo) else (some ((-3), M_s, M_isOne, M_isTwo))) else (some ((-3), M_s, M_isOne, M_isTwo)))))))
set_option maxHeartbeats 4000000 in
set_option maxRecDepth 100000 in
theorem k_X8_two (l : Launch) (dC : Nat → ClassId) (dI : Nat → Nat → Nat) (cI cZ cS : ClassId) (N : Nat) (aM aM_s aM_isOne aM_isTwo : Nat) (fs_M : List Value) (sz : Nat) (M_s : Nat → Int32) (M_isOne : Nat → Int32) (M_isTwo : Nat → Int32) (x1 : Int32) (x2 : Int32) (hf_M_s : fs_M[0]? = some (.ref aM_s)) (hf_M_isOne : fs_M[28]? = some (.ref aM_isOne)) (hf_M_isTwo : fs_M[29]? = some (.ref aM_isTwo)) (res : Int32 × (Nat → Int32) × (Nat → Int32) × (Nat → Int32)) (h : f_X8_two N M_s M_isOne M_isTwo x1 x2 = some res) : Met l yX8_two wsX8_two ({ frames := 20, cells := 0, slots := 0, locals := 529 }) (va_Pc [.ref aM, .int x1, .int x2] (preW (dC, dI) cI cZ cS [(aM, .inr (7, fs_M)), (aM_s, .inl (cI, 99, .inl M_s)), (aM_isOne, .inl (cZ, 28561, .inl M_isOne)), (aM_isTwo, .inl (cZ, 28561, .inl M_isTwo))] sz)) (va_Qi (fun (r : Int32) (_ : Unit) => r = res.1) (fun _ => qW (dC, dI) cI cZ cS (va_A [(aM, .inr (7, fs_M)), (aM_s, .inl (cI, 99, .inl M_s)), (aM_isOne, .inl (cZ, 28561, .inl M_isOne)), (aM_isTwo, .inl (cZ, 28561, .inl M_isTwo))] sz) [(aM, .inr (7, fs_M)), (aM_s, .inl (cI, 99, .inl res.2.1)), (aM_isOne, .inl (cZ, 28561, .inl res.2.2.1)), (aM_isTwo, .inl (cZ, 28561, .inl res.2.2.2))]) (va_A [(aM, .inr (7, fs_M)), (aM_s, .inl (cI, 99, .inl M_s)), (aM_isOne, .inl (cZ, 28561, .inl M_isOne)), (aM_isTwo, .inl (cZ, 28561, .inl M_isTwo))] sz)) 0 0 (va_A [(aM, .inr (7, fs_M)), (aM_s, .inl (cI, 99, .inl M_s)), (aM_isOne, .inl (cZ, 28561, .inl M_isOne)), (aM_isTwo, .inl (cZ, 28561, .inl M_isTwo))] sz) := by
  refine Met.ofW (cc := cX8_two) (maxL := 7) (ret := (some .int)) (by decide) rfl ?_
  intro p e s m args below meth c s₁ B hml hv
  obtain ⟨rfl, hsz, hP, hK, hD0⟩ := hv
  have hx := B.exec
  have hb := B.bytes
  have hr := B.returns
  have hts := atoms_spec (ws := wsX8_two) B.pre
  have hown : s.vm.findClass RX8 = some m.cls := findClass_of_methodNamed B.named
  have hlocks := B.notSynchronized
  subst hsz
  have hD := hD0.self (sz := s.heap.size)
  generalize hAe : va_A [(aM, .inr (7, fs_M)), (aM_s, .inl (cI, 99, .inl M_s)), (aM_isOne, .inl (cZ, 28561, .inl M_isOne)), (aM_isTwo, .inl (cZ, 28561, .inl M_isTwo))] s.heap.size = A at hD ⊢
  have hA : ∀ q : Nat, s.heap.size ≤ q → A q := fun q h => by rw [← hAe]; exact Or.inr h
  have hS : va_S A s.heap s.heap [] := va_S.rf
  have hl := lv_entry ([.ref aM, .int x1, .int x2]) (n := 7) (Nat.le_of_ble_eq_true rfl)
  rw [lg_entry_eq]
  generalize (lg_sl ([.ref aM, .int x1, .int x2]) ++ List.replicate (7 - (lg_sl ([.ref aM, .int x1, .int x2])).length) Slot.unset).toArray = ls at hl ⊢
  have hl : lv_has ls 7 [(0, .ref aM), (1, .int x1), (2, .int x2)] := hl
  unfold f_X8_two at h
  refine lv_aload_n hx hb dX8_two_0 rfl (lv_at hl 0 rfl) ?_
  refine lv_iload_n hx hb dX8_two_1 rfl (lv_at hl 1 rfl) ?_
  obtain ⟨r_1, hg, h⟩ := bd_some h
  refine rdV (As := [.int x1]) (rest := []) (ci := 7) ⟨hx, hb, hml, hown, hts⟩ (k_X8_isRow l dC dI cI cZ cS N aM aM_s fs_M M_s x1 hf_M_s r_1 hg) (cwV 1 hts gX8_two_X8_isRow rfl rfl rfl cd_X8_isRow ⟨Nat.le_of_ble_eq_true rfl, Nat.le_of_ble_eq_true rfl⟩) hP hD hK [0, 1] (by decide) rfl rfl rfl rfl hl.1 rfl (Nat.le_of_ble_eq_true rfl) dX8_two_2 ⟨Nat.zero_le _, Nat.zero_le _⟩ ?_
  refine lv_if_eq (tgt := 35) hx hb dX8_two_5 (by decide) (fun c_2 => ?_) (fun c_2 => ?_)
  · have h := it_p c_2 h
    refine lv_iconst (v := (-1)) hx hb dX8_two_35 (by decide) ?_
    have h := Option.some.inj h
    exact W.iret hx hb hr (fun t ht hW => ⟨⟨_, (), rfl, by rw [← h], by (try rw [← h]); rw [ht]; exact hP, va_K.moved hW.alike hK, by (try rw [← h]); exact hD⟩, hS.F ht⟩) hS.2.2 dX8_two_36
  · have h := it_n c_2 h
    refine lv_aload_n hx hb dX8_two_8 rfl (lv_at hl 0 rfl) ?_
    refine lv_iload_n hx hb dX8_two_9 rfl (lv_at hl 2 rfl) ?_
    obtain ⟨r_3, hg, h⟩ := bd_some h
    refine rdV (As := [.int x2]) (rest := []) (ci := 7) ⟨hx, hb, hml, hown, hts⟩ (k_X8_isRow l dC dI cI cZ cS N aM aM_s fs_M M_s x2 hf_M_s r_3 hg) (cwV 1 hts gX8_two_X8_isRow rfl rfl rfl cd_X8_isRow ⟨Nat.le_of_ble_eq_true rfl, Nat.le_of_ble_eq_true rfl⟩) hP hD hK [0, 1] (by decide) rfl rfl rfl rfl hl.1 rfl (Nat.le_of_ble_eq_true rfl) dX8_two_10 ⟨Nat.zero_le _, Nat.zero_le _⟩ ?_
    refine lv_if_eq (tgt := 35) hx hb dX8_two_13 (by decide) (fun c_4 => ?_) (fun c_4 => ?_)
    · have h := it_p c_4 h
      refine lv_iconst (v := (-1)) hx hb dX8_two_35 (by decide) ?_
      have h := Option.some.inj h
      exact W.iret hx hb hr (fun t ht hW => ⟨⟨_, (), rfl, by rw [← h], by (try rw [← h]); rw [ht]; exact hP, va_K.moved hW.alike hK, by (try rw [← h]); exact hD⟩, hS.F ht⟩) hS.2.2 dX8_two_36
    · have h := it_n c_4 h
      refine lv_iload_n hx hb dX8_two_16 rfl (lv_at hl 1 rfl) ?_
      refine lv_iload_n hx hb dX8_two_17 rfl (lv_at hl 2 rfl) ?_
      refine lv_icmp_eq (tgt := 35) hx hb dX8_two_18 (by decide) (fun c_5 => ?_) (fun c_5 => ?_)
      · have h := it_p c_5 h
        refine lv_iconst (v := (-1)) hx hb dX8_two_35 (by decide) ?_
        have h := Option.some.inj h
        exact W.iret hx hb hr (fun t ht hW => ⟨⟨_, (), rfl, by rw [← h], by (try rw [← h]); rw [ht]; exact hP, va_K.moved hW.alike hK, by (try rw [← h]); exact hD⟩, hS.F ht⟩) hS.2.2 dX8_two_36
      · have h := it_n c_5 h
        refine lv_iload_n hx hb dX8_two_21 rfl (lv_at hl 1 rfl) ?_
        refine lv_iload_n hx hb dX8_two_22 rfl (lv_at hl 2 rfl) ?_
        refine lv_isub hx hb dX8_two_23 ?_
        refine lv_iconst (v := 1) hx hb dX8_two_24 (by decide) ?_
        refine lv_icmp_eq (tgt := 35) hx hb dX8_two_25 (by decide) (fun c_6 => ?_) (fun c_6 => ?_)
        · have h := it_p c_6 h
          refine lv_iconst (v := (-1)) hx hb dX8_two_35 (by decide) ?_
          have h := Option.some.inj h
          exact W.iret hx hb hr (fun t ht hW => ⟨⟨_, (), rfl, by rw [← h], by (try rw [← h]); rw [ht]; exact hP, va_K.moved hW.alike hK, by (try rw [← h]); exact hD⟩, hS.F ht⟩) hS.2.2 dX8_two_36
        · have h := it_n c_6 h
          refine lv_iload_n hx hb dX8_two_28 rfl (lv_at hl 2 rfl) ?_
          refine lv_iload_n hx hb dX8_two_29 rfl (lv_at hl 1 rfl) ?_
          refine lv_isub hx hb dX8_two_30 ?_
          refine lv_iconst (v := 1) hx hb dX8_two_31 (by decide) ?_
          refine lv_icmp_ne (tgt := 37) hx hb dX8_two_32 (by decide) (fun c_7 => ?_) (fun c_7 => ?_)
          · have h := it_n c_7 h
            refine lv_aload_n hx hb dX8_two_37 rfl (lv_at hl 0 rfl) ?_
            refine lv_iload_n hx hb dX8_two_38 rfl (lv_at hl 1 rfl) ?_
            obtain ⟨r_8, hg, h⟩ := bd_some h
            refine rdV (As := [.int x1]) (rest := []) (ci := 7) ⟨hx, hb, hml, hown, hts⟩ (k_X8_isLaid l dC dI cI cZ cS N aM aM_s fs_M M_s x1 hf_M_s r_8 hg) (cwV 1 hts gX8_two_X8_isLaid rfl rfl rfl cd_X8_isLaid ⟨Nat.le_of_ble_eq_true rfl, Nat.le_of_ble_eq_true rfl⟩) hP hD hK [0, 1] (by decide) rfl rfl rfl rfl hl.1 rfl (Nat.le_of_ble_eq_true rfl) dX8_two_39 ⟨Nat.zero_le _, Nat.zero_le _⟩ ?_
            refine lv_if_ne (tgt := 53) hx hb dX8_two_42 (by decide) (fun c_9 => ?_) (fun c_9 => ?_)
            · have h := it_n c_9 h
              refine lv_bipush (v := (-3)) hx hb dX8_two_53 (by decide) ?_
              have h := Option.some.inj h
              exact W.iret hx hb hr (fun t ht hW => ⟨⟨_, (), rfl, by rw [← h], by (try rw [← h]); rw [ht]; exact hP, va_K.moved hW.alike hK, by (try rw [← h]); exact hD⟩, hS.F ht⟩) hS.2.2 dX8_two_55
            · have h := it_p c_9 h
              refine lv_aload_n hx hb dX8_two_45 rfl (lv_at hl 0 rfl) ?_
              refine lv_iload_n hx hb dX8_two_46 rfl (lv_at hl 2 rfl) ?_
              obtain ⟨r_10, hg, h⟩ := bd_some h
              refine rdV (As := [.int x2]) (rest := []) (ci := 7) ⟨hx, hb, hml, hown, hts⟩ (k_X8_isLaid l dC dI cI cZ cS N aM aM_s fs_M M_s x2 hf_M_s r_10 hg) (cwV 1 hts gX8_two_X8_isLaid rfl rfl rfl cd_X8_isLaid ⟨Nat.le_of_ble_eq_true rfl, Nat.le_of_ble_eq_true rfl⟩) hP hD hK [0, 1] (by decide) rfl rfl rfl rfl hl.1 rfl (Nat.le_of_ble_eq_true rfl) dX8_two_47 ⟨Nat.zero_le _, Nat.zero_le _⟩ ?_
              refine lv_if_eq (tgt := 56) hx hb dX8_two_50 (by decide) (fun c_11 => ?_) (fun c_11 => ?_)
              · have h := it_p c_11 h
                refine lv_iconst (v := 0) hx hb dX8_two_56 (by decide) ?_
                refine lv_istore_n (lv' := [(3, .int 0), (0, .ref aM), (1, .int x1), (2, .int x2)]) hx hb dX8_two_57 rfl hl (by decide) rfl (fun ls hl => ?_)
                have L58_51 : ∀ (n_52 : Nat) (v3_53 : Int32) (M_isOne_54 : Nat → Int32) (M_isTwo_55 : Nat → Int32) (ls : Array Slot) (H : Heap) (locs : List Loc), f_X8_two_L58 N M_s x1 x2 n_52 v3_53 M_isOne_54 M_isTwo_55 = some res → lv_has ls 7 [(0, .ref aM), (1, .int x1), (2, .int x2), (3, .int v3_53)] → va_P (dC, dI) vwCl [(aM, .inr (7, fs_M)), (aM_s, .inl (cI, 99, .inl M_s)), (aM_isOne, .inl (cZ, 28561, .inl M_isOne_54)), (aM_isTwo, .inl (cZ, 28561, .inl M_isTwo_55))] H → va_D A [(aM, .inr (7, fs_M)), (aM_s, .inl (cI, 99, .inl M_s)), (aM_isOne, .inl (cZ, 28561, .inl M_isOne_54)), (aM_isTwo, .inl (cZ, 28561, .inl M_isTwo_55))] → va_S A s.heap H locs → W p l e (headSpec wsX8_two ({ frames := 20, cells := 0, slots := 0, locals := 529 })).room s m ([.ref aM, .int x1, .int x2] : List Value).toArray below meth c H locs 0 0 (MQ below (va_Qi (fun (r : Int32) (_ : Unit) => r = res.1) (fun _ => qW (dC, dI) cI cZ cS A [(aM, .inr (7, fs_M)), (aM_s, .inl (cI, 99, .inl res.2.1)), (aM_isOne, .inl (cZ, 28561, .inl res.2.2.1)), (aM_isTwo, .inl (cZ, 28561, .inl res.2.2.2))]) A) ([.ref aM, .int x1, .int x2] : List Value).toArray s 0 0 A) (F0 m 58 ls []) := by
                  intro n_52
                  induction n_52 with
                  | zero =>
                    intro v3_53 M_isOne_54 M_isTwo_55 ls H locs h
                    simp only [f_X8_two_L58] at h
                    try exact absurd h (by simp)
                  | succ n_52 ihn_52 =>
                    intro v3_53 M_isOne_54 M_isTwo_55 ls H locs h hl hP hD hS
                    rw [f_X8_two_L58] at h
                    refine lv_iload_n hx hb dX8_two_58 rfl (lv_at hl 3 rfl) ?_
                    refine lv_sipush (v := 28561) hx hb dX8_two_59 (by decide) ?_
                    refine lv_icmp_ge (tgt := 85) hx hb dX8_two_62 (by decide) (fun c_56 => ?_) (fun c_56 => ?_)
                    · have h := it_p c_56 h
                      refine lv_aload_n hx hb dX8_two_85 rfl (lv_at hl 0 rfl) ?_
                      refine lv_iload_n hx hb dX8_two_86 rfl (lv_at hl 1 rfl) ?_
                      refine lv_aload_n hx hb dX8_two_87 rfl (lv_at hl 0 rfl) ?_
                      refine va_get (D := (dC, dI)) (ci := 7) (v := .ref aM_isOne) (C := RX8) (T := TX8) (N := 37) hx hb hts (fun _ h => List.mem_cons_of_mem _ (List.mem_append_right _ h)) hown hK hP 0 rfl rfl 28 (by decide) (hts (.fieldLink RX8 52 "SlateRowsModel" "isOne" "[Z") (by decide +kernel)) (fun _ h9 => h9) hf_M_isOne dX8_two_88 ?_
                      refine lv_iconst (v := 0) hx hb dX8_two_91 (by decide) ?_
                      refine lv_iconst (v := 0) hx hb dX8_two_92 (by decide) ?_
                      obtain ⟨r_57, hg, h⟩ := bd_some h
                      refine mtVv (As := [.int x1, .ref aM_isOne, .int 0, .int 0]) (rest := []) (ci := 7) (wr := [(aM_isTwo, .inl (cZ, 28561, .inl M_isTwo_55))]) (w2 := [(aM, .inr (7, fs_M)), (aM_s, .inl (cI, 99, .inl r_57.1)), (aM_isOne, .inl (cZ, 28561, .inl r_57.2)), (aM_isTwo, .inl (cZ, 28561, .inl M_isTwo_55))]) ⟨hx, hb, hml, hown, hts⟩ (k_X8_marks_1 l dC dI cI cZ cS N aM aM_s aM_isOne fs_M hf_M_s hf_M_isOne 16 _ M_s M_isOne_54 x1 0 0 r_57 hg) (cwV 4 hts gX8_two_X8_marks rfl rfl rfl cd_X8_marks ⟨Nat.le_of_ble_eq_true rfl, Nat.le_of_ble_eq_true rfl⟩) hP hD hK hS hA [0, 1, 2] [3] [1, 2, 3, 0] (by decide) (by decide) (by decide) (by decide) rfl rfl rfl rfl rfl rfl hl.1 rfl (Nat.le_of_ble_eq_true rfl) dX8_two_93 ⟨Nat.zero_le _, Nat.zero_le _⟩ (fun H locs hP hD hS => ?_)
                      refine lv_aload_n hx hb dX8_two_96 rfl (lv_at hl 0 rfl) ?_
                      refine lv_iload_n hx hb dX8_two_97 rfl (lv_at hl 2 rfl) ?_
                      refine lv_aload_n hx hb dX8_two_98 rfl (lv_at hl 0 rfl) ?_
                      refine va_get (D := (dC, dI)) (ci := 7) (v := .ref aM_isTwo) (C := RX8) (T := TX8) (N := 37) hx hb hts (fun _ h => List.mem_cons_of_mem _ (List.mem_append_right _ h)) hown hK hP 0 rfl rfl 29 (by decide) (hts (.fieldLink RX8 56 "SlateRowsModel" "isTwo" "[Z") (by decide +kernel)) (fun _ h9 => h9) hf_M_isTwo dX8_two_99 ?_
                      refine lv_iconst (v := 0) hx hb dX8_two_102 (by decide) ?_
                      refine lv_iconst (v := 0) hx hb dX8_two_103 (by decide) ?_
                      obtain ⟨r_58, hg, h⟩ := bd_some h
                      refine mtVv (As := [.int x2, .ref aM_isTwo, .int 0, .int 0]) (rest := []) (ci := 7) (wr := [(aM_isOne, .inl (cZ, 28561, .inl r_57.2))]) (w2 := [(aM, .inr (7, fs_M)), (aM_s, .inl (cI, 99, .inl r_58.1)), (aM_isOne, .inl (cZ, 28561, .inl r_57.2)), (aM_isTwo, .inl (cZ, 28561, .inl r_58.2))]) ⟨hx, hb, hml, hown, hts⟩ (k_X8_marks_2 l dC dI cI cZ cS N aM aM_s aM_isTwo fs_M hf_M_s hf_M_isTwo 16 _ r_57.1 M_isTwo_55 x2 0 0 r_58 hg) (cwV 4 hts gX8_two_X8_marks rfl rfl rfl cd_X8_marks ⟨Nat.le_of_ble_eq_true rfl, Nat.le_of_ble_eq_true rfl⟩) hP hD hK hS hA [0, 1, 3] [2] [1, 2, 0, 3] (by decide) (by decide) (by decide) (by decide) rfl rfl rfl rfl rfl rfl hl.1 rfl (Nat.le_of_ble_eq_true rfl) dX8_two_104 ⟨Nat.zero_le _, Nat.zero_le _⟩ (fun H locs hP hD hS => ?_)
                      refine lv_bipush (v := (-4)) hx hb dX8_two_107 (by decide) ?_
                      refine lv_istore_n (lv' := [(3, .int (-4)), (0, .ref aM), (1, .int x1), (2, .int x2)]) hx hb dX8_two_109 rfl hl (by decide) rfl (fun ls hl => ?_)
                      refine lv_iconst (v := 0) hx hb dX8_two_110 (by decide) ?_
                      refine lv_istore (lv' := [(4, .int 0), (3, .int (-4)), (0, .ref aM), (1, .int x1), (2, .int x2)]) hx hb dX8_two_111 hl (by decide) rfl (fun ls hl => ?_)
                      have L113_58 : ∀ (n_59 : Nat) (v3_60 : Int32) (v4_61 : Int32)  (ls : Array Slot) (H : Heap) (locs : List Loc), f_X8_two_L113 N r_58.1 r_57.2 r_58.2 n_59 v3_60 v4_61 = some res → lv_has ls 7 [(0, .ref aM), (3, .int v3_60), (4, .int v4_61)] → va_P (dC, dI) vwCl [(aM, .inr (7, fs_M)), (aM_s, .inl (cI, 99, .inl r_58.1)), (aM_isOne, .inl (cZ, 28561, .inl r_57.2)), (aM_isTwo, .inl (cZ, 28561, .inl r_58.2))] H → va_D A [(aM, .inr (7, fs_M)), (aM_s, .inl (cI, 99, .inl r_58.1)), (aM_isOne, .inl (cZ, 28561, .inl r_57.2)), (aM_isTwo, .inl (cZ, 28561, .inl r_58.2))] → va_S A s.heap H locs → W p l e (headSpec wsX8_two ({ frames := 20, cells := 0, slots := 0, locals := 529 })).room s m ([.ref aM, .int x1, .int x2] : List Value).toArray below meth c H locs 0 0 (MQ below (va_Qi (fun (r : Int32) (_ : Unit) => r = res.1) (fun _ => qW (dC, dI) cI cZ cS A [(aM, .inr (7, fs_M)), (aM_s, .inl (cI, 99, .inl res.2.1)), (aM_isOne, .inl (cZ, 28561, .inl res.2.2.1)), (aM_isTwo, .inl (cZ, 28561, .inl res.2.2.2))]) A) ([.ref aM, .int x1, .int x2] : List Value).toArray s 0 0 A) (F0 m 113 ls []) := by
                        intro n_59
                        induction n_59 with
                        | zero =>
                          intro v3_60 v4_61 ls H locs h
                          simp only [f_X8_two_L113] at h
                          try exact absurd h (by simp)
                        | succ n_59 ihn_59 =>
                          intro v3_60 v4_61 ls H locs h hl hP hD hS
                          rw [f_X8_two_L113] at h
                          refine lv_iload hx hb dX8_two_113 (lv_at hl 2 rfl) ?_
                          refine lv_sipush (v := 28561) hx hb dX8_two_115 (by decide) ?_
                          refine lv_icmp_ge (tgt := 213) hx hb dX8_two_118 (by decide) (fun c_62 => ?_) (fun c_62 => ?_)
                          · have h := it_p c_62 h
                            refine lv_iload_n hx hb dX8_two_213 rfl (lv_at hl 1 rfl) ?_
                            have h := Option.some.inj h
                            exact W.iret hx hb hr (fun t ht hW => ⟨⟨_, (), rfl, by rw [← h], by (try rw [← h]); rw [ht]; exact hP, va_K.moved hW.alike hK, by (try rw [← h]); exact hD⟩, hS.F ht⟩) hS.2.2 dX8_two_214
                          · have h := it_n c_62 h
                            refine lv_aload_n hx hb dX8_two_121 rfl (lv_at hl 0 rfl) ?_
                            refine va_get (D := (dC, dI)) (ci := 7) (v := .ref aM_isOne) (C := RX8) (T := TX8) (N := 37) hx hb hts (fun _ h => List.mem_cons_of_mem _ (List.mem_append_right _ h)) hown hK hP 0 rfl rfl 28 (by decide) (hts (.fieldLink RX8 52 "SlateRowsModel" "isOne" "[Z") (by decide +kernel)) (fun _ h9 => h9) hf_M_isOne dX8_two_122 ?_
                            refine lv_iload hx hb dX8_two_125 (lv_at hl 2 rfl) ?_
                            obtain ⟨hi, h⟩ := ck_some h
                            refine va_zald hx hb hK hP 2 1 rfl rfl (gi_in hi) dX8_two_127 ?_
                            refine lv_if_ne (tgt := 134) hx hb dX8_two_128 (by decide) (fun c_63 => ?_) (fun c_63 => ?_)
                            · have h := it_n c_63 h
                              refine lv_iconst (v := 0) hx hb dX8_two_134 (by decide) ?_
                              refine lv_istore (lv' := [(5, .int 0), (0, .ref aM), (3, .int v3_60), (4, .int v4_61)]) hx hb dX8_two_135 hl (by decide) rfl (fun ls hl => ?_)
                              have L137_63 : ∀ (n_64 : Nat) (v3_65 : Int32) (v5_66 : Int32)  (ls : Array Slot) (H : Heap) (locs : List Loc), f_X8_two_L137 N r_58.1 r_57.2 r_58.2 (fun z0 z1 => f_X8_two_L113 N r_58.1 r_57.2 r_58.2 n_59 z0 z1) v4_61 n_64 v3_65 v5_66 = some res → lv_has ls 7 [(0, .ref aM), (3, .int v3_65), (4, .int v4_61), (5, .int v5_66)] → va_P (dC, dI) vwCl [(aM, .inr (7, fs_M)), (aM_s, .inl (cI, 99, .inl r_58.1)), (aM_isOne, .inl (cZ, 28561, .inl r_57.2)), (aM_isTwo, .inl (cZ, 28561, .inl r_58.2))] H → va_D A [(aM, .inr (7, fs_M)), (aM_s, .inl (cI, 99, .inl r_58.1)), (aM_isOne, .inl (cZ, 28561, .inl r_57.2)), (aM_isTwo, .inl (cZ, 28561, .inl r_58.2))] → va_S A s.heap H locs → W p l e (headSpec wsX8_two ({ frames := 20, cells := 0, slots := 0, locals := 529 })).room s m ([.ref aM, .int x1, .int x2] : List Value).toArray below meth c H locs 0 0 (MQ below (va_Qi (fun (r : Int32) (_ : Unit) => r = res.1) (fun _ => qW (dC, dI) cI cZ cS A [(aM, .inr (7, fs_M)), (aM_s, .inl (cI, 99, .inl res.2.1)), (aM_isOne, .inl (cZ, 28561, .inl res.2.2.1)), (aM_isTwo, .inl (cZ, 28561, .inl res.2.2.2))]) A) ([.ref aM, .int x1, .int x2] : List Value).toArray s 0 0 A) (F0 m 137 ls []) := by
                                intro n_64
                                induction n_64 with
                                | zero =>
                                  intro v3_65 v5_66 ls H locs h
                                  simp only [f_X8_two_L137] at h
                                  try exact absurd h (by simp)
                                | succ n_64 ihn_64 =>
                                  intro v3_65 v5_66 ls H locs h hl hP hD hS
                                  rw [f_X8_two_L137] at h
                                  refine lv_iload hx hb dX8_two_137 (lv_at hl 3 rfl) ?_
                                  refine lv_sipush (v := 28561) hx hb dX8_two_139 (by decide) ?_
                                  refine lv_icmp_ge (tgt := 207) hx hb dX8_two_142 (by decide) (fun c_67 => ?_) (fun c_67 => ?_)
                                  · have h := it_p c_67 h
                                    refine lv_iinc (v := (v4_61 + 1)) (lv' := [(4, .int (v4_61 + 1)), (0, .ref aM), (3, .int v3_65), (5, .int v5_66)]) hx hb dX8_two_207 hl (k := 2) rfl rfl (by decide) rfl (fun ls hl => ?_)
                                    refine lv_goto (tgt := 113) hx hb dX8_two_210 (by decide) ?_
                                    exact ihn_59 v3_65 (v4_61 + 1) ls _ _ h (lv_sub hl [1, 2, 0] rfl) hP hD hS
                                  · have h := it_n c_67 h
                                    refine lv_aload_n hx hb dX8_two_145 rfl (lv_at hl 0 rfl) ?_
                                    refine va_get (D := (dC, dI)) (ci := 7) (v := .ref aM_isTwo) (C := RX8) (T := TX8) (N := 37) hx hb hts (fun _ h => List.mem_cons_of_mem _ (List.mem_append_right _ h)) hown hK hP 0 rfl rfl 29 (by decide) (hts (.fieldLink RX8 56 "SlateRowsModel" "isTwo" "[Z") (by decide +kernel)) (fun _ h9 => h9) hf_M_isTwo dX8_two_146 ?_
                                    refine lv_iload hx hb dX8_two_149 (lv_at hl 3 rfl) ?_
                                    obtain ⟨hi, h⟩ := ck_some h
                                    refine va_zald hx hb hK hP 3 1 rfl rfl (gi_in hi) dX8_two_151 ?_
                                    refine lv_if_eq (tgt := 201) hx hb dX8_two_152 (by decide) (fun c_68 => ?_) (fun c_68 => ?_)
                                    · have h := it_p c_68 h
                                      refine lv_iinc (v := (v5_66 + 1)) (lv' := [(5, .int (v5_66 + 1)), (0, .ref aM), (3, .int v3_65), (4, .int v4_61)]) hx hb dX8_two_201 hl (k := 3) rfl rfl (by decide) rfl (fun ls hl => ?_)
                                      refine lv_goto (tgt := 137) hx hb dX8_two_204 (by decide) ?_
                                      exact ihn_64 v3_65 (v5_66 + 1) ls _ _ h (lv_sub hl [1, 2, 3, 0] rfl) hP hD hS
                                    · have h := it_n c_68 h
                                      refine lv_aload_n hx hb dX8_two_155 rfl (lv_at hl 0 rfl) ?_
                                      refine lv_iload hx hb dX8_two_156 (lv_at hl 2 rfl) ?_
                                      refine lv_iload hx hb dX8_two_158 (lv_at hl 3 rfl) ?_
                                      obtain ⟨r_69, hg, h⟩ := bd_some h
                                      refine rdV (As := [.int v4_61, .int v5_66]) (rest := []) (ci := 7) ⟨hx, hb, hml, hown, hts⟩ (k_X8_isThere l dC dI cI cZ cS N aM aM_s fs_M r_58.1 v4_61 v5_66 hf_M_s r_69 hg) (cwV 2 hts gX8_two_X8_isThere rfl rfl rfl cd_X8_isThere ⟨Nat.le_of_ble_eq_true rfl, Nat.le_of_ble_eq_true rfl⟩) hP hD hK [0, 1] (by decide) rfl rfl rfl rfl hl.1 rfl (Nat.le_of_ble_eq_true rfl) dX8_two_160 ⟨Nat.zero_le _, Nat.zero_le _⟩ ?_
                                      refine lv_if_ne (tgt := 169) hx hb dX8_two_163 (by decide) (fun c_70 => ?_) (fun c_70 => ?_)
                                      · have h := it_n c_70 h
                                        refine lv_aload_n hx hb dX8_two_169 rfl (lv_at hl 0 rfl) ?_
                                        refine lv_iload hx hb dX8_two_170 (lv_at hl 2 rfl) ?_
                                        obtain ⟨r_71, hg, h⟩ := bd_some h
                                        refine rdV (As := [.int v4_61]) (rest := []) (ci := 7) ⟨hx, hb, hml, hown, hts⟩ (k_X8_worthOf l dC dI cI cZ cS N aM aM_s fs_M r_58.1 v4_61 hf_M_s r_71 hg) (cwV 1 hts gX8_two_X8_worthOf rfl rfl rfl cd_X8_worthOf ⟨Nat.le_of_ble_eq_true rfl, Nat.le_of_ble_eq_true rfl⟩) hP hD hK [0, 1] (by decide) rfl rfl rfl rfl hl.1 rfl (Nat.le_of_ble_eq_true rfl) dX8_two_172 ⟨Nat.zero_le _, Nat.zero_le _⟩ ?_
                                        refine lv_aload_n hx hb dX8_two_175 rfl (lv_at hl 0 rfl) ?_
                                        refine lv_iload hx hb dX8_two_176 (lv_at hl 3 rfl) ?_
                                        obtain ⟨r_72, hg, h⟩ := bd_some h
                                        refine rdV (As := [.int v5_66]) (rest := [.int r_71]) (ci := 7) ⟨hx, hb, hml, hown, hts⟩ (k_X8_worthOf l dC dI cI cZ cS N aM aM_s fs_M r_58.1 v5_66 hf_M_s r_72 hg) (cwV 1 hts gX8_two_X8_worthOf rfl rfl rfl cd_X8_worthOf ⟨Nat.le_of_ble_eq_true rfl, Nat.le_of_ble_eq_true rfl⟩) hP hD hK [0, 1] (by decide) rfl rfl rfl rfl hl.1 rfl (Nat.le_of_ble_eq_true rfl) dX8_two_178 ⟨Nat.zero_le _, Nat.zero_le _⟩ ?_
                                        refine lv_iadd hx hb dX8_two_181 ?_
                                        refine lv_istore (lv' := [(6, .int (r_71 + r_72)), (0, .ref aM), (3, .int v3_65), (4, .int v4_61), (5, .int v5_66)]) hx hb dX8_two_182 hl (by decide) rfl (fun ls hl => ?_)
                                        refine lv_iload_n hx hb dX8_two_184 rfl (lv_at hl 2 rfl) ?_
                                        refine lv_if_lt (tgt := 194) hx hb dX8_two_185 (by decide) (fun c_73 => ?_) (fun c_73 => ?_)
                                        · have h := it_p c_73 h
                                          refine lv_iload hx hb dX8_two_194 (lv_at hl 0 rfl) ?_
                                          refine lv_goto (tgt := 200) hx hb dX8_two_196 (by decide) ?_
                                          refine lv_istore_n (lv' := [(3, .int (r_71 + r_72)), (6, .int (r_71 + r_72)), (0, .ref aM), (4, .int v4_61), (5, .int v5_66)]) hx hb dX8_two_200 rfl hl (by decide) rfl (fun ls hl => ?_)
                                          refine lv_iinc (v := (v5_66 + 1)) (lv' := [(5, .int (v5_66 + 1)), (3, .int (r_71 + r_72)), (6, .int (r_71 + r_72)), (0, .ref aM), (4, .int v4_61)]) hx hb dX8_two_201 hl (k := 4) rfl rfl (by decide) rfl (fun ls hl => ?_)
                                          refine lv_goto (tgt := 137) hx hb dX8_two_204 (by decide) ?_
                                          exact ihn_64 (r_71 + r_72) (v5_66 + 1) ls _ _ h (lv_sub hl [3, 1, 4, 0] rfl) hP hD hS
                                        · have h := it_n c_73 h
                                          refine lv_iload hx hb dX8_two_188 (lv_at hl 0 rfl) ?_
                                          refine lv_iload_n hx hb dX8_two_190 rfl (lv_at hl 2 rfl) ?_
                                          refine lv_icmp_ge (tgt := 199) hx hb dX8_two_191 (by decide) (fun c_74 => ?_) (fun c_74 => ?_)
                                          · have h := it_p c_74 h
                                            refine lv_iload_n hx hb dX8_two_199 rfl (lv_at hl 2 rfl) ?_
                                            refine lv_istore_n (lv' := [(3, .int v3_65), (6, .int (r_71 + r_72)), (0, .ref aM), (4, .int v4_61), (5, .int v5_66)]) hx hb dX8_two_200 rfl hl (by decide) rfl (fun ls hl => ?_)
                                            refine lv_iinc (v := (v5_66 + 1)) (lv' := [(5, .int (v5_66 + 1)), (3, .int v3_65), (6, .int (r_71 + r_72)), (0, .ref aM), (4, .int v4_61)]) hx hb dX8_two_201 hl (k := 4) rfl rfl (by decide) rfl (fun ls hl => ?_)
                                            refine lv_goto (tgt := 137) hx hb dX8_two_204 (by decide) ?_
                                            exact ihn_64 v3_65 (v5_66 + 1) ls _ _ h (lv_sub hl [3, 1, 4, 0] rfl) hP hD hS
                                          · have h := it_n c_74 h
                                            refine lv_iload hx hb dX8_two_194 (lv_at hl 0 rfl) ?_
                                            refine lv_goto (tgt := 200) hx hb dX8_two_196 (by decide) ?_
                                            refine lv_istore_n (lv' := [(3, .int (r_71 + r_72)), (6, .int (r_71 + r_72)), (0, .ref aM), (4, .int v4_61), (5, .int v5_66)]) hx hb dX8_two_200 rfl hl (by decide) rfl (fun ls hl => ?_)
                                            refine lv_iinc (v := (v5_66 + 1)) (lv' := [(5, .int (v5_66 + 1)), (3, .int (r_71 + r_72)), (6, .int (r_71 + r_72)), (0, .ref aM), (4, .int v4_61)]) hx hb dX8_two_201 hl (k := 4) rfl rfl (by decide) rfl (fun ls hl => ?_)
                                            refine lv_goto (tgt := 137) hx hb dX8_two_204 (by decide) ?_
                                            exact ihn_64 (r_71 + r_72) (v5_66 + 1) ls _ _ h (lv_sub hl [3, 1, 4, 0] rfl) hP hD hS
                                      · have h := it_p c_70 h
                                        refine lv_goto (tgt := 201) hx hb dX8_two_166 (by decide) ?_
                                        refine lv_iinc (v := (v5_66 + 1)) (lv' := [(5, .int (v5_66 + 1)), (0, .ref aM), (3, .int v3_65), (4, .int v4_61)]) hx hb dX8_two_201 hl (k := 3) rfl rfl (by decide) rfl (fun ls hl => ?_)
                                        refine lv_goto (tgt := 137) hx hb dX8_two_204 (by decide) ?_
                                        exact ihn_64 v3_65 (v5_66 + 1) ls _ _ h (lv_sub hl [1, 2, 3, 0] rfl) hP hD hS
                              exact L137_63 N v3_60 0 ls _ _ h (lv_sub hl [1, 2, 3, 0] rfl) hP hD hS
                            · have h := it_p c_63 h
                              refine lv_goto (tgt := 207) hx hb dX8_two_131 (by decide) ?_
                              refine lv_iinc (v := (v4_61 + 1)) (lv' := [(4, .int (v4_61 + 1)), (0, .ref aM), (3, .int v3_60)]) hx hb dX8_two_207 hl (k := 2) rfl rfl (by decide) rfl (fun ls hl => ?_)
                              refine lv_goto (tgt := 113) hx hb dX8_two_210 (by decide) ?_
                              exact ihn_59 v3_60 (v4_61 + 1) ls _ _ h (lv_sub hl [1, 2, 0] rfl) hP hD hS
                      exact L113_58 N (-4) 0 ls _ _ h (lv_sub hl [2, 1, 0] rfl) hP hD hS
                    · have h := it_n c_56 h
                      refine lv_aload_n hx hb dX8_two_65 rfl (lv_at hl 0 rfl) ?_
                      refine va_get (D := (dC, dI)) (ci := 7) (v := .ref aM_isOne) (C := RX8) (T := TX8) (N := 37) hx hb hts (fun _ h => List.mem_cons_of_mem _ (List.mem_append_right _ h)) hown hK hP 0 rfl rfl 28 (by decide) (hts (.fieldLink RX8 52 "SlateRowsModel" "isOne" "[Z") (by decide +kernel)) (fun _ h9 => h9) hf_M_isOne dX8_two_66 ?_
                      refine lv_iload_n hx hb dX8_two_69 rfl (lv_at hl 3 rfl) ?_
                      refine lv_iconst (v := 0) hx hb dX8_two_70 (by decide) ?_
                      obtain ⟨hi, h⟩ := ck_some h
                      refine va_zast hx hb hK hP hD hS 2 1 rfl rfl (gi_in hi) dX8_two_71 (fun H locs hP hD hS => ?_)
                      have hP : va_P (dC, dI) vwCl [(aM, .inr (7, fs_M)), (aM_s, .inl (cI, 99, .inl M_s)), (aM_isOne, .inl (cZ, 28561, .inl (upd M_isOne_54 v3_53.toNatClampNeg (vp_nar .boolean 0)))), (aM_isTwo, .inl (cZ, 28561, .inl M_isTwo_55))] H := hP
                      have hD : va_D A [(aM, .inr (7, fs_M)), (aM_s, .inl (cI, 99, .inl M_s)), (aM_isOne, .inl (cZ, 28561, .inl (upd M_isOne_54 v3_53.toNatClampNeg (vp_nar .boolean 0)))), (aM_isTwo, .inl (cZ, 28561, .inl M_isTwo_55))] := hD
                      refine lv_aload_n hx hb dX8_two_72 rfl (lv_at hl 0 rfl) ?_
                      refine va_get (D := (dC, dI)) (ci := 7) (v := .ref aM_isTwo) (C := RX8) (T := TX8) (N := 37) hx hb hts (fun _ h => List.mem_cons_of_mem _ (List.mem_append_right _ h)) hown hK hP 0 rfl rfl 29 (by decide) (hts (.fieldLink RX8 56 "SlateRowsModel" "isTwo" "[Z") (by decide +kernel)) (fun _ h9 => h9) hf_M_isTwo dX8_two_73 ?_
                      refine lv_iload_n hx hb dX8_two_76 rfl (lv_at hl 3 rfl) ?_
                      refine lv_iconst (v := 0) hx hb dX8_two_77 (by decide) ?_
                      obtain ⟨hi, h⟩ := ck_some h
                      refine va_zast hx hb hK hP hD hS 3 1 rfl rfl (gi_in hi) dX8_two_78 (fun H locs hP hD hS => ?_)
                      have hP : va_P (dC, dI) vwCl [(aM, .inr (7, fs_M)), (aM_s, .inl (cI, 99, .inl M_s)), (aM_isOne, .inl (cZ, 28561, .inl (upd M_isOne_54 v3_53.toNatClampNeg (vp_nar .boolean 0)))), (aM_isTwo, .inl (cZ, 28561, .inl (upd M_isTwo_55 v3_53.toNatClampNeg (vp_nar .boolean 0))))] H := hP
                      have hD : va_D A [(aM, .inr (7, fs_M)), (aM_s, .inl (cI, 99, .inl M_s)), (aM_isOne, .inl (cZ, 28561, .inl (upd M_isOne_54 v3_53.toNatClampNeg (vp_nar .boolean 0)))), (aM_isTwo, .inl (cZ, 28561, .inl (upd M_isTwo_55 v3_53.toNatClampNeg (vp_nar .boolean 0))))] := hD
                      refine lv_iinc (v := (v3_53 + 1)) (lv' := [(3, .int (v3_53 + 1)), (0, .ref aM), (1, .int x1), (2, .int x2)]) hx hb dX8_two_79 hl (k := 3) rfl rfl (by decide) rfl (fun ls hl => ?_)
                      refine lv_goto (tgt := 58) hx hb dX8_two_82 (by decide) ?_
                      exact ihn_52 (v3_53 + 1) (upd M_isOne_54 v3_53.toNatClampNeg (vp_nar .boolean 0)) (upd M_isTwo_55 v3_53.toNatClampNeg (vp_nar .boolean 0)) ls _ _ h (lv_sub hl [1, 2, 3, 0] rfl) hP hD hS
                exact L58_51 N 0 M_isOne M_isTwo ls _ _ h (lv_sub hl [1, 2, 3, 0] rfl) hP hD hS
              · have h := it_n c_11 h
                refine lv_bipush (v := (-3)) hx hb dX8_two_53 (by decide) ?_
                have h := Option.some.inj h
                exact W.iret hx hb hr (fun t ht hW => ⟨⟨_, (), rfl, by rw [← h], by (try rw [← h]); rw [ht]; exact hP, va_K.moved hW.alike hK, by (try rw [← h]); exact hD⟩, hS.F ht⟩) hS.2.2 dX8_two_55
          · have h := it_p c_7 h
            refine lv_iconst (v := (-1)) hx hb dX8_two_35 (by decide) ?_
            have h := Option.some.inj h
            exact W.iret hx hb hr (fun t ht hW => ⟨⟨_, (), rfl, by rw [← h], by (try rw [← h]); rw [ht]; exact hP, va_K.moved hW.alike hK, by (try rw [← h]); exact hD⟩, hS.F ht⟩) hS.2.2 dX8_two_36
def f_X8_heapWorth_L4 (N : Nat) (M_s : Nat → Int32) : Nat → Int32 → Int32 → Option (Int32)
  | 0, _, _ => none
  | n + 1, v1, v2 =>
    ck (gi 1 99) (if (M_s (1 : Int32).toNatClampNeg) ≤ v2 then (some (v1)) else ((f_X8_many N M_s v2).bind fun r_2 => (f_X8_worth N M_s v2).bind fun r_3 => f_X8_heapWorth_L4 N M_s n (v1 + (r_2 * r_3)) (v2 + 1)))
def f_X8_heapWorth (N : Nat) (M_s : Nat → Int32) : Option (Int32) :=
  f_X8_heapWorth_L4 N M_s N 0 0
set_option maxHeartbeats 4000000 in
set_option maxRecDepth 100000 in
theorem k_X8_heapWorth (l : Launch) (dC : Nat → ClassId) (dI : Nat → Nat → Nat) (cI cZ cS : ClassId) (N : Nat) (aM aM_s : Nat) (fs_M : List Value) (M_s : Nat → Int32) (hf_M_s : fs_M[0]? = some (.ref aM_s)) (res : Int32) (h : f_X8_heapWorth N M_s = some res) : Met l yX8_heapWorth wsX8_heapWorth ({ frames := 1, cells := 0, slots := 0, locals := 21 }) (va_Pc [.ref aM] (wd (dC, dI) cI cZ cS [(aM, .inr (7, fs_M)), (aM_s, .inl (cI, 99, .inl M_s))])) (vp_Si (fun r => r = res)) 0 0 (fun _ => False) := by
  refine Met.ofW (cc := cX8_heapWorth) (maxL := 3) (ret := (some .int)) (by decide) rfl ?_
  intro p e s m args below meth c s₁ B hml hv
  obtain ⟨rfl, hP, hK, hD⟩ := hv
  have hx := B.exec
  have hb := B.bytes
  have hr := B.returns
  have hts := atoms_spec (ws := wsX8_heapWorth) B.pre
  have hown : s.vm.findClass RX8 = some m.cls := findClass_of_methodNamed B.named
  have hlocks := B.notSynchronized
  have hl := lv_entry ([.ref aM]) (n := 3) (Nat.le_of_ble_eq_true rfl)
  rw [lg_entry_eq]
  generalize (lg_sl ([.ref aM]) ++ List.replicate (3 - (lg_sl ([.ref aM])).length) Slot.unset).toArray = ls at hl ⊢
  have hl : lv_has ls 3 [(0, .ref aM)] := hl
  unfold f_X8_heapWorth at h
  refine lv_iconst (v := 0) hx hb dX8_heapWorth_0 (by decide) ?_
  refine lv_istore_n (lv' := [(1, .int 0), (0, .ref aM)]) hx hb dX8_heapWorth_1 rfl hl (by decide) rfl (fun ls hl => ?_)
  refine lv_iconst (v := 0) hx hb dX8_heapWorth_2 (by decide) ?_
  refine lv_istore_n (lv' := [(2, .int 0), (1, .int 0), (0, .ref aM)]) hx hb dX8_heapWorth_3 rfl hl (by decide) rfl (fun ls hl => ?_)
  have L4_3 : ∀ (n_4 : Nat) (v1_5 : Int32) (v2_6 : Int32)  (ls : Array Slot), f_X8_heapWorth_L4 N M_s n_4 v1_5 v2_6 = some res → lv_has ls 3 [(0, .ref aM), (1, .int v1_5), (2, .int v2_6)] → W p l e (headSpec wsX8_heapWorth ({ frames := 1, cells := 0, slots := 0, locals := 21 })).room s m ([.ref aM] : List Value).toArray below meth c s.heap [] 0 0 (MQ below (vp_Si (fun r => r = res)) ([.ref aM] : List Value).toArray s 0 0 (fun _ => False)) (F0 m 4 ls []) := by
    intro n_4
    induction n_4 with
    | zero =>
      intro v1_5 v2_6 ls h
      simp only [f_X8_heapWorth_L4] at h
      try exact absurd h (by simp)
    | succ n_4 ihn_4 =>
      intro v1_5 v2_6 ls h hl
      rw [f_X8_heapWorth_L4] at h
      refine lv_iload_n hx hb dX8_heapWorth_4 rfl (lv_at hl 2 rfl) ?_
      refine lv_aload_n hx hb dX8_heapWorth_5 rfl (lv_at hl 0 rfl) ?_
      refine va_get (D := (dC, dI)) (ci := 7) (v := .ref aM_s) (C := RX8) (T := TX8) (N := 37) hx hb hts (fun _ h => List.mem_cons_of_mem _ (List.mem_append_right _ h)) hown hK hP 0 rfl rfl 0 (by decide) (hts (.fieldLink RX8 9 "SlateRowsModel" "s" "[I") (by decide +kernel)) (fun _ h9 => h9) hf_M_s dX8_heapWorth_6 ?_
      refine lv_iconst (v := 1) hx hb dX8_heapWorth_9 (by decide) ?_
      obtain ⟨hi, h⟩ := ck_some h
      refine va_iald hx hb hK hP 1 0 rfl rfl (gi_in hi) dX8_heapWorth_10 ?_
      refine lv_icmp_ge (tgt := 34) hx hb dX8_heapWorth_11 (by decide) (fun c_7 => ?_) (fun c_7 => ?_)
      · have h := it_p c_7 h
        refine lv_iload_n hx hb dX8_heapWorth_34 rfl (lv_at hl 1 rfl) ?_
        exact W.iret hx hb hr (fun t ht hW => ⟨_, rfl, Option.some.inj h, ht⟩) (fun q hq => by cases hq) dX8_heapWorth_35
      · have h := it_n c_7 h
        refine lv_iload_n hx hb dX8_heapWorth_14 rfl (lv_at hl 1 rfl) ?_
        refine lv_aload_n hx hb dX8_heapWorth_15 rfl (lv_at hl 0 rfl) ?_
        refine lv_iload_n hx hb dX8_heapWorth_16 rfl (lv_at hl 2 rfl) ?_
        obtain ⟨r_8, hg, h⟩ := bd_some h
        refine rdV (As := [.int v2_6]) (rest := [.int v1_5]) (ci := 7) ⟨hx, hb, hml, hown, hts⟩ (k_X8_many l dC dI cI cZ cS N aM aM_s fs_M M_s v2_6 hf_M_s r_8 hg) (cwV 1 hts gX8_heapWorth_X8_many rfl rfl rfl cd_X8_many ⟨Nat.le_of_ble_eq_true rfl, Nat.le_of_ble_eq_true rfl⟩) hP hD hK [0, 1] (by decide) rfl rfl rfl rfl hl.1 rfl (Nat.le_of_ble_eq_true rfl) dX8_heapWorth_17 ⟨Nat.zero_le _, Nat.zero_le _⟩ ?_
        refine lv_aload_n hx hb dX8_heapWorth_20 rfl (lv_at hl 0 rfl) ?_
        refine lv_iload_n hx hb dX8_heapWorth_21 rfl (lv_at hl 2 rfl) ?_
        obtain ⟨r_9, hg, h⟩ := bd_some h
        refine rdV (As := [.int v2_6]) (rest := [.int r_8, .int v1_5]) (ci := 7) ⟨hx, hb, hml, hown, hts⟩ (k_X8_worth l dC dI cI cZ cS N aM aM_s fs_M M_s v2_6 hf_M_s r_9 hg) (cwV 1 hts gX8_heapWorth_X8_worth rfl rfl rfl cd_X8_worth ⟨Nat.le_of_ble_eq_true rfl, Nat.le_of_ble_eq_true rfl⟩) hP hD hK [0, 1] (by decide) rfl rfl rfl rfl hl.1 rfl (Nat.le_of_ble_eq_true rfl) dX8_heapWorth_22 ⟨Nat.zero_le _, Nat.zero_le _⟩ ?_
        refine lv_imul hx hb dX8_heapWorth_25 ?_
        refine lv_iadd hx hb dX8_heapWorth_26 ?_
        refine lv_istore_n (lv' := [(1, .int (v1_5 + (r_8 * r_9))), (0, .ref aM), (2, .int v2_6)]) hx hb dX8_heapWorth_27 rfl hl (by decide) rfl (fun ls hl => ?_)
        refine lv_iinc (v := (v2_6 + 1)) (lv' := [(2, .int (v2_6 + 1)), (1, .int (v1_5 + (r_8 * r_9))), (0, .ref aM)]) hx hb dX8_heapWorth_28 hl (k := 2) rfl rfl (by decide) rfl (fun ls hl => ?_)
        refine lv_goto (tgt := 4) hx hb dX8_heapWorth_31 (by decide) ?_
        exact ihn_4 (v1_5 + (r_8 * r_9)) (v2_6 + 1) ls h (lv_sub hl [2, 1, 0] rfl)
  exact L4_3 N 0 0 ls h (lv_sub hl [2, 1, 0] rfl)
