section LAWK
variable {p : Program} {l : Launch} {e : Env} {s : State} {m : MethodId} {below : List Frame} {meth : Method} {c : Code} {b L : Nat} {xs : Nat → Int32} {Q : State → Prop}
variable {dC : Nat → ClassId} {dI : Nat → Nat → Nat} {cI cZ cS : ClassId} {F : FX} {Sh : Nat → Option Nat} {A : Nat → Nat} {R0 : (Nat → Int64) → va_W} {aO : Nat}
theorem law_uses (hC : LC p s m c b L xs (dC, dI) cI cZ cS) : LK p l e s m below meth c b L xs Q (dC, dI) cI cZ cS F Sh A R0 aO 695 := by
  intro o bb WX H locs cells slots ls i k hi hL3 hI hP hD hS hl hcl hsl hk kk
  obtain ⟨hx, hb, hml, hown, hts, hX, hbl, hK⟩ := hC
  have hA : ∀ q : Nat, s.heap.size ≤ q → (fun q : Nat => s.heap.size ≤ q) q := fun _ h => h
  have hbA : ¬ (fun q : Nat => s.heap.size ≤ q) b := Nat.not_le.mpr hbl
  obtain ⟨a, M, b', rm7, rm8, hr7, hr8, hm7, hm8⟩ := case_uses (x1 := xs (nI i + 1).toNatClampNeg) (x2 := xs (nI i + 2).toNatClampNeg) bb WX hI
  obtain ⟨fs7, he7⟩ := invR hI
  obtain ⟨hr71, hr72, hr73, hr74⟩ := hr7
  obtain ⟨hr81, hr82, hr83, hr84⟩ := hr8
  have hb5 : bb.toNat ≤ 1 := Bool.toNat_le bb
  refine lv_aload_n hx hb dL_law_695 rfl (lv_at hl 1 rfl) ?_
  refine lv_aload_n hx hb dL_law_696 rfl (lv_at hl 0 rfl) ?_
  refine lv_iload hx hb dL_law_697 (lv_at hl 4 rfl) ?_
  refine lv_iconst (v := 1) hx hb dL_law_699 (by decide) ?_
  refine lv_iadd hx hb dL_law_700 ?_
  refine va_sld hx hb hX hbl hbA hS (vin_ (j := 1) (by omega) (by omega)) dL_law_701 ?_
  refine lv_aload_n hx hb dL_law_702 rfl (lv_at hl 0 rfl) ?_
  refine lv_iload hx hb dL_law_703 (lv_at hl 4 rfl) ?_
  refine lv_iconst (v := 2) hx hb dL_law_705 (by decide) ?_
  refine lv_iadd hx hb dL_law_706 ?_
  refine va_sld hx hb hX hbl hbA hS (vin_ (j := 2) (by omega) (by omega)) dL_law_707 ?_
  refine lawCall (As := [.int (xs (nI i + 1).toNatClampNeg), .int (xs (nI i + 2).toNatClampNeg)]) (rest := []) (ci := 6) ⟨hx, hb, hml, hown, hts⟩ hm7 (cwV 2 hts gL_law_X7_uses rfl rfl rfl (by decide +kernel) ⟨rmF hr71 (by decide), rmL hr72 (Nat.le_of_ble_eq_true rfl)⟩) hP hD hK hS hA rfl he7 rfl hl.1 rfl (Nat.zero_le _) dL_law_708 (lbud hr73 hr74 hcl hsl hk) (fun W1 H1 locs1 hM1 hP1 hD1 hS1 => ?_)
  obtain ⟨⟨fs8, he8⟩, hm9⟩ := hm8 W1 hM1
  obtain ⟨hcl1, hsl1⟩ := lbud2 hr73 hr74 hcl hsl
  have hS := hS1
  refine lv_aload_n hx hb dL_law_711 rfl (lv_at hl 2 rfl) ?_
  refine lv_aload_n hx hb dL_law_712 rfl (lv_at hl 0 rfl) ?_
  refine lv_iload hx hb dL_law_713 (lv_at hl 4 rfl) ?_
  refine lv_iconst (v := 1) hx hb dL_law_715 (by decide) ?_
  refine lv_iadd hx hb dL_law_716 ?_
  refine va_sld hx hb hX hbl hbA hS (vin_ (j := 1) (by omega) (by omega)) dL_law_717 ?_
  refine lv_aload_n hx hb dL_law_718 rfl (lv_at hl 0 rfl) ?_
  refine lv_iload hx hb dL_law_719 (lv_at hl 4 rfl) ?_
  refine lv_iconst (v := 2) hx hb dL_law_721 (by decide) ?_
  refine lv_iadd hx hb dL_law_722 ?_
  refine va_sld hx hb hX hbl hbA hS (vin_ (j := 2) (by omega) (by omega)) dL_law_723 ?_
  refine lawCall (As := [.int (xs (nI i + 1).toNatClampNeg), .int (xs (nI i + 2).toNatClampNeg)]) (rest := [.int a]) (ci := 7) ⟨hx, hb, hml, hown, hts⟩ hm9 (cwV 2 hts gL_law_X8_uses rfl rfl rfl (by decide +kernel) ⟨rm8F hr81 (by decide), rm8L hr82 (Nat.le_of_ble_eq_true rfl)⟩) hP1 hD1 hK hS hA rfl he8 rfl hl.1 rfl (Nat.le_of_ble_eq_true rfl) dL_law_724 (lbud8 hr83 hr84 hcl1 hsl1 hk) (fun W2 H2 locs2 hI2 hP2 hD2 hS2 => ?_)
  refine lv_icmp_eq (tgt := 1391) hx hb dL_law_727 (by decide) (fun _ => ?_) (fun c9 => absurd rfl c9)
  exact kk o b' W2 H2 locs2 _ _ ls hI2 hP2 hD2 hS2 hl (by rw [hr83]; exact hcl1) (by rw [hr84]; exact hsl1)
theorem law_needs (hC : LC p s m c b L xs (dC, dI) cI cZ cS) : LK p l e s m below meth c b L xs Q (dC, dI) cI cZ cS F Sh A R0 aO 732 := by
  intro o bb WX H locs cells slots ls i k hi hL3 hI hP hD hS hl hcl hsl hk kk
  obtain ⟨hx, hb, hml, hown, hts, hX, hbl, hK⟩ := hC
  have hA : ∀ q : Nat, s.heap.size ≤ q → (fun q : Nat => s.heap.size ≤ q) q := fun _ h => h
  have hbA : ¬ (fun q : Nat => s.heap.size ≤ q) b := Nat.not_le.mpr hbl
  obtain ⟨a, M, b', rm7, rm8, hr7, hr8, hm7, hm8⟩ := case_needs (x1 := xs (nI i + 1).toNatClampNeg) (x2 := xs (nI i + 2).toNatClampNeg) bb WX hI
  obtain ⟨fs7, he7⟩ := invR hI
  obtain ⟨hr71, hr72, hr73, hr74⟩ := hr7
  obtain ⟨hr81, hr82, hr83, hr84⟩ := hr8
  have hb5 : bb.toNat ≤ 1 := Bool.toNat_le bb
  refine lv_aload_n hx hb dL_law_732 rfl (lv_at hl 1 rfl) ?_
  refine lv_aload_n hx hb dL_law_733 rfl (lv_at hl 0 rfl) ?_
  refine lv_iload hx hb dL_law_734 (lv_at hl 4 rfl) ?_
  refine lv_iconst (v := 1) hx hb dL_law_736 (by decide) ?_
  refine lv_iadd hx hb dL_law_737 ?_
  refine va_sld hx hb hX hbl hbA hS (vin_ (j := 1) (by omega) (by omega)) dL_law_738 ?_
  refine lv_aload_n hx hb dL_law_739 rfl (lv_at hl 0 rfl) ?_
  refine lv_iload hx hb dL_law_740 (lv_at hl 4 rfl) ?_
  refine lv_iconst (v := 2) hx hb dL_law_742 (by decide) ?_
  refine lv_iadd hx hb dL_law_743 ?_
  refine va_sld hx hb hX hbl hbA hS (vin_ (j := 2) (by omega) (by omega)) dL_law_744 ?_
  refine lawCall (As := [.int (xs (nI i + 1).toNatClampNeg), .int (xs (nI i + 2).toNatClampNeg)]) (rest := []) (ci := 6) ⟨hx, hb, hml, hown, hts⟩ hm7 (cwV 2 hts gL_law_X7_needs rfl rfl rfl (by decide +kernel) ⟨rmF hr71 (by decide), rmL hr72 (Nat.le_of_ble_eq_true rfl)⟩) hP hD hK hS hA rfl he7 rfl hl.1 rfl (Nat.zero_le _) dL_law_745 (lbud hr73 hr74 hcl hsl hk) (fun W1 H1 locs1 hM1 hP1 hD1 hS1 => ?_)
  obtain ⟨⟨fs8, he8⟩, hm9⟩ := hm8 W1 hM1
  obtain ⟨hcl1, hsl1⟩ := lbud2 hr73 hr74 hcl hsl
  have hS := hS1
  refine lv_aload_n hx hb dL_law_748 rfl (lv_at hl 2 rfl) ?_
  refine lv_aload_n hx hb dL_law_749 rfl (lv_at hl 0 rfl) ?_
  refine lv_iload hx hb dL_law_750 (lv_at hl 4 rfl) ?_
  refine lv_iconst (v := 1) hx hb dL_law_752 (by decide) ?_
  refine lv_iadd hx hb dL_law_753 ?_
  refine va_sld hx hb hX hbl hbA hS (vin_ (j := 1) (by omega) (by omega)) dL_law_754 ?_
  refine lv_aload_n hx hb dL_law_755 rfl (lv_at hl 0 rfl) ?_
  refine lv_iload hx hb dL_law_756 (lv_at hl 4 rfl) ?_
  refine lv_iconst (v := 2) hx hb dL_law_758 (by decide) ?_
  refine lv_iadd hx hb dL_law_759 ?_
  refine va_sld hx hb hX hbl hbA hS (vin_ (j := 2) (by omega) (by omega)) dL_law_760 ?_
  refine lawCall (As := [.int (xs (nI i + 1).toNatClampNeg), .int (xs (nI i + 2).toNatClampNeg)]) (rest := [.int a]) (ci := 7) ⟨hx, hb, hml, hown, hts⟩ hm9 (cwV 2 hts gL_law_X8_needs rfl rfl rfl (by decide +kernel) ⟨rm8F hr81 (by decide), rm8L hr82 (Nat.le_of_ble_eq_true rfl)⟩) hP1 hD1 hK hS hA rfl he8 rfl hl.1 rfl (Nat.le_of_ble_eq_true rfl) dL_law_761 (lbud8 hr83 hr84 hcl1 hsl1 hk) (fun W2 H2 locs2 hI2 hP2 hD2 hS2 => ?_)
  refine lv_icmp_eq (tgt := 1391) hx hb dL_law_764 (by decide) (fun _ => ?_) (fun c9 => absurd rfl c9)
  exact kk o b' W2 H2 locs2 _ _ ls hI2 hP2 hD2 hS2 hl (by rw [hr83]; exact hcl1) (by rw [hr84]; exact hsl1)
theorem law_ends (hC : LC p s m c b L xs (dC, dI) cI cZ cS) : LK p l e s m below meth c b L xs Q (dC, dI) cI cZ cS F Sh A R0 aO 769 := by
  intro o bb WX H locs cells slots ls i k hi hL3 hI hP hD hS hl hcl hsl hk kk
  obtain ⟨hx, hb, hml, hown, hts, hX, hbl, hK⟩ := hC
  have hA : ∀ q : Nat, s.heap.size ≤ q → (fun q : Nat => s.heap.size ≤ q) q := fun _ h => h
  have hbA : ¬ (fun q : Nat => s.heap.size ≤ q) b := Nat.not_le.mpr hbl
  obtain ⟨a, M, b', rm7, rm8, hr7, hr8, hm7, hm8⟩ := case_ends (x1 := xs (nI i + 1).toNatClampNeg) (x2 := xs (nI i + 2).toNatClampNeg) bb WX hI
  obtain ⟨fs7, he7⟩ := invR hI
  obtain ⟨hr71, hr72, hr73, hr74⟩ := hr7
  obtain ⟨hr81, hr82, hr83, hr84⟩ := hr8
  have hb5 : bb.toNat ≤ 1 := Bool.toNat_le bb
  refine lv_aload_n hx hb dL_law_769 rfl (lv_at hl 1 rfl) ?_
  refine lv_aload_n hx hb dL_law_770 rfl (lv_at hl 0 rfl) ?_
  refine lv_iload hx hb dL_law_771 (lv_at hl 4 rfl) ?_
  refine lv_iconst (v := 1) hx hb dL_law_773 (by decide) ?_
  refine lv_iadd hx hb dL_law_774 ?_
  refine va_sld hx hb hX hbl hbA hS (vin_ (j := 1) (by omega) (by omega)) dL_law_775 ?_
  refine lv_aload_n hx hb dL_law_776 rfl (lv_at hl 0 rfl) ?_
  refine lv_iload hx hb dL_law_777 (lv_at hl 4 rfl) ?_
  refine lv_iconst (v := 2) hx hb dL_law_779 (by decide) ?_
  refine lv_iadd hx hb dL_law_780 ?_
  refine va_sld hx hb hX hbl hbA hS (vin_ (j := 2) (by omega) (by omega)) dL_law_781 ?_
  refine lawCall (As := [.int (xs (nI i + 1).toNatClampNeg), .int (xs (nI i + 2).toNatClampNeg)]) (rest := []) (ci := 6) ⟨hx, hb, hml, hown, hts⟩ hm7 (cwV 2 hts gL_law_X7_ends rfl rfl rfl (by decide +kernel) ⟨rmF hr71 (by decide), rmL hr72 (Nat.le_of_ble_eq_true rfl)⟩) hP hD hK hS hA rfl he7 rfl hl.1 rfl (Nat.zero_le _) dL_law_782 (lbud hr73 hr74 hcl hsl hk) (fun W1 H1 locs1 hM1 hP1 hD1 hS1 => ?_)
  obtain ⟨⟨fs8, he8⟩, hm9⟩ := hm8 W1 hM1
  obtain ⟨hcl1, hsl1⟩ := lbud2 hr73 hr74 hcl hsl
  have hS := hS1
  refine lv_aload_n hx hb dL_law_785 rfl (lv_at hl 2 rfl) ?_
  refine lv_aload_n hx hb dL_law_786 rfl (lv_at hl 0 rfl) ?_
  refine lv_iload hx hb dL_law_787 (lv_at hl 4 rfl) ?_
  refine lv_iconst (v := 1) hx hb dL_law_789 (by decide) ?_
  refine lv_iadd hx hb dL_law_790 ?_
  refine va_sld hx hb hX hbl hbA hS (vin_ (j := 1) (by omega) (by omega)) dL_law_791 ?_
  refine lv_aload_n hx hb dL_law_792 rfl (lv_at hl 0 rfl) ?_
  refine lv_iload hx hb dL_law_793 (lv_at hl 4 rfl) ?_
  refine lv_iconst (v := 2) hx hb dL_law_795 (by decide) ?_
  refine lv_iadd hx hb dL_law_796 ?_
  refine va_sld hx hb hX hbl hbA hS (vin_ (j := 2) (by omega) (by omega)) dL_law_797 ?_
  refine lawCall (As := [.int (xs (nI i + 1).toNatClampNeg), .int (xs (nI i + 2).toNatClampNeg)]) (rest := [.int a]) (ci := 7) ⟨hx, hb, hml, hown, hts⟩ hm9 (cwV 2 hts gL_law_X8_ends rfl rfl rfl (by decide +kernel) ⟨rm8F hr81 (by decide), rm8L hr82 (Nat.le_of_ble_eq_true rfl)⟩) hP1 hD1 hK hS hA rfl he8 rfl hl.1 rfl (Nat.le_of_ble_eq_true rfl) dL_law_798 (lbud8 hr83 hr84 hcl1 hsl1 hk) (fun W2 H2 locs2 hI2 hP2 hD2 hS2 => ?_)
  refine lv_icmp_eq (tgt := 1391) hx hb dL_law_801 (by decide) (fun _ => ?_) (fun c9 => absurd rfl c9)
  exact kk o b' W2 H2 locs2 _ _ ls hI2 hP2 hD2 hS2 hl (by rw [hr83]; exact hcl1) (by rw [hr84]; exact hsl1)
theorem law_gaps (hC : LC p s m c b L xs (dC, dI) cI cZ cS) : LK p l e s m below meth c b L xs Q (dC, dI) cI cZ cS F Sh A R0 aO 806 := by
  intro o bb WX H locs cells slots ls i k hi hL3 hI hP hD hS hl hcl hsl hk kk
  obtain ⟨hx, hb, hml, hown, hts, hX, hbl, hK⟩ := hC
  have hA : ∀ q : Nat, s.heap.size ≤ q → (fun q : Nat => s.heap.size ≤ q) q := fun _ h => h
  have hbA : ¬ (fun q : Nat => s.heap.size ≤ q) b := Nat.not_le.mpr hbl
  obtain ⟨a, M, b', rm7, rm8, hr7, hr8, hm7, hm8⟩ := case_gaps (x1 := xs (nI i + 1).toNatClampNeg) bb WX hI
  obtain ⟨fs7, he7⟩ := invR hI
  obtain ⟨hr71, hr72, hr73, hr74⟩ := hr7
  obtain ⟨hr81, hr82, hr83, hr84⟩ := hr8
  have hb5 : bb.toNat ≤ 1 := Bool.toNat_le bb
  refine lv_aload_n hx hb dL_law_806 rfl (lv_at hl 1 rfl) ?_
  refine lv_aload_n hx hb dL_law_807 rfl (lv_at hl 0 rfl) ?_
  refine lv_iload hx hb dL_law_808 (lv_at hl 4 rfl) ?_
  refine lv_iconst (v := 1) hx hb dL_law_810 (by decide) ?_
  refine lv_iadd hx hb dL_law_811 ?_
  refine va_sld hx hb hX hbl hbA hS (vin_ (j := 1) (by omega) (by omega)) dL_law_812 ?_
  refine lawCall (As := [.int (xs (nI i + 1).toNatClampNeg)]) (rest := []) (ci := 6) ⟨hx, hb, hml, hown, hts⟩ hm7 (cwV 1 hts gL_law_X7_gaps rfl rfl rfl (by decide +kernel) ⟨rmF hr71 (by decide), rmL hr72 (Nat.le_of_ble_eq_true rfl)⟩) hP hD hK hS hA rfl he7 rfl hl.1 rfl (Nat.zero_le _) dL_law_813 (lbud hr73 hr74 hcl hsl hk) (fun W1 H1 locs1 hM1 hP1 hD1 hS1 => ?_)
  obtain ⟨⟨fs8, he8⟩, hm9⟩ := hm8 W1 hM1
  obtain ⟨hcl1, hsl1⟩ := lbud2 hr73 hr74 hcl hsl
  have hS := hS1
  refine lv_aload_n hx hb dL_law_816 rfl (lv_at hl 2 rfl) ?_
  refine lv_aload_n hx hb dL_law_817 rfl (lv_at hl 0 rfl) ?_
  refine lv_iload hx hb dL_law_818 (lv_at hl 4 rfl) ?_
  refine lv_iconst (v := 1) hx hb dL_law_820 (by decide) ?_
  refine lv_iadd hx hb dL_law_821 ?_
  refine va_sld hx hb hX hbl hbA hS (vin_ (j := 1) (by omega) (by omega)) dL_law_822 ?_
  refine lawCall (As := [.int (xs (nI i + 1).toNatClampNeg)]) (rest := [.int a]) (ci := 7) ⟨hx, hb, hml, hown, hts⟩ hm9 (cwV 1 hts gL_law_X8_gaps rfl rfl rfl (by decide +kernel) ⟨rm8F hr81 (by decide), rm8L hr82 (Nat.le_of_ble_eq_true rfl)⟩) hP1 hD1 hK hS hA rfl he8 rfl hl.1 rfl (Nat.le_of_ble_eq_true rfl) dL_law_823 (lbud8 hr83 hr84 hcl1 hsl1 hk) (fun W2 H2 locs2 hI2 hP2 hD2 hS2 => ?_)
  refine lv_icmp_eq (tgt := 1391) hx hb dL_law_826 (by decide) (fun _ => ?_) (fun c9 => absurd rfl c9)
  exact kk o b' W2 H2 locs2 _ _ ls hI2 hP2 hD2 hS2 hl (by rw [hr83]; exact hcl1) (by rw [hr84]; exact hsl1)
theorem law_two (hC : LC p s m c b L xs (dC, dI) cI cZ cS) : LK p l e s m below meth c b L xs Q (dC, dI) cI cZ cS F Sh A R0 aO 831 := by
  intro o bb WX H locs cells slots ls i k hi hL3 hI hP hD hS hl hcl hsl hk kk
  obtain ⟨hx, hb, hml, hown, hts, hX, hbl, hK⟩ := hC
  have hA : ∀ q : Nat, s.heap.size ≤ q → (fun q : Nat => s.heap.size ≤ q) q := fun _ h => h
  have hbA : ¬ (fun q : Nat => s.heap.size ≤ q) b := Nat.not_le.mpr hbl
  obtain ⟨a, M, b', rm7, rm8, hr7, hr8, hm7, hm8⟩ := case_two (x1 := xs (nI i + 1).toNatClampNeg) (x2 := xs (nI i + 2).toNatClampNeg) bb WX hI
  obtain ⟨fs7, he7⟩ := invR hI
  obtain ⟨hr71, hr72, hr73, hr74⟩ := hr7
  obtain ⟨hr81, hr82, hr83, hr84⟩ := hr8
  have hb5 : bb.toNat ≤ 1 := Bool.toNat_le bb
  refine lv_aload_n hx hb dL_law_831 rfl (lv_at hl 1 rfl) ?_
  refine lv_aload_n hx hb dL_law_832 rfl (lv_at hl 0 rfl) ?_
  refine lv_iload hx hb dL_law_833 (lv_at hl 4 rfl) ?_
  refine lv_iconst (v := 1) hx hb dL_law_835 (by decide) ?_
  refine lv_iadd hx hb dL_law_836 ?_
  refine va_sld hx hb hX hbl hbA hS (vin_ (j := 1) (by omega) (by omega)) dL_law_837 ?_
  refine lv_aload_n hx hb dL_law_838 rfl (lv_at hl 0 rfl) ?_
  refine lv_iload hx hb dL_law_839 (lv_at hl 4 rfl) ?_
  refine lv_iconst (v := 2) hx hb dL_law_841 (by decide) ?_
  refine lv_iadd hx hb dL_law_842 ?_
  refine va_sld hx hb hX hbl hbA hS (vin_ (j := 2) (by omega) (by omega)) dL_law_843 ?_
  refine lawCall (As := [.int (xs (nI i + 1).toNatClampNeg), .int (xs (nI i + 2).toNatClampNeg)]) (rest := []) (ci := 6) ⟨hx, hb, hml, hown, hts⟩ hm7 (cwV 2 hts gL_law_X7_two rfl rfl rfl (by decide +kernel) ⟨rmF hr71 (by decide), rmL hr72 (Nat.le_of_ble_eq_true rfl)⟩) hP hD hK hS hA rfl he7 rfl hl.1 rfl (Nat.zero_le _) dL_law_844 (lbud hr73 hr74 hcl hsl hk) (fun W1 H1 locs1 hM1 hP1 hD1 hS1 => ?_)
  obtain ⟨⟨fs8, he8⟩, hm9⟩ := hm8 W1 hM1
  obtain ⟨hcl1, hsl1⟩ := lbud2 hr73 hr74 hcl hsl
  have hS := hS1
  refine lv_aload_n hx hb dL_law_847 rfl (lv_at hl 2 rfl) ?_
  refine lv_aload_n hx hb dL_law_848 rfl (lv_at hl 0 rfl) ?_
  refine lv_iload hx hb dL_law_849 (lv_at hl 4 rfl) ?_
  refine lv_iconst (v := 1) hx hb dL_law_851 (by decide) ?_
  refine lv_iadd hx hb dL_law_852 ?_
  refine va_sld hx hb hX hbl hbA hS (vin_ (j := 1) (by omega) (by omega)) dL_law_853 ?_
  refine lv_aload_n hx hb dL_law_854 rfl (lv_at hl 0 rfl) ?_
  refine lv_iload hx hb dL_law_855 (lv_at hl 4 rfl) ?_
  refine lv_iconst (v := 2) hx hb dL_law_857 (by decide) ?_
  refine lv_iadd hx hb dL_law_858 ?_
  refine va_sld hx hb hX hbl hbA hS (vin_ (j := 2) (by omega) (by omega)) dL_law_859 ?_
  refine lawCall (As := [.int (xs (nI i + 1).toNatClampNeg), .int (xs (nI i + 2).toNatClampNeg)]) (rest := [.int a]) (ci := 7) ⟨hx, hb, hml, hown, hts⟩ hm9 (cwV 2 hts gL_law_X8_two rfl rfl rfl (by decide +kernel) ⟨rm8F hr81 (by decide), rm8L hr82 (Nat.le_of_ble_eq_true rfl)⟩) hP1 hD1 hK hS hA rfl he8 rfl hl.1 rfl (Nat.le_of_ble_eq_true rfl) dL_law_860 (lbud8 hr83 hr84 hcl1 hsl1 hk) (fun W2 H2 locs2 hI2 hP2 hD2 hS2 => ?_)
  refine lv_icmp_eq (tgt := 1391) hx hb dL_law_863 (by decide) (fun _ => ?_) (fun c9 => absurd rfl c9)
  exact kk o b' W2 H2 locs2 _ _ ls hI2 hP2 hD2 hS2 hl (by rw [hr83]; exact hcl1) (by rw [hr84]; exact hsl1)
theorem law_all (hC : LC p s m c b L xs (dC, dI) cI cZ cS) : LK p l e s m below meth c b L xs Q (dC, dI) cI cZ cS F Sh A R0 aO 868 := by
  intro o bb WX H locs cells slots ls i k hi hL3 hI hP hD hS hl hcl hsl hk kk
  obtain ⟨hx, hb, hml, hown, hts, hX, hbl, hK⟩ := hC
  have hA : ∀ q : Nat, s.heap.size ≤ q → (fun q : Nat => s.heap.size ≤ q) q := fun _ h => h
  have hbA : ¬ (fun q : Nat => s.heap.size ≤ q) b := Nat.not_le.mpr hbl
  obtain ⟨a, M, b', rm7, rm8, hr7, hr8, hm7, hm8⟩ := case_all (x1 := xs (nI i + 1).toNatClampNeg) bb WX hI
  obtain ⟨fs7, he7⟩ := invR hI
  obtain ⟨hr71, hr72, hr73, hr74⟩ := hr7
  obtain ⟨hr81, hr82, hr83, hr84⟩ := hr8
  have hb5 : bb.toNat ≤ 1 := Bool.toNat_le bb
  refine lv_aload_n hx hb dL_law_868 rfl (lv_at hl 1 rfl) ?_
  refine lv_aload_n hx hb dL_law_869 rfl (lv_at hl 0 rfl) ?_
  refine lv_iload hx hb dL_law_870 (lv_at hl 4 rfl) ?_
  refine lv_iconst (v := 1) hx hb dL_law_872 (by decide) ?_
  refine lv_iadd hx hb dL_law_873 ?_
  refine va_sld hx hb hX hbl hbA hS (vin_ (j := 1) (by omega) (by omega)) dL_law_874 ?_
  refine lawCall (As := [.int (xs (nI i + 1).toNatClampNeg)]) (rest := []) (ci := 6) ⟨hx, hb, hml, hown, hts⟩ hm7 (cwV 1 hts gL_law_X7_all rfl rfl rfl (by decide +kernel) ⟨rmF hr71 (by decide), rmL hr72 (Nat.le_of_ble_eq_true rfl)⟩) hP hD hK hS hA rfl he7 rfl hl.1 rfl (Nat.zero_le _) dL_law_875 (lbud hr73 hr74 hcl hsl hk) (fun W1 H1 locs1 hM1 hP1 hD1 hS1 => ?_)
  obtain ⟨⟨fs8, he8⟩, hm9⟩ := hm8 W1 hM1
  obtain ⟨hcl1, hsl1⟩ := lbud2 hr73 hr74 hcl hsl
  have hS := hS1
  refine lv_aload_n hx hb dL_law_878 rfl (lv_at hl 2 rfl) ?_
  refine lv_aload_n hx hb dL_law_879 rfl (lv_at hl 0 rfl) ?_
  refine lv_iload hx hb dL_law_880 (lv_at hl 4 rfl) ?_
  refine lv_iconst (v := 1) hx hb dL_law_882 (by decide) ?_
  refine lv_iadd hx hb dL_law_883 ?_
  refine va_sld hx hb hX hbl hbA hS (vin_ (j := 1) (by omega) (by omega)) dL_law_884 ?_
  refine lawCall (As := [.int (xs (nI i + 1).toNatClampNeg)]) (rest := [.int a]) (ci := 7) ⟨hx, hb, hml, hown, hts⟩ hm9 (cwV 1 hts gL_law_X8_all rfl rfl rfl (by decide +kernel) ⟨rm8F hr81 (by decide), rm8L hr82 (Nat.le_of_ble_eq_true rfl)⟩) hP1 hD1 hK hS hA rfl he8 rfl hl.1 rfl (Nat.le_of_ble_eq_true rfl) dL_law_885 (lbud8 hr83 hr84 hcl1 hsl1 hk) (fun W2 H2 locs2 hI2 hP2 hD2 hS2 => ?_)
  refine lv_icmp_eq (tgt := 1391) hx hb dL_law_888 (by decide) (fun _ => ?_) (fun c9 => absurd rfl c9)
  exact kk o b' W2 H2 locs2 _ _ ls hI2 hP2 hD2 hS2 hl (by rw [hr83]; exact hcl1) (by rw [hr84]; exact hsl1)
theorem law_broken (hC : LC p s m c b L xs (dC, dI) cI cZ cS) : LK p l e s m below meth c b L xs Q (dC, dI) cI cZ cS F Sh A R0 aO 893 := by
  intro o bb WX H locs cells slots ls i k hi hL3 hI hP hD hS hl hcl hsl hk kk
  obtain ⟨hx, hb, hml, hown, hts, hX, hbl, hK⟩ := hC
  have hA : ∀ q : Nat, s.heap.size ≤ q → (fun q : Nat => s.heap.size ≤ q) q := fun _ h => h
  have hbA : ¬ (fun q : Nat => s.heap.size ≤ q) b := Nat.not_le.mpr hbl
  obtain ⟨a, M, b', rm7, rm8, hr7, hr8, hm7, hm8⟩ := case_broken (x1 := xs (nI i + 1).toNatClampNeg) (x2 := xs (nI i + 2).toNatClampNeg) bb WX hI
  obtain ⟨fs7, he7⟩ := invR hI
  obtain ⟨hr71, hr72, hr73, hr74⟩ := hr7
  obtain ⟨hr81, hr82, hr83, hr84⟩ := hr8
  have hb5 : bb.toNat ≤ 1 := Bool.toNat_le bb
  refine lv_aload_n hx hb dL_law_893 rfl (lv_at hl 1 rfl) ?_
  refine lv_aload_n hx hb dL_law_894 rfl (lv_at hl 0 rfl) ?_
  refine lv_iload hx hb dL_law_895 (lv_at hl 4 rfl) ?_
  refine lv_iconst (v := 1) hx hb dL_law_897 (by decide) ?_
  refine lv_iadd hx hb dL_law_898 ?_
  refine va_sld hx hb hX hbl hbA hS (vin_ (j := 1) (by omega) (by omega)) dL_law_899 ?_
  refine lv_aload_n hx hb dL_law_900 rfl (lv_at hl 0 rfl) ?_
  refine lv_iload hx hb dL_law_901 (lv_at hl 4 rfl) ?_
  refine lv_iconst (v := 2) hx hb dL_law_903 (by decide) ?_
  refine lv_iadd hx hb dL_law_904 ?_
  refine va_sld hx hb hX hbl hbA hS (vin_ (j := 2) (by omega) (by omega)) dL_law_905 ?_
  refine lawCall (As := [.int (xs (nI i + 1).toNatClampNeg), .int (xs (nI i + 2).toNatClampNeg)]) (rest := []) (ci := 6) ⟨hx, hb, hml, hown, hts⟩ hm7 (cwV 2 hts gL_law_X7_broken rfl rfl rfl (by decide +kernel) ⟨rmF hr71 (by decide), rmL hr72 (Nat.le_of_ble_eq_true rfl)⟩) hP hD hK hS hA rfl he7 rfl hl.1 rfl (Nat.zero_le _) dL_law_906 (lbud hr73 hr74 hcl hsl hk) (fun W1 H1 locs1 hM1 hP1 hD1 hS1 => ?_)
  obtain ⟨⟨fs8, he8⟩, hm9⟩ := hm8 W1 hM1
  obtain ⟨hcl1, hsl1⟩ := lbud2 hr73 hr74 hcl hsl
  have hS := hS1
  refine lv_aload_n hx hb dL_law_909 rfl (lv_at hl 2 rfl) ?_
  refine lv_aload_n hx hb dL_law_910 rfl (lv_at hl 0 rfl) ?_
  refine lv_iload hx hb dL_law_911 (lv_at hl 4 rfl) ?_
  refine lv_iconst (v := 1) hx hb dL_law_913 (by decide) ?_
  refine lv_iadd hx hb dL_law_914 ?_
  refine va_sld hx hb hX hbl hbA hS (vin_ (j := 1) (by omega) (by omega)) dL_law_915 ?_
  refine lv_aload_n hx hb dL_law_916 rfl (lv_at hl 0 rfl) ?_
  refine lv_iload hx hb dL_law_917 (lv_at hl 4 rfl) ?_
  refine lv_iconst (v := 2) hx hb dL_law_919 (by decide) ?_
  refine lv_iadd hx hb dL_law_920 ?_
  refine va_sld hx hb hX hbl hbA hS (vin_ (j := 2) (by omega) (by omega)) dL_law_921 ?_
  refine lawCall (As := [.int (xs (nI i + 1).toNatClampNeg), .int (xs (nI i + 2).toNatClampNeg)]) (rest := [.int a]) (ci := 7) ⟨hx, hb, hml, hown, hts⟩ hm9 (cwV 2 hts gL_law_X8_broken rfl rfl rfl (by decide +kernel) ⟨rm8F hr81 (by decide), rm8L hr82 (Nat.le_of_ble_eq_true rfl)⟩) hP1 hD1 hK hS hA rfl he8 rfl hl.1 rfl (Nat.le_of_ble_eq_true rfl) dL_law_922 (lbud8 hr83 hr84 hcl1 hsl1 hk) (fun W2 H2 locs2 hI2 hP2 hD2 hS2 => ?_)
  refine lv_icmp_eq (tgt := 1391) hx hb dL_law_925 (by decide) (fun _ => ?_) (fun c9 => absurd rfl c9)
  exact kk o b' W2 H2 locs2 _ _ ls hI2 hP2 hD2 hS2 hl (by rw [hr83]; exact hcl1) (by rw [hr84]; exact hsl1)
theorem law_by (hC : LC p s m c b L xs (dC, dI) cI cZ cS) (hSh : ∀ k, k < 8 → Sh k = some (F.2.2.2.2.2.1 k)) : LK p l e s m below meth c b L xs Q (dC, dI) cI cZ cS F Sh A R0 aO 930 := by
  intro o bb WX H locs cells slots ls i k hi hL3 hI hP hD hS hl hcl hsl hk kk
  obtain ⟨hx, hb, hml, hown, hts, hX, hbl, hK⟩ := hC
  have hA : ∀ q : Nat, s.heap.size ≤ q → (fun q : Nat => s.heap.size ≤ q) q := fun _ h => h
  have hbA : ¬ (fun q : Nat => s.heap.size ≤ q) b := Nat.not_le.mpr hbl
  obtain ⟨a, M, b', rm7, rm8, hr7, hr8, hm7, hm8⟩ := case_by hSh (x1 := xs (nI i + 1).toNatClampNeg) (x2 := xs (nI i + 2).toNatClampNeg) (x3 := xs (nI i + 3).toNatClampNeg) (x4 := xs (nI i + 4).toNatClampNeg) bb WX hI
  obtain ⟨fs7, he7⟩ := invR hI
  obtain ⟨hr71, hr72, hr73, hr74⟩ := hr7
  obtain ⟨hr81, hr82, hr83, hr84⟩ := hr8
  have hb5 : bb.toNat ≤ 1 := Bool.toNat_le bb
  refine lv_aload_n hx hb dL_law_930 rfl (lv_at hl 1 rfl) ?_
  refine lv_aload_n hx hb dL_law_931 rfl (lv_at hl 0 rfl) ?_
  refine lv_iload hx hb dL_law_932 (lv_at hl 4 rfl) ?_
  refine lv_iconst (v := 1) hx hb dL_law_934 (by decide) ?_
  refine lv_iadd hx hb dL_law_935 ?_
  refine va_sld hx hb hX hbl hbA hS (vin_ (j := 1) (by omega) (by omega)) dL_law_936 ?_
  refine lv_aload_n hx hb dL_law_937 rfl (lv_at hl 0 rfl) ?_
  refine lv_iload hx hb dL_law_938 (lv_at hl 4 rfl) ?_
  refine lv_iconst (v := 2) hx hb dL_law_940 (by decide) ?_
  refine lv_iadd hx hb dL_law_941 ?_
  refine va_sld hx hb hX hbl hbA hS (vin_ (j := 2) (by omega) (by omega)) dL_law_942 ?_
  refine lv_aload_n hx hb dL_law_943 rfl (lv_at hl 0 rfl) ?_
  refine lv_iload hx hb dL_law_944 (lv_at hl 4 rfl) ?_
  refine lv_iconst (v := 3) hx hb dL_law_946 (by decide) ?_
  refine lv_iadd hx hb dL_law_947 ?_
  refine va_sld hx hb hX hbl hbA hS (vin_ (j := 3) (by omega) (by omega)) dL_law_948 ?_
  refine lv_aload_n hx hb dL_law_949 rfl (lv_at hl 0 rfl) ?_
  refine lv_iload hx hb dL_law_950 (lv_at hl 4 rfl) ?_
  refine lv_iconst (v := 4) hx hb dL_law_952 (by decide) ?_
  refine lv_iadd hx hb dL_law_953 ?_
  refine va_sld hx hb hX hbl hbA hS (vin_ (j := 4) (by omega) (by omega)) dL_law_954 ?_
  refine lawCall (As := [.int (xs (nI i + 1).toNatClampNeg), .int (xs (nI i + 2).toNatClampNeg), .int (xs (nI i + 3).toNatClampNeg), .int (xs (nI i + 4).toNatClampNeg)]) (rest := []) (ci := 6) ⟨hx, hb, hml, hown, hts⟩ hm7 (cwV 4 hts gL_law_X7_by rfl rfl rfl (by decide +kernel) ⟨rmF hr71 (by decide), rmL hr72 (Nat.le_of_ble_eq_true rfl)⟩) hP hD hK hS hA rfl he7 rfl hl.1 rfl (Nat.zero_le _) dL_law_955 (lbud hr73 hr74 hcl hsl hk) (fun W1 H1 locs1 hM1 hP1 hD1 hS1 => ?_)
  obtain ⟨⟨fs8, he8⟩, hm9⟩ := hm8 W1 hM1
  obtain ⟨hcl1, hsl1⟩ := lbud2 hr73 hr74 hcl hsl
  have hS := hS1
  refine lv_aload_n hx hb dL_law_958 rfl (lv_at hl 2 rfl) ?_
  refine lv_aload_n hx hb dL_law_959 rfl (lv_at hl 0 rfl) ?_
  refine lv_iload hx hb dL_law_960 (lv_at hl 4 rfl) ?_
  refine lv_iconst (v := 1) hx hb dL_law_962 (by decide) ?_
  refine lv_iadd hx hb dL_law_963 ?_
  refine va_sld hx hb hX hbl hbA hS (vin_ (j := 1) (by omega) (by omega)) dL_law_964 ?_
  refine lv_aload_n hx hb dL_law_965 rfl (lv_at hl 0 rfl) ?_
  refine lv_iload hx hb dL_law_966 (lv_at hl 4 rfl) ?_
  refine lv_iconst (v := 2) hx hb dL_law_968 (by decide) ?_
  refine lv_iadd hx hb dL_law_969 ?_
  refine va_sld hx hb hX hbl hbA hS (vin_ (j := 2) (by omega) (by omega)) dL_law_970 ?_
  refine lv_aload_n hx hb dL_law_971 rfl (lv_at hl 0 rfl) ?_
  refine lv_iload hx hb dL_law_972 (lv_at hl 4 rfl) ?_
  refine lv_iconst (v := 3) hx hb dL_law_974 (by decide) ?_
  refine lv_iadd hx hb dL_law_975 ?_
  refine va_sld hx hb hX hbl hbA hS (vin_ (j := 3) (by omega) (by omega)) dL_law_976 ?_
  refine lv_aload_n hx hb dL_law_977 rfl (lv_at hl 0 rfl) ?_
  refine lv_iload hx hb dL_law_978 (lv_at hl 4 rfl) ?_
  refine lv_iconst (v := 4) hx hb dL_law_980 (by decide) ?_
  refine lv_iadd hx hb dL_law_981 ?_
  refine va_sld hx hb hX hbl hbA hS (vin_ (j := 4) (by omega) (by omega)) dL_law_982 ?_
  refine lawCall (As := [.int (xs (nI i + 1).toNatClampNeg), .int (xs (nI i + 2).toNatClampNeg), .int (xs (nI i + 3).toNatClampNeg), .int (xs (nI i + 4).toNatClampNeg)]) (rest := [.int a]) (ci := 7) ⟨hx, hb, hml, hown, hts⟩ hm9 (cwV 4 hts gL_law_X8_by rfl rfl rfl (by decide +kernel) ⟨rm8F hr81 (by decide), rm8L hr82 (Nat.le_of_ble_eq_true rfl)⟩) hP1 hD1 hK hS hA rfl he8 rfl hl.1 rfl (Nat.le_of_ble_eq_true rfl) dL_law_983 (lbud8 hr83 hr84 hcl1 hsl1 hk) (fun W2 H2 locs2 hI2 hP2 hD2 hS2 => ?_)
  refine lv_icmp_eq (tgt := 1391) hx hb dL_law_986 (by decide) (fun _ => ?_) (fun c9 => absurd rfl c9)
  exact kk o b' W2 H2 locs2 _ _ ls hI2 hP2 hD2 hS2 hl (by rw [hr83]; exact hcl1) (by rw [hr84]; exact hsl1)
theorem law_image (hC : LC p s m c b L xs (dC, dI) cI cZ cS) : LK p l e s m below meth c b L xs Q (dC, dI) cI cZ cS F Sh A R0 aO 991 := by
  intro o bb WX H locs cells slots ls i k hi hL3 hI hP hD hS hl hcl hsl hk kk
  obtain ⟨hx, hb, hml, hown, hts, hX, hbl, hK⟩ := hC
  have hA : ∀ q : Nat, s.heap.size ≤ q → (fun q : Nat => s.heap.size ≤ q) q := fun _ h => h
  have hbA : ¬ (fun q : Nat => s.heap.size ≤ q) b := Nat.not_le.mpr hbl
  obtain ⟨a, M, b', rm7, rm8, hr7, hr8, hm7, hm8⟩ := case_image  bb WX hI
  obtain ⟨fs7, he7⟩ := invR hI
  obtain ⟨hr71, hr72, hr73, hr74⟩ := hr7
  obtain ⟨hr81, hr82, hr83, hr84⟩ := hr8
  have hb5 : bb.toNat ≤ 1 := Bool.toNat_le bb
  refine lv_aload_n hx hb dL_law_991 rfl (lv_at hl 1 rfl) ?_
  refine lawCall (As := []) (rest := []) (ci := 6) ⟨hx, hb, hml, hown, hts⟩ hm7 (cwV 0 hts gL_law_X7_image rfl rfl rfl (by decide +kernel) ⟨rmF hr71 (by decide), rmL hr72 (Nat.le_of_ble_eq_true rfl)⟩) hP hD hK hS hA rfl he7 rfl hl.1 rfl (Nat.zero_le _) dL_law_992 (lbud hr73 hr74 hcl hsl hk) (fun W1 H1 locs1 hM1 hP1 hD1 hS1 => ?_)
  obtain ⟨⟨fs8, he8⟩, hm9⟩ := hm8 W1 hM1
  obtain ⟨hcl1, hsl1⟩ := lbud2 hr73 hr74 hcl hsl
  have hS := hS1
  refine lv_aload_n hx hb dL_law_995 rfl (lv_at hl 2 rfl) ?_
  refine lawCall (As := []) (rest := [.int a]) (ci := 7) ⟨hx, hb, hml, hown, hts⟩ hm9 (cwV 0 hts gL_law_X8_image rfl rfl rfl (by decide +kernel) ⟨rm8F hr81 (by decide), rm8L hr82 (Nat.le_of_ble_eq_true rfl)⟩) hP1 hD1 hK hS hA rfl he8 rfl hl.1 rfl (Nat.le_of_ble_eq_true rfl) dL_law_996 (lbud8 hr83 hr84 hcl1 hsl1 hk) (fun W2 H2 locs2 hI2 hP2 hD2 hS2 => ?_)
  refine lv_icmp_eq (tgt := 1391) hx hb dL_law_999 (by decide) (fun _ => ?_) (fun c9 => absurd rfl c9)
  exact kk o b' W2 H2 locs2 _ _ ls hI2 hP2 hD2 hS2 hl (by rw [hr83]; exact hcl1) (by rw [hr84]; exact hsl1)
theorem law_restore (hC : LC p s m c b L xs (dC, dI) cI cZ cS) : LK p l e s m below meth c b L xs Q (dC, dI) cI cZ cS F Sh A R0 aO 1004 := by
  intro o bb WX H locs cells slots ls i k hi hL3 hI hP hD hS hl hcl hsl hk kk
  obtain ⟨hx, hb, hml, hown, hts, hX, hbl, hK⟩ := hC
  have hA : ∀ q : Nat, s.heap.size ≤ q → (fun q : Nat => s.heap.size ≤ q) q := fun _ h => h
  have hbA : ¬ (fun q : Nat => s.heap.size ≤ q) b := Nat.not_le.mpr hbl
  obtain ⟨a, M, b', rm7, rm8, hr7, hr8, hm7, hm8⟩ := case_restore  bb WX hI
  obtain ⟨fs7, he7⟩ := invR hI
  obtain ⟨hr71, hr72, hr73, hr74⟩ := hr7
  obtain ⟨hr81, hr82, hr83, hr84⟩ := hr8
  have hb5 : bb.toNat ≤ 1 := Bool.toNat_le bb
  refine lv_aload_n hx hb dL_law_1004 rfl (lv_at hl 1 rfl) ?_
  refine lawCall (As := []) (rest := []) (ci := 6) ⟨hx, hb, hml, hown, hts⟩ hm7 (cwV 0 hts gL_law_X7_restore rfl rfl rfl (by decide +kernel) ⟨rmF hr71 (by decide), rmL hr72 (Nat.le_of_ble_eq_true rfl)⟩) hP hD hK hS hA rfl he7 rfl hl.1 rfl (Nat.zero_le _) dL_law_1005 (lbud hr73 hr74 hcl hsl hk) (fun W1 H1 locs1 hM1 hP1 hD1 hS1 => ?_)
  obtain ⟨⟨fs8, he8⟩, hm9⟩ := hm8 W1 hM1
  obtain ⟨hcl1, hsl1⟩ := lbud2 hr73 hr74 hcl hsl
  have hS := hS1
  refine lv_aload_n hx hb dL_law_1008 rfl (lv_at hl 2 rfl) ?_
  refine lawCall (As := []) (rest := [.int a]) (ci := 7) ⟨hx, hb, hml, hown, hts⟩ hm9 (cwV 0 hts gL_law_X8_restore rfl rfl rfl (by decide +kernel) ⟨rm8F hr81 (by decide), rm8L hr82 (Nat.le_of_ble_eq_true rfl)⟩) hP1 hD1 hK hS hA rfl he8 rfl hl.1 rfl (Nat.le_of_ble_eq_true rfl) dL_law_1009 (lbud8 hr83 hr84 hcl1 hsl1 hk) (fun W2 H2 locs2 hI2 hP2 hD2 hS2 => ?_)
  refine lv_icmp_eq (tgt := 1391) hx hb dL_law_1012 (by decide) (fun _ => ?_) (fun c9 => absurd rfl c9)
  exact kk o b' W2 H2 locs2 _ _ ls hI2 hP2 hD2 hS2 hl (by rw [hr83]; exact hcl1) (by rw [hr84]; exact hsl1)
theorem law_count (hC : LC p s m c b L xs (dC, dI) cI cZ cS) : LK p l e s m below meth c b L xs Q (dC, dI) cI cZ cS F Sh A R0 aO 1017 := by
  intro o bb WX H locs cells slots ls i k hi hL3 hI hP hD hS hl hcl hsl hk kk
  obtain ⟨hx, hb, hml, hown, hts, hX, hbl, hK⟩ := hC
  have hA : ∀ q : Nat, s.heap.size ≤ q → (fun q : Nat => s.heap.size ≤ q) q := fun _ h => h
  have hbA : ¬ (fun q : Nat => s.heap.size ≤ q) b := Nat.not_le.mpr hbl
  obtain ⟨a, M, b', rm7, rm8, hr7, hr8, hm7, hm8⟩ := case_count (x1 := xs (nI i + 1).toNatClampNeg) bb WX hI
  obtain ⟨fs7, he7⟩ := invR hI
  obtain ⟨hr71, hr72, hr73, hr74⟩ := hr7
  obtain ⟨hr81, hr82, hr83, hr84⟩ := hr8
  have hb5 : bb.toNat ≤ 1 := Bool.toNat_le bb
  refine lv_aload_n hx hb dL_law_1017 rfl (lv_at hl 1 rfl) ?_
  refine lv_aload_n hx hb dL_law_1018 rfl (lv_at hl 0 rfl) ?_
  refine lv_iload hx hb dL_law_1019 (lv_at hl 4 rfl) ?_
  refine lv_iconst (v := 1) hx hb dL_law_1021 (by decide) ?_
  refine lv_iadd hx hb dL_law_1022 ?_
  refine va_sld hx hb hX hbl hbA hS (vin_ (j := 1) (by omega) (by omega)) dL_law_1023 ?_
  refine lawCall (As := [.int (xs (nI i + 1).toNatClampNeg)]) (rest := []) (ci := 6) ⟨hx, hb, hml, hown, hts⟩ hm7 (cwV 1 hts gL_law_X7_count rfl rfl rfl (by decide +kernel) ⟨rmF hr71 (by decide), rmL hr72 (Nat.le_of_ble_eq_true rfl)⟩) hP hD hK hS hA rfl he7 rfl hl.1 rfl (Nat.zero_le _) dL_law_1024 (lbud hr73 hr74 hcl hsl hk) (fun W1 H1 locs1 hM1 hP1 hD1 hS1 => ?_)
  obtain ⟨⟨fs8, he8⟩, hm9⟩ := hm8 W1 hM1
  obtain ⟨hcl1, hsl1⟩ := lbud2 hr73 hr74 hcl hsl
  have hS := hS1
  refine lv_aload_n hx hb dL_law_1027 rfl (lv_at hl 2 rfl) ?_
  refine lv_aload_n hx hb dL_law_1028 rfl (lv_at hl 0 rfl) ?_
  refine lv_iload hx hb dL_law_1029 (lv_at hl 4 rfl) ?_
  refine lv_iconst (v := 1) hx hb dL_law_1031 (by decide) ?_
  refine lv_iadd hx hb dL_law_1032 ?_
  refine va_sld hx hb hX hbl hbA hS (vin_ (j := 1) (by omega) (by omega)) dL_law_1033 ?_
  refine lawCall (As := [.int (xs (nI i + 1).toNatClampNeg)]) (rest := [.int a]) (ci := 7) ⟨hx, hb, hml, hown, hts⟩ hm9 (cwV 1 hts gL_law_X8_count rfl rfl rfl (by decide +kernel) ⟨rm8F hr81 (by decide), rm8L hr82 (Nat.le_of_ble_eq_true rfl)⟩) hP1 hD1 hK hS hA rfl he8 rfl hl.1 rfl (Nat.le_of_ble_eq_true rfl) dL_law_1034 (lbud8 hr83 hr84 hcl1 hsl1 hk) (fun W2 H2 locs2 hI2 hP2 hD2 hS2 => ?_)
  refine lv_icmp_eq (tgt := 1391) hx hb dL_law_1037 (by decide) (fun _ => ?_) (fun c9 => absurd rfl c9)
  exact kk o b' W2 H2 locs2 _ _ ls hI2 hP2 hD2 hS2 hl (by rw [hr83]; exact hcl1) (by rw [hr84]; exact hsl1)
theorem law_keep (hC : LC p s m c b L xs (dC, dI) cI cZ cS) (hSh : ∀ k, k < 8 → Sh k = some (F.2.2.2.2.2.1 k)) : LK p l e s m below meth c b L xs Q (dC, dI) cI cZ cS F Sh A R0 aO 1042 := by
  intro o bb WX H locs cells slots ls i k hi hL3 hI hP hD hS hl hcl hsl hk kk
  obtain ⟨hx, hb, hml, hown, hts, hX, hbl, hK⟩ := hC
  have hA : ∀ q : Nat, s.heap.size ≤ q → (fun q : Nat => s.heap.size ≤ q) q := fun _ h => h
  have hbA : ¬ (fun q : Nat => s.heap.size ≤ q) b := Nat.not_le.mpr hbl
  obtain ⟨a, M, b', rm7, rm8, hr7, hr8, hm7, hm8⟩ := case_keep hSh (x1 := xs (nI i + 1).toNatClampNeg) (x2 := xs (nI i + 2).toNatClampNeg) (x3 := xs (nI i + 3).toNatClampNeg) (x4 := xs (nI i + 4).toNatClampNeg) bb WX hI
  obtain ⟨fs7, he7⟩ := invR hI
  obtain ⟨hr71, hr72, hr73, hr74⟩ := hr7
  obtain ⟨hr81, hr82, hr83, hr84⟩ := hr8
  have hb5 : bb.toNat ≤ 1 := Bool.toNat_le bb
  refine lv_aload_n hx hb dL_law_1042 rfl (lv_at hl 1 rfl) ?_
  refine lv_aload_n hx hb dL_law_1043 rfl (lv_at hl 0 rfl) ?_
  refine lv_iload hx hb dL_law_1044 (lv_at hl 4 rfl) ?_
  refine lv_iconst (v := 1) hx hb dL_law_1046 (by decide) ?_
  refine lv_iadd hx hb dL_law_1047 ?_
  refine va_sld hx hb hX hbl hbA hS (vin_ (j := 1) (by omega) (by omega)) dL_law_1048 ?_
  refine lv_aload_n hx hb dL_law_1049 rfl (lv_at hl 0 rfl) ?_
  refine lv_iload hx hb dL_law_1050 (lv_at hl 4 rfl) ?_
  refine lv_iconst (v := 2) hx hb dL_law_1052 (by decide) ?_
  refine lv_iadd hx hb dL_law_1053 ?_
  refine va_sld hx hb hX hbl hbA hS (vin_ (j := 2) (by omega) (by omega)) dL_law_1054 ?_
  refine lv_aload_n hx hb dL_law_1055 rfl (lv_at hl 0 rfl) ?_
  refine lv_iload hx hb dL_law_1056 (lv_at hl 4 rfl) ?_
  refine lv_iconst (v := 3) hx hb dL_law_1058 (by decide) ?_
  refine lv_iadd hx hb dL_law_1059 ?_
  refine va_sld hx hb hX hbl hbA hS (vin_ (j := 3) (by omega) (by omega)) dL_law_1060 ?_
  refine lv_aload_n hx hb dL_law_1061 rfl (lv_at hl 0 rfl) ?_
  refine lv_iload hx hb dL_law_1062 (lv_at hl 4 rfl) ?_
  refine lv_iconst (v := 4) hx hb dL_law_1064 (by decide) ?_
  refine lv_iadd hx hb dL_law_1065 ?_
  refine va_sld hx hb hX hbl hbA hS (vin_ (j := 4) (by omega) (by omega)) dL_law_1066 ?_
  refine lawCall (As := [.int (xs (nI i + 1).toNatClampNeg), .int (xs (nI i + 2).toNatClampNeg), .int (xs (nI i + 3).toNatClampNeg), .int (xs (nI i + 4).toNatClampNeg)]) (rest := []) (ci := 6) ⟨hx, hb, hml, hown, hts⟩ hm7 (cwV 4 hts gL_law_X7_keep rfl rfl rfl (by decide +kernel) ⟨rmF hr71 (by decide), rmL hr72 (Nat.le_of_ble_eq_true rfl)⟩) hP hD hK hS hA rfl he7 rfl hl.1 rfl (Nat.zero_le _) dL_law_1067 (lbud hr73 hr74 hcl hsl hk) (fun W1 H1 locs1 hM1 hP1 hD1 hS1 => ?_)
  obtain ⟨⟨fs8, he8⟩, hm9⟩ := hm8 W1 hM1
  obtain ⟨hcl1, hsl1⟩ := lbud2 hr73 hr74 hcl hsl
  have hS := hS1
  refine lv_aload_n hx hb dL_law_1070 rfl (lv_at hl 2 rfl) ?_
  refine lv_aload_n hx hb dL_law_1071 rfl (lv_at hl 0 rfl) ?_
  refine lv_iload hx hb dL_law_1072 (lv_at hl 4 rfl) ?_
  refine lv_iconst (v := 1) hx hb dL_law_1074 (by decide) ?_
  refine lv_iadd hx hb dL_law_1075 ?_
  refine va_sld hx hb hX hbl hbA hS (vin_ (j := 1) (by omega) (by omega)) dL_law_1076 ?_
  refine lv_aload_n hx hb dL_law_1077 rfl (lv_at hl 0 rfl) ?_
  refine lv_iload hx hb dL_law_1078 (lv_at hl 4 rfl) ?_
  refine lv_iconst (v := 2) hx hb dL_law_1080 (by decide) ?_
  refine lv_iadd hx hb dL_law_1081 ?_
  refine va_sld hx hb hX hbl hbA hS (vin_ (j := 2) (by omega) (by omega)) dL_law_1082 ?_
  refine lv_aload_n hx hb dL_law_1083 rfl (lv_at hl 0 rfl) ?_
  refine lv_iload hx hb dL_law_1084 (lv_at hl 4 rfl) ?_
  refine lv_iconst (v := 3) hx hb dL_law_1086 (by decide) ?_
  refine lv_iadd hx hb dL_law_1087 ?_
  refine va_sld hx hb hX hbl hbA hS (vin_ (j := 3) (by omega) (by omega)) dL_law_1088 ?_
  refine lv_aload_n hx hb dL_law_1089 rfl (lv_at hl 0 rfl) ?_
  refine lv_iload hx hb dL_law_1090 (lv_at hl 4 rfl) ?_
  refine lv_iconst (v := 4) hx hb dL_law_1092 (by decide) ?_
  refine lv_iadd hx hb dL_law_1093 ?_
  refine va_sld hx hb hX hbl hbA hS (vin_ (j := 4) (by omega) (by omega)) dL_law_1094 ?_
  refine lawCall (As := [.int (xs (nI i + 1).toNatClampNeg), .int (xs (nI i + 2).toNatClampNeg), .int (xs (nI i + 3).toNatClampNeg), .int (xs (nI i + 4).toNatClampNeg)]) (rest := [.int a]) (ci := 7) ⟨hx, hb, hml, hown, hts⟩ hm9 (cwV 4 hts gL_law_X8_keep rfl rfl rfl (by decide +kernel) ⟨rm8F hr81 (by decide), rm8L hr82 (Nat.le_of_ble_eq_true rfl)⟩) hP1 hD1 hK hS hA rfl he8 rfl hl.1 rfl (Nat.le_of_ble_eq_true rfl) dL_law_1095 (lbud8 hr83 hr84 hcl1 hsl1 hk) (fun W2 H2 locs2 hI2 hP2 hD2 hS2 => ?_)
  refine lv_icmp_eq (tgt := 1391) hx hb dL_law_1098 (by decide) (fun _ => ?_) (fun c9 => absurd rfl c9)
  exact kk o b' W2 H2 locs2 _ _ ls hI2 hP2 hD2 hS2 hl (by rw [hr83]; exact hcl1) (by rw [hr84]; exact hsl1)
theorem law_row (hC : LC p s m c b L xs (dC, dI) cI cZ cS) (hSh : ∀ k, k < 8 → Sh k = some (F.2.2.2.2.2.1 k)) : LK p l e s m below meth c b L xs Q (dC, dI) cI cZ cS F Sh A R0 aO 1103 := by
  intro o bb WX H locs cells slots ls i k hi hL3 hI hP hD hS hl hcl hsl hk kk
  obtain ⟨hx, hb, hml, hown, hts, hX, hbl, hK⟩ := hC
  have hA : ∀ q : Nat, s.heap.size ≤ q → (fun q : Nat => s.heap.size ≤ q) q := fun _ h => h
  have hbA : ¬ (fun q : Nat => s.heap.size ≤ q) b := Nat.not_le.mpr hbl
  obtain ⟨a, M, b', rm7, rm8, hr7, hr8, hm7, hm8⟩ := case_row hSh (x1 := xs (nI i + 1).toNatClampNeg) (x2 := xs (nI i + 2).toNatClampNeg) (x3 := xs (nI i + 3).toNatClampNeg) bb WX hI
  obtain ⟨fs7, he7⟩ := invR hI
  obtain ⟨hr71, hr72, hr73, hr74⟩ := hr7
  obtain ⟨hr81, hr82, hr83, hr84⟩ := hr8
  have hb5 : bb.toNat ≤ 1 := Bool.toNat_le bb
  refine lv_aload_n hx hb dL_law_1103 rfl (lv_at hl 1 rfl) ?_
  refine lv_aload_n hx hb dL_law_1104 rfl (lv_at hl 0 rfl) ?_
  refine lv_iload hx hb dL_law_1105 (lv_at hl 4 rfl) ?_
  refine lv_iconst (v := 1) hx hb dL_law_1107 (by decide) ?_
  refine lv_iadd hx hb dL_law_1108 ?_
  refine va_sld hx hb hX hbl hbA hS (vin_ (j := 1) (by omega) (by omega)) dL_law_1109 ?_
  refine lv_aload_n hx hb dL_law_1110 rfl (lv_at hl 0 rfl) ?_
  refine lv_iload hx hb dL_law_1111 (lv_at hl 4 rfl) ?_
  refine lv_iconst (v := 2) hx hb dL_law_1113 (by decide) ?_
  refine lv_iadd hx hb dL_law_1114 ?_
  refine va_sld hx hb hX hbl hbA hS (vin_ (j := 2) (by omega) (by omega)) dL_law_1115 ?_
  refine lv_aload_n hx hb dL_law_1116 rfl (lv_at hl 0 rfl) ?_
  refine lv_iload hx hb dL_law_1117 (lv_at hl 4 rfl) ?_
  refine lv_iconst (v := 3) hx hb dL_law_1119 (by decide) ?_
  refine lv_iadd hx hb dL_law_1120 ?_
  refine va_sld hx hb hX hbl hbA hS (vin_ (j := 3) (by omega) (by omega)) dL_law_1121 ?_
  refine lawCall (As := [.int (xs (nI i + 1).toNatClampNeg), .int (xs (nI i + 2).toNatClampNeg), .int (xs (nI i + 3).toNatClampNeg)]) (rest := []) (ci := 6) ⟨hx, hb, hml, hown, hts⟩ hm7 (cwV 3 hts gL_law_X7_row rfl rfl rfl (by decide +kernel) ⟨rmF hr71 (by decide), rmL hr72 (Nat.le_of_ble_eq_true rfl)⟩) hP hD hK hS hA rfl he7 rfl hl.1 rfl (Nat.zero_le _) dL_law_1122 (lbud hr73 hr74 hcl hsl hk) (fun W1 H1 locs1 hM1 hP1 hD1 hS1 => ?_)
  obtain ⟨⟨fs8, he8⟩, hm9⟩ := hm8 W1 hM1
  obtain ⟨hcl1, hsl1⟩ := lbud2 hr73 hr74 hcl hsl
  have hS := hS1
  refine lv_aload_n hx hb dL_law_1125 rfl (lv_at hl 2 rfl) ?_
  refine lv_aload_n hx hb dL_law_1126 rfl (lv_at hl 0 rfl) ?_
  refine lv_iload hx hb dL_law_1127 (lv_at hl 4 rfl) ?_
  refine lv_iconst (v := 1) hx hb dL_law_1129 (by decide) ?_
  refine lv_iadd hx hb dL_law_1130 ?_
  refine va_sld hx hb hX hbl hbA hS (vin_ (j := 1) (by omega) (by omega)) dL_law_1131 ?_
  refine lv_aload_n hx hb dL_law_1132 rfl (lv_at hl 0 rfl) ?_
  refine lv_iload hx hb dL_law_1133 (lv_at hl 4 rfl) ?_
  refine lv_iconst (v := 2) hx hb dL_law_1135 (by decide) ?_
  refine lv_iadd hx hb dL_law_1136 ?_
  refine va_sld hx hb hX hbl hbA hS (vin_ (j := 2) (by omega) (by omega)) dL_law_1137 ?_
  refine lv_aload_n hx hb dL_law_1138 rfl (lv_at hl 0 rfl) ?_
  refine lv_iload hx hb dL_law_1139 (lv_at hl 4 rfl) ?_
  refine lv_iconst (v := 3) hx hb dL_law_1141 (by decide) ?_
  refine lv_iadd hx hb dL_law_1142 ?_
  refine va_sld hx hb hX hbl hbA hS (vin_ (j := 3) (by omega) (by omega)) dL_law_1143 ?_
  refine lawCall (As := [.int (xs (nI i + 1).toNatClampNeg), .int (xs (nI i + 2).toNatClampNeg), .int (xs (nI i + 3).toNatClampNeg)]) (rest := [.int a]) (ci := 7) ⟨hx, hb, hml, hown, hts⟩ hm9 (cwV 3 hts gL_law_X8_row rfl rfl rfl (by decide +kernel) ⟨rm8F hr81 (by decide), rm8L hr82 (Nat.le_of_ble_eq_true rfl)⟩) hP1 hD1 hK hS hA rfl he8 rfl hl.1 rfl (Nat.le_of_ble_eq_true rfl) dL_law_1144 (lbud8 hr83 hr84 hcl1 hsl1 hk) (fun W2 H2 locs2 hI2 hP2 hD2 hS2 => ?_)
  refine lv_icmp_eq (tgt := 1391) hx hb dL_law_1147 (by decide) (fun _ => ?_) (fun c9 => absurd rfl c9)
  exact kk o b' W2 H2 locs2 _ _ ls hI2 hP2 hD2 hS2 hl (by rw [hr83]; exact hcl1) (by rw [hr84]; exact hsl1)
theorem law_put (hC : LC p s m c b L xs (dC, dI) cI cZ cS) (hSh : ∀ k, k < 8 → Sh k = some (F.2.2.2.2.2.1 k)) : LK p l e s m below meth c b L xs Q (dC, dI) cI cZ cS F Sh A R0 aO 1152 := by
  intro o bb WX H locs cells slots ls i k hi hL3 hI hP hD hS hl hcl hsl hk kk
  obtain ⟨hx, hb, hml, hown, hts, hX, hbl, hK⟩ := hC
  have hA : ∀ q : Nat, s.heap.size ≤ q → (fun q : Nat => s.heap.size ≤ q) q := fun _ h => h
  have hbA : ¬ (fun q : Nat => s.heap.size ≤ q) b := Nat.not_le.mpr hbl
  obtain ⟨a, M, b', rm7, rm8, hr7, hr8, hm7, hm8⟩ := case_put hSh (x1 := xs (nI i + 1).toNatClampNeg) (x2 := xs (nI i + 2).toNatClampNeg) (x3 := xs (nI i + 3).toNatClampNeg) bb WX hI
  obtain ⟨fs7, he7⟩ := invR hI
  obtain ⟨hr71, hr72, hr73, hr74⟩ := hr7
  obtain ⟨hr81, hr82, hr83, hr84⟩ := hr8
  have hb5 : bb.toNat ≤ 1 := Bool.toNat_le bb
  refine lv_aload_n hx hb dL_law_1152 rfl (lv_at hl 1 rfl) ?_
  refine lv_aload_n hx hb dL_law_1153 rfl (lv_at hl 0 rfl) ?_
  refine lv_iload hx hb dL_law_1154 (lv_at hl 4 rfl) ?_
  refine lv_iconst (v := 1) hx hb dL_law_1156 (by decide) ?_
  refine lv_iadd hx hb dL_law_1157 ?_
  refine va_sld hx hb hX hbl hbA hS (vin_ (j := 1) (by omega) (by omega)) dL_law_1158 ?_
  refine lv_aload_n hx hb dL_law_1159 rfl (lv_at hl 0 rfl) ?_
  refine lv_iload hx hb dL_law_1160 (lv_at hl 4 rfl) ?_
  refine lv_iconst (v := 2) hx hb dL_law_1162 (by decide) ?_
  refine lv_iadd hx hb dL_law_1163 ?_
  refine va_sld hx hb hX hbl hbA hS (vin_ (j := 2) (by omega) (by omega)) dL_law_1164 ?_
  refine lv_aload_n hx hb dL_law_1165 rfl (lv_at hl 0 rfl) ?_
  refine lv_iload hx hb dL_law_1166 (lv_at hl 4 rfl) ?_
  refine lv_iconst (v := 3) hx hb dL_law_1168 (by decide) ?_
  refine lv_iadd hx hb dL_law_1169 ?_
  refine va_sld hx hb hX hbl hbA hS (vin_ (j := 3) (by omega) (by omega)) dL_law_1170 ?_
  refine lawCall (As := [.int (xs (nI i + 1).toNatClampNeg), .int (xs (nI i + 2).toNatClampNeg), .int (xs (nI i + 3).toNatClampNeg)]) (rest := []) (ci := 6) ⟨hx, hb, hml, hown, hts⟩ hm7 (cwV 3 hts gL_law_X7_put rfl rfl rfl (by decide +kernel) ⟨rmF hr71 (by decide), rmL hr72 (Nat.le_of_ble_eq_true rfl)⟩) hP hD hK hS hA rfl he7 rfl hl.1 rfl (Nat.zero_le _) dL_law_1171 (lbud hr73 hr74 hcl hsl hk) (fun W1 H1 locs1 hM1 hP1 hD1 hS1 => ?_)
  obtain ⟨⟨fs8, he8⟩, hm9⟩ := hm8 W1 hM1
  obtain ⟨hcl1, hsl1⟩ := lbud2 hr73 hr74 hcl hsl
  have hS := hS1
  refine lv_aload_n hx hb dL_law_1174 rfl (lv_at hl 2 rfl) ?_
  refine lv_aload_n hx hb dL_law_1175 rfl (lv_at hl 0 rfl) ?_
  refine lv_iload hx hb dL_law_1176 (lv_at hl 4 rfl) ?_
  refine lv_iconst (v := 1) hx hb dL_law_1178 (by decide) ?_
  refine lv_iadd hx hb dL_law_1179 ?_
  refine va_sld hx hb hX hbl hbA hS (vin_ (j := 1) (by omega) (by omega)) dL_law_1180 ?_
  refine lv_aload_n hx hb dL_law_1181 rfl (lv_at hl 0 rfl) ?_
  refine lv_iload hx hb dL_law_1182 (lv_at hl 4 rfl) ?_
  refine lv_iconst (v := 2) hx hb dL_law_1184 (by decide) ?_
  refine lv_iadd hx hb dL_law_1185 ?_
  refine va_sld hx hb hX hbl hbA hS (vin_ (j := 2) (by omega) (by omega)) dL_law_1186 ?_
  refine lv_aload_n hx hb dL_law_1187 rfl (lv_at hl 0 rfl) ?_
  refine lv_iload hx hb dL_law_1188 (lv_at hl 4 rfl) ?_
  refine lv_iconst (v := 3) hx hb dL_law_1190 (by decide) ?_
  refine lv_iadd hx hb dL_law_1191 ?_
  refine va_sld hx hb hX hbl hbA hS (vin_ (j := 3) (by omega) (by omega)) dL_law_1192 ?_
  refine lawCall (As := [.int (xs (nI i + 1).toNatClampNeg), .int (xs (nI i + 2).toNatClampNeg), .int (xs (nI i + 3).toNatClampNeg)]) (rest := [.int a]) (ci := 7) ⟨hx, hb, hml, hown, hts⟩ hm9 (cwV 3 hts gL_law_X8_put rfl rfl rfl (by decide +kernel) ⟨rm8F hr81 (by decide), rm8L hr82 (Nat.le_of_ble_eq_true rfl)⟩) hP1 hD1 hK hS hA rfl he8 rfl hl.1 rfl (Nat.le_of_ble_eq_true rfl) dL_law_1193 (lbud8 hr83 hr84 hcl1 hsl1 hk) (fun W2 H2 locs2 hI2 hP2 hD2 hS2 => ?_)
  refine lv_icmp_eq (tgt := 1391) hx hb dL_law_1196 (by decide) (fun _ => ?_) (fun c9 => absurd rfl c9)
  exact kk o b' W2 H2 locs2 _ _ ls hI2 hP2 hD2 hS2 hl (by rw [hr83]; exact hcl1) (by rw [hr84]; exact hsl1)
theorem law_copy (hC : LC p s m c b L xs (dC, dI) cI cZ cS) (hSh : ∀ k, k < 8 → Sh k = some (F.2.2.2.2.2.1 k)) : LK p l e s m below meth c b L xs Q (dC, dI) cI cZ cS F Sh A R0 aO 1268 := by
  intro o bb WX H locs cells slots ls i k hi hL3 hI hP hD hS hl hcl hsl hk kk
  obtain ⟨hx, hb, hml, hown, hts, hX, hbl, hK⟩ := hC
  have hA : ∀ q : Nat, s.heap.size ≤ q → (fun q : Nat => s.heap.size ≤ q) q := fun _ h => h
  have hbA : ¬ (fun q : Nat => s.heap.size ≤ q) b := Nat.not_le.mpr hbl
  obtain ⟨a, M, b', rm7, rm8, hr7, hr8, hm7, hm8⟩ := case_copy hSh (x1 := xs (nI i + 1).toNatClampNeg) (x2 := xs (nI i + 2).toNatClampNeg) (x3 := xs (nI i + 3).toNatClampNeg) (x4 := xs (nI i + 4).toNatClampNeg) (x5 := xs (nI i + 5).toNatClampNeg) bb WX hI
  obtain ⟨fs7, he7⟩ := invR hI
  obtain ⟨hr71, hr72, hr73, hr74⟩ := hr7
  obtain ⟨hr81, hr82, hr83, hr84⟩ := hr8
  have hb5 : bb.toNat ≤ 1 := Bool.toNat_le bb
  refine lv_aload_n hx hb dL_law_1268 rfl (lv_at hl 1 rfl) ?_
  refine lv_aload_n hx hb dL_law_1269 rfl (lv_at hl 0 rfl) ?_
  refine lv_iload hx hb dL_law_1270 (lv_at hl 4 rfl) ?_
  refine lv_iconst (v := 1) hx hb dL_law_1272 (by decide) ?_
  refine lv_iadd hx hb dL_law_1273 ?_
  refine va_sld hx hb hX hbl hbA hS (vin_ (j := 1) (by omega) (by omega)) dL_law_1274 ?_
  refine lv_aload_n hx hb dL_law_1275 rfl (lv_at hl 0 rfl) ?_
  refine lv_iload hx hb dL_law_1276 (lv_at hl 4 rfl) ?_
  refine lv_iconst (v := 2) hx hb dL_law_1278 (by decide) ?_
  refine lv_iadd hx hb dL_law_1279 ?_
  refine va_sld hx hb hX hbl hbA hS (vin_ (j := 2) (by omega) (by omega)) dL_law_1280 ?_
  refine lv_aload_n hx hb dL_law_1281 rfl (lv_at hl 0 rfl) ?_
  refine lv_iload hx hb dL_law_1282 (lv_at hl 4 rfl) ?_
  refine lv_iconst (v := 3) hx hb dL_law_1284 (by decide) ?_
  refine lv_iadd hx hb dL_law_1285 ?_
  refine va_sld hx hb hX hbl hbA hS (vin_ (j := 3) (by omega) (by omega)) dL_law_1286 ?_
  refine lv_aload_n hx hb dL_law_1287 rfl (lv_at hl 0 rfl) ?_
  refine lv_iload hx hb dL_law_1288 (lv_at hl 4 rfl) ?_
  refine lv_iconst (v := 4) hx hb dL_law_1290 (by decide) ?_
  refine lv_iadd hx hb dL_law_1291 ?_
  refine va_sld hx hb hX hbl hbA hS (vin_ (j := 4) (by omega) (by omega)) dL_law_1292 ?_
  refine lv_aload_n hx hb dL_law_1293 rfl (lv_at hl 0 rfl) ?_
  refine lv_iload hx hb dL_law_1294 (lv_at hl 4 rfl) ?_
  refine lv_iconst (v := 5) hx hb dL_law_1296 (by decide) ?_
  refine lv_iadd hx hb dL_law_1297 ?_
  refine va_sld hx hb hX hbl hbA hS (vin_ (j := 5) (by omega) (by omega)) dL_law_1298 ?_
  refine lawCall (As := [.int (xs (nI i + 1).toNatClampNeg), .int (xs (nI i + 2).toNatClampNeg), .int (xs (nI i + 3).toNatClampNeg), .int (xs (nI i + 4).toNatClampNeg), .int (xs (nI i + 5).toNatClampNeg)]) (rest := []) (ci := 6) ⟨hx, hb, hml, hown, hts⟩ hm7 (cwV 5 hts gL_law_X7_copy rfl rfl rfl (by decide +kernel) ⟨rmF hr71 (by decide), rmL hr72 (Nat.le_of_ble_eq_true rfl)⟩) hP hD hK hS hA rfl he7 rfl hl.1 rfl (Nat.zero_le _) dL_law_1299 (lbud hr73 hr74 hcl hsl hk) (fun W1 H1 locs1 hM1 hP1 hD1 hS1 => ?_)
  obtain ⟨⟨fs8, he8⟩, hm9⟩ := hm8 W1 hM1
  obtain ⟨hcl1, hsl1⟩ := lbud2 hr73 hr74 hcl hsl
  have hS := hS1
  refine lv_aload_n hx hb dL_law_1302 rfl (lv_at hl 2 rfl) ?_
  refine lv_aload_n hx hb dL_law_1303 rfl (lv_at hl 0 rfl) ?_
  refine lv_iload hx hb dL_law_1304 (lv_at hl 4 rfl) ?_
  refine lv_iconst (v := 1) hx hb dL_law_1306 (by decide) ?_
  refine lv_iadd hx hb dL_law_1307 ?_
  refine va_sld hx hb hX hbl hbA hS (vin_ (j := 1) (by omega) (by omega)) dL_law_1308 ?_
  refine lv_aload_n hx hb dL_law_1309 rfl (lv_at hl 0 rfl) ?_
  refine lv_iload hx hb dL_law_1310 (lv_at hl 4 rfl) ?_
  refine lv_iconst (v := 2) hx hb dL_law_1312 (by decide) ?_
  refine lv_iadd hx hb dL_law_1313 ?_
  refine va_sld hx hb hX hbl hbA hS (vin_ (j := 2) (by omega) (by omega)) dL_law_1314 ?_
  refine lv_aload_n hx hb dL_law_1315 rfl (lv_at hl 0 rfl) ?_
  refine lv_iload hx hb dL_law_1316 (lv_at hl 4 rfl) ?_
  refine lv_iconst (v := 3) hx hb dL_law_1318 (by decide) ?_
  refine lv_iadd hx hb dL_law_1319 ?_
  refine va_sld hx hb hX hbl hbA hS (vin_ (j := 3) (by omega) (by omega)) dL_law_1320 ?_
  refine lv_aload_n hx hb dL_law_1321 rfl (lv_at hl 0 rfl) ?_
  refine lv_iload hx hb dL_law_1322 (lv_at hl 4 rfl) ?_
  refine lv_iconst (v := 4) hx hb dL_law_1324 (by decide) ?_
  refine lv_iadd hx hb dL_law_1325 ?_
  refine va_sld hx hb hX hbl hbA hS (vin_ (j := 4) (by omega) (by omega)) dL_law_1326 ?_
  refine lv_aload_n hx hb dL_law_1327 rfl (lv_at hl 0 rfl) ?_
  refine lv_iload hx hb dL_law_1328 (lv_at hl 4 rfl) ?_
  refine lv_iconst (v := 5) hx hb dL_law_1330 (by decide) ?_
  refine lv_iadd hx hb dL_law_1331 ?_
  refine va_sld hx hb hX hbl hbA hS (vin_ (j := 5) (by omega) (by omega)) dL_law_1332 ?_
  refine lawCall (As := [.int (xs (nI i + 1).toNatClampNeg), .int (xs (nI i + 2).toNatClampNeg), .int (xs (nI i + 3).toNatClampNeg), .int (xs (nI i + 4).toNatClampNeg), .int (xs (nI i + 5).toNatClampNeg)]) (rest := [.int a]) (ci := 7) ⟨hx, hb, hml, hown, hts⟩ hm9 (cwV 5 hts gL_law_X8_copy rfl rfl rfl (by decide +kernel) ⟨rm8F hr81 (by decide), rm8L hr82 (Nat.le_of_ble_eq_true rfl)⟩) hP1 hD1 hK hS hA rfl he8 rfl hl.1 rfl (Nat.le_of_ble_eq_true rfl) dL_law_1333 (lbud8 hr83 hr84 hcl1 hsl1 hk) (fun W2 H2 locs2 hI2 hP2 hD2 hS2 => ?_)
  refine lv_icmp_eq (tgt := 1391) hx hb dL_law_1336 (by decide) (fun _ => ?_) (fun c9 => absurd rfl c9)
  exact kk o b' W2 H2 locs2 _ _ ls hI2 hP2 hD2 hS2 hl (by rw [hr83]; exact hcl1) (by rw [hr84]; exact hsl1)
theorem law_toil (hC : LC p s m c b L xs (dC, dI) cI cZ cS) (hSh : ∀ k, k < 8 → Sh k = some (F.2.2.2.2.2.1 k)) : LK p l e s m below meth c b L xs Q (dC, dI) cI cZ cS F Sh A R0 aO 1341 := by
  intro o bb WX H locs cells slots ls i k hi hL3 hI hP hD hS hl hcl hsl hk kk
  obtain ⟨hx, hb, hml, hown, hts, hX, hbl, hK⟩ := hC
  have hA : ∀ q : Nat, s.heap.size ≤ q → (fun q : Nat => s.heap.size ≤ q) q := fun _ h => h
  have hbA : ¬ (fun q : Nat => s.heap.size ≤ q) b := Nat.not_le.mpr hbl
  obtain ⟨a, M, b', rm7, rm8, hr7, hr8, hm7, hm8⟩ := case_toil hSh (x1 := xs (nI i + 1).toNatClampNeg) bb WX hI
  obtain ⟨fs7, he7⟩ := invR hI
  obtain ⟨hr71, hr72, hr73, hr74⟩ := hr7
  obtain ⟨hr81, hr82, hr83, hr84⟩ := hr8
  have hb5 : bb.toNat ≤ 1 := Bool.toNat_le bb
  refine lv_aload_n hx hb dL_law_1341 rfl (lv_at hl 1 rfl) ?_
  refine lv_aload_n hx hb dL_law_1342 rfl (lv_at hl 0 rfl) ?_
  refine lv_iload hx hb dL_law_1343 (lv_at hl 4 rfl) ?_
  refine lv_iconst (v := 1) hx hb dL_law_1345 (by decide) ?_
  refine lv_iadd hx hb dL_law_1346 ?_
  refine va_sld hx hb hX hbl hbA hS (vin_ (j := 1) (by omega) (by omega)) dL_law_1347 ?_
  refine lawCall (As := [.int (xs (nI i + 1).toNatClampNeg)]) (rest := []) (ci := 6) ⟨hx, hb, hml, hown, hts⟩ hm7 (cwV 1 hts gL_law_X7_toil rfl rfl rfl (by decide +kernel) ⟨rmF hr71 (by decide), rmL hr72 (Nat.le_of_ble_eq_true rfl)⟩) hP hD hK hS hA rfl he7 rfl hl.1 rfl (Nat.zero_le _) dL_law_1348 (lbud hr73 hr74 hcl hsl hk) (fun W1 H1 locs1 hM1 hP1 hD1 hS1 => ?_)
  obtain ⟨⟨fs8, he8⟩, hm9⟩ := hm8 W1 hM1
  obtain ⟨hcl1, hsl1⟩ := lbud2 hr73 hr74 hcl hsl
  have hS := hS1
  refine lv_aload_n hx hb dL_law_1351 rfl (lv_at hl 2 rfl) ?_
  refine lv_aload_n hx hb dL_law_1352 rfl (lv_at hl 0 rfl) ?_
  refine lv_iload hx hb dL_law_1353 (lv_at hl 4 rfl) ?_
  refine lv_iconst (v := 1) hx hb dL_law_1355 (by decide) ?_
  refine lv_iadd hx hb dL_law_1356 ?_
  refine va_sld hx hb hX hbl hbA hS (vin_ (j := 1) (by omega) (by omega)) dL_law_1357 ?_
  refine lawCall (As := [.int (xs (nI i + 1).toNatClampNeg)]) (rest := [.int a]) (ci := 7) ⟨hx, hb, hml, hown, hts⟩ hm9 (cwV 1 hts gL_law_X8_toil rfl rfl rfl (by decide +kernel) ⟨rm8F hr81 (by decide), rm8L hr82 (Nat.le_of_ble_eq_true rfl)⟩) hP1 hD1 hK hS hA rfl he8 rfl hl.1 rfl (Nat.le_of_ble_eq_true rfl) dL_law_1358 (lbud8 hr83 hr84 hcl1 hsl1 hk) (fun W2 H2 locs2 hI2 hP2 hD2 hS2 => ?_)
  refine lv_icmp_eq (tgt := 1391) hx hb dL_law_1361 (by decide) (fun _ => ?_) (fun c9 => absurd rfl c9)
  exact kk o b' W2 H2 locs2 _ _ ls hI2 hP2 hD2 hS2 hl (by rw [hr83]; exact hcl1) (by rw [hr84]; exact hsl1)
end LAWK
