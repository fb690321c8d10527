section LAWK
variable {p : Program} {l : Launch} {e : Env} {s : State} {m : MethodId} {below : List Frame} {meth : Method} {c : Code} {b L : Nat} {xs : Nat → Int32} {Q : State → Prop}
variable {dC : Nat → ClassId} {dI : Nat → Nat → Nat} {cI cZ cS : ClassId} {F : FX} {Sh : Nat → Option Nat} {A : Nat → Nat} {R0 : (Nat → Int64) → va_W} {aO : Nat}
theorem law_toss (hC : LC p s m c b L xs (dC, dI) cI cZ cS) {sa1 sa2 sa3 : Nat} (hst : l.stackTraces = false) (hSh : ∀ k, k < 8 → Sh k = some (F.2.2.2.2.2.1 k)) (hTs : tossS (fun q : Nat => s.heap.size ≤ q) sa1 sa2 sa3 s) : LK p l e s m below meth c b L xs Q (dC, dI) cI cZ cS F Sh A R0 aO 1366 := by
  intro o bb WX H locs cells slots ls i k hi hL3 hI hP hD hS hl hcl hsl hk kk
  obtain ⟨hx, hb, hml, hown, hts, hX, hbl, hK⟩ := hC
  have hA : ∀ q : Nat, s.heap.size ≤ q → (fun q : Nat => s.heap.size ≤ q) q := fun _ h => h
  have hbA : ¬ (fun q : Nat => s.heap.size ≤ q) b := Nat.not_le.mpr hbl
  obtain ⟨a, M, b', rm7, rm8, hr7, hr8, hm7, hm8⟩ := case_toss (l := l) (dC := dC) (dI := dI) (sa1 := sa1) (sa2 := sa2) (sa3 := sa3) hst hSh (x1 := xs (nI i + 1).toNatClampNeg) bb WX hI
  obtain ⟨fs7, he7⟩ := invR hI
  obtain ⟨hr71, hr72, hr73, hr74⟩ := hr7
  obtain ⟨hr81, hr82, hr83, hr84⟩ := hr8
  have hb5 : bb.toNat ≤ 1 := Bool.toNat_le bb
  refine lv_aload_n hx hb dL_law_1366 rfl (lv_at hl 1 rfl) ?_
  refine lv_aload_n hx hb dL_law_1367 rfl (lv_at hl 0 rfl) ?_
  refine lv_iload hx hb dL_law_1368 (lv_at hl 4 rfl) ?_
  refine lv_iconst (v := 1) hx hb dL_law_1370 (by decide) ?_
  refine lv_iadd hx hb dL_law_1371 ?_
  refine va_sld hx hb hX hbl hbA hS (vin_ (j := 1) (by omega) (by omega)) dL_law_1372 ?_
  refine lawCallX (X := fun A9 U => tossS A9 sa1 sa2 sa3 U) (As := [.int (xs (nI i + 1).toNatClampNeg)]) (rest := []) (ci := 6) ⟨hx, hb, hml, hown, hts⟩ hm7 (vx_cwVW 1 hts gL_law_X7_toss rfl rfl rfl (by decide +kernel) ⟨rmF hr71 (by decide), rmL hr72 (Nat.le_of_ble_eq_true rfl)⟩) (fun A U g mk a h => tossS.call h) (fun hF U hU hW => hTs.toH hS hU hW hF) hP hD hK hS hA rfl he7 rfl hl.1 rfl (Nat.zero_le _) dL_law_1373 (lbud hr73 hr74 hcl hsl hk) (fun W1 H1 locs1 hM1 hP1 hD1 hS1 => ?_)
  obtain ⟨⟨fs8, he8⟩, hm9⟩ := hm8 W1 hM1
  obtain ⟨hcl1, hsl1⟩ := lbud2 hr73 hr74 hcl hsl
  have hS := hS1
  refine lv_aload_n hx hb dL_law_1376 rfl (lv_at hl 2 rfl) ?_
  refine lv_aload_n hx hb dL_law_1377 rfl (lv_at hl 0 rfl) ?_
  refine lv_iload hx hb dL_law_1378 (lv_at hl 4 rfl) ?_
  refine lv_iconst (v := 1) hx hb dL_law_1380 (by decide) ?_
  refine lv_iadd hx hb dL_law_1381 ?_
  refine va_sld hx hb hX hbl hbA hS (vin_ (j := 1) (by omega) (by omega)) dL_law_1382 ?_
  refine lawCall (As := [.int (xs (nI i + 1).toNatClampNeg)]) (rest := [.int a]) (ci := 7) ⟨hx, hb, hml, hown, hts⟩ hm9 (cwV 1 hts gL_law_X8_toss rfl rfl rfl (by decide +kernel) ⟨rm8F hr81 (by decide), rm8L hr82 (Nat.le_of_ble_eq_true rfl)⟩) hP1 hD1 hK hS hA rfl he8 rfl hl.1 rfl (Nat.le_of_ble_eq_true rfl) dL_law_1383 (lbud8 hr83 hr84 hcl1 hsl1 hk) (fun W2 H2 locs2 hI2 hP2 hD2 hS2 => ?_)
  refine lv_icmp_eq (tgt := 1391) hx hb dL_law_1386 (by decide) (fun _ => ?_) (fun c9 => absurd rfl c9)
  exact kk o b' W2 H2 locs2 _ _ ls hI2 hP2 hD2 hS2 hl (by rw [hr83]; exact hcl1) (by rw [hr84]; exact hsl1)
end LAWK
