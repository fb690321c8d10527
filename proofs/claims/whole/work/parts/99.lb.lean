section LAWK
variable {p : Program} {l : Launch} {e : Env} {s : State} {m : MethodId} {below : List Frame} {meth : Method} {c : Code} {b L : Nat} {xs : Nat → Int32} {Q : State → Prop}
variable {dC : Nat → ClassId} {dI : Nat → Nat → Nat} {cI cZ cS : ClassId} {F : FX} {Sh : Nat → Option Nat} {A : Nat → Nat} {R0 : (Nat → Int64) → va_W} {aO : Nat}
theorem law_roof (hC : LC p s m c b L xs (dC, dI) cI cZ cS) (hSh : ∀ k, k < 8 → Sh k = some (F.2.2.2.2.2.1 k)) : LK p l e s m below meth c b L xs Q (dC, dI) cI cZ cS F Sh A R0 aO 188 := by
  intro o bb WX H locs cells slots ls i k hi hL3 hI hP hD hS hl hcl hsl hk kk
  obtain ⟨hx, hb, hml, hown, hts, hX, hbl, hK⟩ := hC
  have hA : ∀ q : Nat, s.heap.size ≤ q → (fun q : Nat => s.heap.size ≤ q) q := fun _ h => h
  have hbA : ¬ (fun q : Nat => s.heap.size ≤ q) b := Nat.not_le.mpr hbl
  obtain ⟨a, M, b', rm7, rm8, hr7, hr8, hm7, hm8⟩ := case_roof hSh (x1 := xs (nI i + 1).toNatClampNeg) bb WX hI
  obtain ⟨fs7, he7⟩ := invR hI
  obtain ⟨hr71, hr72, hr73, hr74⟩ := hr7
  obtain ⟨hr81, hr82, hr83, hr84⟩ := hr8
  have hb5 : bb.toNat ≤ 1 := Bool.toNat_le bb
  refine lv_aload_n hx hb dL_law_188 rfl (lv_at hl 1 rfl) ?_
  refine lv_aload_n hx hb dL_law_189 rfl (lv_at hl 0 rfl) ?_
  refine lv_iload hx hb dL_law_190 (lv_at hl 4 rfl) ?_
  refine lv_iconst (v := 1) hx hb dL_law_192 (by decide) ?_
  refine lv_iadd hx hb dL_law_193 ?_
  refine va_sld hx hb hX hbl hbA hS (vin_ (j := 1) (by omega) (by omega)) dL_law_194 ?_
  refine lawCall (As := [.int (xs (nI i + 1).toNatClampNeg)]) (rest := []) (ci := 6) ⟨hx, hb, hml, hown, hts⟩ hm7 (cwV 1 hts gL_law_X7_roof rfl rfl rfl (by decide +kernel) ⟨rmF hr71 (by decide), rmL hr72 (Nat.le_of_ble_eq_true rfl)⟩) hP hD hK hS hA rfl he7 rfl hl.1 rfl (Nat.zero_le _) dL_law_195 (lbud hr73 hr74 hcl hsl hk) (fun W1 H1 locs1 hM1 hP1 hD1 hS1 => ?_)
  obtain ⟨⟨fs8, he8⟩, hm9⟩ := hm8 W1 hM1
  obtain ⟨hcl1, hsl1⟩ := lbud2 hr73 hr74 hcl hsl
  have hS := hS1
  refine lv_aload_n hx hb dL_law_198 rfl (lv_at hl 2 rfl) ?_
  refine lv_aload_n hx hb dL_law_199 rfl (lv_at hl 0 rfl) ?_
  refine lv_iload hx hb dL_law_200 (lv_at hl 4 rfl) ?_
  refine lv_iconst (v := 1) hx hb dL_law_202 (by decide) ?_
  refine lv_iadd hx hb dL_law_203 ?_
  refine va_sld hx hb hX hbl hbA hS (vin_ (j := 1) (by omega) (by omega)) dL_law_204 ?_
  refine lawCall (As := [.int (xs (nI i + 1).toNatClampNeg)]) (rest := [.int a]) (ci := 7) ⟨hx, hb, hml, hown, hts⟩ hm9 (cwV 1 hts gL_law_X8_roof rfl rfl rfl (by decide +kernel) ⟨rm8F hr81 (by decide), rm8L hr82 (Nat.le_of_ble_eq_true rfl)⟩) hP1 hD1 hK hS hA rfl he8 rfl hl.1 rfl (Nat.le_of_ble_eq_true rfl) dL_law_205 (lbud8 hr83 hr84 hcl1 hsl1 hk) (fun W2 H2 locs2 hI2 hP2 hD2 hS2 => ?_)
  refine lv_icmp_eq (tgt := 1391) hx hb dL_law_208 (by decide) (fun _ => ?_) (fun c9 => absurd rfl c9)
  exact kk o b' W2 H2 locs2 _ _ ls hI2 hP2 hD2 hS2 hl (by rw [hr83]; exact hcl1) (by rw [hr84]; exact hsl1)
theorem law_width (hC : LC p s m c b L xs (dC, dI) cI cZ cS) : LK p l e s m below meth c b L xs Q (dC, dI) cI cZ cS F Sh A R0 aO 213 := by
  intro o bb WX H locs cells slots ls i k hi hL3 hI hP hD hS hl hcl hsl hk kk
  obtain ⟨hx, hb, hml, hown, hts, hX, hbl, hK⟩ := hC
  have hA : ∀ q : Nat, s.heap.size ≤ q → (fun q : Nat => s.heap.size ≤ q) q := fun _ h => h
  have hbA : ¬ (fun q : Nat => s.heap.size ≤ q) b := Nat.not_le.mpr hbl
  obtain ⟨a, M, b', rm7, rm8, hr7, hr8, hm7, hm8⟩ := case_width (x1 := xs (nI i + 1).toNatClampNeg) (x2 := xs (nI i + 2).toNatClampNeg) bb WX hI
  obtain ⟨fs7, he7⟩ := invR hI
  obtain ⟨hr71, hr72, hr73, hr74⟩ := hr7
  obtain ⟨hr81, hr82, hr83, hr84⟩ := hr8
  have hb5 : bb.toNat ≤ 1 := Bool.toNat_le bb
  refine lv_aload_n hx hb dL_law_213 rfl (lv_at hl 1 rfl) ?_
  refine lv_aload_n hx hb dL_law_214 rfl (lv_at hl 0 rfl) ?_
  refine lv_iload hx hb dL_law_215 (lv_at hl 4 rfl) ?_
  refine lv_iconst (v := 1) hx hb dL_law_217 (by decide) ?_
  refine lv_iadd hx hb dL_law_218 ?_
  refine va_sld hx hb hX hbl hbA hS (vin_ (j := 1) (by omega) (by omega)) dL_law_219 ?_
  refine lv_aload_n hx hb dL_law_220 rfl (lv_at hl 0 rfl) ?_
  refine lv_iload hx hb dL_law_221 (lv_at hl 4 rfl) ?_
  refine lv_iconst (v := 2) hx hb dL_law_223 (by decide) ?_
  refine lv_iadd hx hb dL_law_224 ?_
  refine va_sld hx hb hX hbl hbA hS (vin_ (j := 2) (by omega) (by omega)) dL_law_225 ?_
  refine lawCall (As := [.int (xs (nI i + 1).toNatClampNeg), .int (xs (nI i + 2).toNatClampNeg)]) (rest := []) (ci := 6) ⟨hx, hb, hml, hown, hts⟩ hm7 (cwV 2 hts gL_law_X7_width rfl rfl rfl (by decide +kernel) ⟨rmF hr71 (by decide), rmL hr72 (Nat.le_of_ble_eq_true rfl)⟩) hP hD hK hS hA rfl he7 rfl hl.1 rfl (Nat.zero_le _) dL_law_226 (lbud hr73 hr74 hcl hsl hk) (fun W1 H1 locs1 hM1 hP1 hD1 hS1 => ?_)
  obtain ⟨⟨fs8, he8⟩, hm9⟩ := hm8 W1 hM1
  obtain ⟨hcl1, hsl1⟩ := lbud2 hr73 hr74 hcl hsl
  have hS := hS1
  refine lv_aload_n hx hb dL_law_229 rfl (lv_at hl 2 rfl) ?_
  refine lv_aload_n hx hb dL_law_230 rfl (lv_at hl 0 rfl) ?_
  refine lv_iload hx hb dL_law_231 (lv_at hl 4 rfl) ?_
  refine lv_iconst (v := 1) hx hb dL_law_233 (by decide) ?_
  refine lv_iadd hx hb dL_law_234 ?_
  refine va_sld hx hb hX hbl hbA hS (vin_ (j := 1) (by omega) (by omega)) dL_law_235 ?_
  refine lv_aload_n hx hb dL_law_236 rfl (lv_at hl 0 rfl) ?_
  refine lv_iload hx hb dL_law_237 (lv_at hl 4 rfl) ?_
  refine lv_iconst (v := 2) hx hb dL_law_239 (by decide) ?_
  refine lv_iadd hx hb dL_law_240 ?_
  refine va_sld hx hb hX hbl hbA hS (vin_ (j := 2) (by omega) (by omega)) dL_law_241 ?_
  refine lawCall (As := [.int (xs (nI i + 1).toNatClampNeg), .int (xs (nI i + 2).toNatClampNeg)]) (rest := [.int a]) (ci := 7) ⟨hx, hb, hml, hown, hts⟩ hm9 (cwV 2 hts gL_law_X8_width rfl rfl rfl (by decide +kernel) ⟨rm8F hr81 (by decide), rm8L hr82 (Nat.le_of_ble_eq_true rfl)⟩) hP1 hD1 hK hS hA rfl he8 rfl hl.1 rfl (Nat.le_of_ble_eq_true rfl) dL_law_242 (lbud8 hr83 hr84 hcl1 hsl1 hk) (fun W2 H2 locs2 hI2 hP2 hD2 hS2 => ?_)
  refine lv_icmp_eq (tgt := 1391) hx hb dL_law_245 (by decide) (fun _ => ?_) (fun c9 => absurd rfl c9)
  exact kk o b' W2 H2 locs2 _ _ ls hI2 hP2 hD2 hS2 hl (by rw [hr83]; exact hcl1) (by rw [hr84]; exact hsl1)
theorem law_heap (hC : LC p s m c b L xs (dC, dI) cI cZ cS) : LK p l e s m below meth c b L xs Q (dC, dI) cI cZ cS F Sh A R0 aO 250 := by
  intro o bb WX H locs cells slots ls i k hi hL3 hI hP hD hS hl hcl hsl hk kk
  obtain ⟨hx, hb, hml, hown, hts, hX, hbl, hK⟩ := hC
  have hA : ∀ q : Nat, s.heap.size ≤ q → (fun q : Nat => s.heap.size ≤ q) q := fun _ h => h
  have hbA : ¬ (fun q : Nat => s.heap.size ≤ q) b := Nat.not_le.mpr hbl
  obtain ⟨a, M, b', rm7, rm8, hr7, hr8, hm7, hm8⟩ := case_heap (x1 := xs (nI i + 1).toNatClampNeg) (x2 := xs (nI i + 2).toNatClampNeg) bb WX hI
  obtain ⟨fs7, he7⟩ := invR hI
  obtain ⟨hr71, hr72, hr73, hr74⟩ := hr7
  obtain ⟨hr81, hr82, hr83, hr84⟩ := hr8
  have hb5 : bb.toNat ≤ 1 := Bool.toNat_le bb
  refine lv_aload_n hx hb dL_law_250 rfl (lv_at hl 1 rfl) ?_
  refine lv_aload_n hx hb dL_law_251 rfl (lv_at hl 0 rfl) ?_
  refine lv_iload hx hb dL_law_252 (lv_at hl 4 rfl) ?_
  refine lv_iconst (v := 1) hx hb dL_law_254 (by decide) ?_
  refine lv_iadd hx hb dL_law_255 ?_
  refine va_sld hx hb hX hbl hbA hS (vin_ (j := 1) (by omega) (by omega)) dL_law_256 ?_
  refine lv_aload_n hx hb dL_law_257 rfl (lv_at hl 0 rfl) ?_
  refine lv_iload hx hb dL_law_258 (lv_at hl 4 rfl) ?_
  refine lv_iconst (v := 2) hx hb dL_law_260 (by decide) ?_
  refine lv_iadd hx hb dL_law_261 ?_
  refine va_sld hx hb hX hbl hbA hS (vin_ (j := 2) (by omega) (by omega)) dL_law_262 ?_
  refine lawCall (As := [.int (xs (nI i + 1).toNatClampNeg), .int (xs (nI i + 2).toNatClampNeg)]) (rest := []) (ci := 6) ⟨hx, hb, hml, hown, hts⟩ hm7 (cwV 2 hts gL_law_X7_heap rfl rfl rfl (by decide +kernel) ⟨rmF hr71 (by decide), rmL hr72 (Nat.le_of_ble_eq_true rfl)⟩) hP hD hK hS hA rfl he7 rfl hl.1 rfl (Nat.zero_le _) dL_law_263 (lbud hr73 hr74 hcl hsl hk) (fun W1 H1 locs1 hM1 hP1 hD1 hS1 => ?_)
  obtain ⟨⟨fs8, he8⟩, hm9⟩ := hm8 W1 hM1
  obtain ⟨hcl1, hsl1⟩ := lbud2 hr73 hr74 hcl hsl
  have hS := hS1
  refine lv_aload_n hx hb dL_law_266 rfl (lv_at hl 2 rfl) ?_
  refine lv_aload_n hx hb dL_law_267 rfl (lv_at hl 0 rfl) ?_
  refine lv_iload hx hb dL_law_268 (lv_at hl 4 rfl) ?_
  refine lv_iconst (v := 1) hx hb dL_law_270 (by decide) ?_
  refine lv_iadd hx hb dL_law_271 ?_
  refine va_sld hx hb hX hbl hbA hS (vin_ (j := 1) (by omega) (by omega)) dL_law_272 ?_
  refine lv_aload_n hx hb dL_law_273 rfl (lv_at hl 0 rfl) ?_
  refine lv_iload hx hb dL_law_274 (lv_at hl 4 rfl) ?_
  refine lv_iconst (v := 2) hx hb dL_law_276 (by decide) ?_
  refine lv_iadd hx hb dL_law_277 ?_
  refine va_sld hx hb hX hbl hbA hS (vin_ (j := 2) (by omega) (by omega)) dL_law_278 ?_
  refine lawCall (As := [.int (xs (nI i + 1).toNatClampNeg), .int (xs (nI i + 2).toNatClampNeg)]) (rest := [.int a]) (ci := 7) ⟨hx, hb, hml, hown, hts⟩ hm9 (cwV 2 hts gL_law_X8_heap rfl rfl rfl (by decide +kernel) ⟨rm8F hr81 (by decide), rm8L hr82 (Nat.le_of_ble_eq_true rfl)⟩) hP1 hD1 hK hS hA rfl he8 rfl hl.1 rfl (Nat.le_of_ble_eq_true rfl) dL_law_279 (lbud8 hr83 hr84 hcl1 hsl1 hk) (fun W2 H2 locs2 hI2 hP2 hD2 hS2 => ?_)
  refine lv_icmp_eq (tgt := 1391) hx hb dL_law_282 (by decide) (fun _ => ?_) (fun c9 => absurd rfl c9)
  exact kk o b' W2 H2 locs2 _ _ ls hI2 hP2 hD2 hS2 hl (by rw [hr83]; exact hcl1) (by rw [hr84]; exact hsl1)
theorem law_lap (hC : LC p s m c b L xs (dC, dI) cI cZ cS) : LK p l e s m below meth c b L xs Q (dC, dI) cI cZ cS F Sh A R0 aO 287 := by
  intro o bb WX H locs cells slots ls i k hi hL3 hI hP hD hS hl hcl hsl hk kk
  obtain ⟨hx, hb, hml, hown, hts, hX, hbl, hK⟩ := hC
  have hA : ∀ q : Nat, s.heap.size ≤ q → (fun q : Nat => s.heap.size ≤ q) q := fun _ h => h
  have hbA : ¬ (fun q : Nat => s.heap.size ≤ q) b := Nat.not_le.mpr hbl
  obtain ⟨a, M, b', rm7, rm8, hr7, hr8, hm7, hm8⟩ := case_lap (x1 := xs (nI i + 1).toNatClampNeg) bb WX hI
  obtain ⟨fs7, he7⟩ := invR hI
  obtain ⟨hr71, hr72, hr73, hr74⟩ := hr7
  obtain ⟨hr81, hr82, hr83, hr84⟩ := hr8
  have hb5 : bb.toNat ≤ 1 := Bool.toNat_le bb
  refine lv_aload_n hx hb dL_law_287 rfl (lv_at hl 1 rfl) ?_
  refine lv_aload_n hx hb dL_law_288 rfl (lv_at hl 0 rfl) ?_
  refine lv_iload hx hb dL_law_289 (lv_at hl 4 rfl) ?_
  refine lv_iconst (v := 1) hx hb dL_law_291 (by decide) ?_
  refine lv_iadd hx hb dL_law_292 ?_
  refine va_sld hx hb hX hbl hbA hS (vin_ (j := 1) (by omega) (by omega)) dL_law_293 ?_
  refine lawCall (As := [.int (xs (nI i + 1).toNatClampNeg)]) (rest := []) (ci := 6) ⟨hx, hb, hml, hown, hts⟩ hm7 (cwV 1 hts gL_law_X7_lap rfl rfl rfl (by decide +kernel) ⟨rmF hr71 (by decide), rmL hr72 (Nat.le_of_ble_eq_true rfl)⟩) hP hD hK hS hA rfl he7 rfl hl.1 rfl (Nat.zero_le _) dL_law_294 (lbud hr73 hr74 hcl hsl hk) (fun W1 H1 locs1 hM1 hP1 hD1 hS1 => ?_)
  obtain ⟨⟨fs8, he8⟩, hm9⟩ := hm8 W1 hM1
  obtain ⟨hcl1, hsl1⟩ := lbud2 hr73 hr74 hcl hsl
  have hS := hS1
  refine lv_aload_n hx hb dL_law_297 rfl (lv_at hl 2 rfl) ?_
  refine lv_aload_n hx hb dL_law_298 rfl (lv_at hl 0 rfl) ?_
  refine lv_iload hx hb dL_law_299 (lv_at hl 4 rfl) ?_
  refine lv_iconst (v := 1) hx hb dL_law_301 (by decide) ?_
  refine lv_iadd hx hb dL_law_302 ?_
  refine va_sld hx hb hX hbl hbA hS (vin_ (j := 1) (by omega) (by omega)) dL_law_303 ?_
  refine lawCall (As := [.int (xs (nI i + 1).toNatClampNeg)]) (rest := [.int a]) (ci := 7) ⟨hx, hb, hml, hown, hts⟩ hm9 (cwV 1 hts gL_law_X8_lap rfl rfl rfl (by decide +kernel) ⟨rm8F hr81 (by decide), rm8L hr82 (Nat.le_of_ble_eq_true rfl)⟩) hP1 hD1 hK hS hA rfl he8 rfl hl.1 rfl (Nat.le_of_ble_eq_true rfl) dL_law_304 (lbud8 hr83 hr84 hcl1 hsl1 hk) (fun W2 H2 locs2 hI2 hP2 hD2 hS2 => ?_)
  refine lv_icmp_eq (tgt := 1391) hx hb dL_law_307 (by decide) (fun _ => ?_) (fun c9 => absurd rfl c9)
  exact kk o b' W2 H2 locs2 _ _ ls hI2 hP2 hD2 hS2 hl (by rw [hr83]; exact hcl1) (by rw [hr84]; exact hsl1)
theorem law_rowOf (hC : LC p s m c b L xs (dC, dI) cI cZ cS) : LK p l e s m below meth c b L xs Q (dC, dI) cI cZ cS F Sh A R0 aO 312 := by
  intro o bb WX H locs cells slots ls i k hi hL3 hI hP hD hS hl hcl hsl hk kk
  obtain ⟨hx, hb, hml, hown, hts, hX, hbl, hK⟩ := hC
  have hA : ∀ q : Nat, s.heap.size ≤ q → (fun q : Nat => s.heap.size ≤ q) q := fun _ h => h
  have hbA : ¬ (fun q : Nat => s.heap.size ≤ q) b := Nat.not_le.mpr hbl
  obtain ⟨a, M, b', rm7, rm8, hr7, hr8, hm7, hm8⟩ := case_rowOf (x1 := xs (nI i + 1).toNatClampNeg) (x2 := xs (nI i + 2).toNatClampNeg) bb WX hI
  obtain ⟨fs7, he7⟩ := invR hI
  obtain ⟨hr71, hr72, hr73, hr74⟩ := hr7
  obtain ⟨hr81, hr82, hr83, hr84⟩ := hr8
  have hb5 : bb.toNat ≤ 1 := Bool.toNat_le bb
  refine lv_aload_n hx hb dL_law_312 rfl (lv_at hl 1 rfl) ?_
  refine lv_aload_n hx hb dL_law_313 rfl (lv_at hl 0 rfl) ?_
  refine lv_iload hx hb dL_law_314 (lv_at hl 4 rfl) ?_
  refine lv_iconst (v := 1) hx hb dL_law_316 (by decide) ?_
  refine lv_iadd hx hb dL_law_317 ?_
  refine va_sld hx hb hX hbl hbA hS (vin_ (j := 1) (by omega) (by omega)) dL_law_318 ?_
  refine lv_aload_n hx hb dL_law_319 rfl (lv_at hl 0 rfl) ?_
  refine lv_iload hx hb dL_law_320 (lv_at hl 4 rfl) ?_
  refine lv_iconst (v := 2) hx hb dL_law_322 (by decide) ?_
  refine lv_iadd hx hb dL_law_323 ?_
  refine va_sld hx hb hX hbl hbA hS (vin_ (j := 2) (by omega) (by omega)) dL_law_324 ?_
  refine lawCall (As := [.int (xs (nI i + 1).toNatClampNeg), .int (xs (nI i + 2).toNatClampNeg)]) (rest := []) (ci := 6) ⟨hx, hb, hml, hown, hts⟩ hm7 (cwV 2 hts gL_law_X7_rowOf rfl rfl rfl (by decide +kernel) ⟨rmF hr71 (by decide), rmL hr72 (Nat.le_of_ble_eq_true rfl)⟩) hP hD hK hS hA rfl he7 rfl hl.1 rfl (Nat.zero_le _) dL_law_325 (lbud hr73 hr74 hcl hsl hk) (fun W1 H1 locs1 hM1 hP1 hD1 hS1 => ?_)
  obtain ⟨⟨fs8, he8⟩, hm9⟩ := hm8 W1 hM1
  obtain ⟨hcl1, hsl1⟩ := lbud2 hr73 hr74 hcl hsl
  have hS := hS1
  refine lv_aload_n hx hb dL_law_328 rfl (lv_at hl 2 rfl) ?_
  refine lv_aload_n hx hb dL_law_329 rfl (lv_at hl 0 rfl) ?_
  refine lv_iload hx hb dL_law_330 (lv_at hl 4 rfl) ?_
  refine lv_iconst (v := 1) hx hb dL_law_332 (by decide) ?_
  refine lv_iadd hx hb dL_law_333 ?_
  refine va_sld hx hb hX hbl hbA hS (vin_ (j := 1) (by omega) (by omega)) dL_law_334 ?_
  refine lv_aload_n hx hb dL_law_335 rfl (lv_at hl 0 rfl) ?_
  refine lv_iload hx hb dL_law_336 (lv_at hl 4 rfl) ?_
  refine lv_iconst (v := 2) hx hb dL_law_338 (by decide) ?_
  refine lv_iadd hx hb dL_law_339 ?_
  refine va_sld hx hb hX hbl hbA hS (vin_ (j := 2) (by omega) (by omega)) dL_law_340 ?_
  refine lawCall (As := [.int (xs (nI i + 1).toNatClampNeg), .int (xs (nI i + 2).toNatClampNeg)]) (rest := [.int a]) (ci := 7) ⟨hx, hb, hml, hown, hts⟩ hm9 (cwV 2 hts gL_law_X8_rowOf rfl rfl rfl (by decide +kernel) ⟨rm8F hr81 (by decide), rm8L hr82 (Nat.le_of_ble_eq_true rfl)⟩) hP1 hD1 hK hS hA rfl he8 rfl hl.1 rfl (Nat.le_of_ble_eq_true rfl) dL_law_341 (lbud8 hr83 hr84 hcl1 hsl1 hk) (fun W2 H2 locs2 hI2 hP2 hD2 hS2 => ?_)
  refine lv_icmp_eq (tgt := 1391) hx hb dL_law_344 (by decide) (fun _ => ?_) (fun c9 => absurd rfl c9)
  exact kk o b' W2 H2 locs2 _ _ ls hI2 hP2 hD2 hS2 hl (by rw [hr83]; exact hcl1) (by rw [hr84]; exact hsl1)
theorem law_slate (hC : LC p s m c b L xs (dC, dI) cI cZ cS) : LK p l e s m below meth c b L xs Q (dC, dI) cI cZ cS F Sh A R0 aO 349 := by
  intro o bb WX H locs cells slots ls i k hi hL3 hI hP hD hS hl hcl hsl hk kk
  obtain ⟨hx, hb, hml, hown, hts, hX, hbl, hK⟩ := hC
  have hA : ∀ q : Nat, s.heap.size ≤ q → (fun q : Nat => s.heap.size ≤ q) q := fun _ h => h
  have hbA : ¬ (fun q : Nat => s.heap.size ≤ q) b := Nat.not_le.mpr hbl
  obtain ⟨a, M, b', rm7, rm8, hr7, hr8, hm7, hm8⟩ := case_slate (x1 := xs (nI i + 1).toNatClampNeg) (x2 := xs (nI i + 2).toNatClampNeg) bb WX hI
  obtain ⟨fs7, he7⟩ := invR hI
  obtain ⟨hr71, hr72, hr73, hr74⟩ := hr7
  obtain ⟨hr81, hr82, hr83, hr84⟩ := hr8
  have hb5 : bb.toNat ≤ 1 := Bool.toNat_le bb
  refine lv_aload_n hx hb dL_law_349 rfl (lv_at hl 1 rfl) ?_
  refine lv_aload_n hx hb dL_law_350 rfl (lv_at hl 0 rfl) ?_
  refine lv_iload hx hb dL_law_351 (lv_at hl 4 rfl) ?_
  refine lv_iconst (v := 1) hx hb dL_law_353 (by decide) ?_
  refine lv_iadd hx hb dL_law_354 ?_
  refine va_sld hx hb hX hbl hbA hS (vin_ (j := 1) (by omega) (by omega)) dL_law_355 ?_
  refine lv_aload_n hx hb dL_law_356 rfl (lv_at hl 0 rfl) ?_
  refine lv_iload hx hb dL_law_357 (lv_at hl 4 rfl) ?_
  refine lv_iconst (v := 2) hx hb dL_law_359 (by decide) ?_
  refine lv_iadd hx hb dL_law_360 ?_
  refine va_sld hx hb hX hbl hbA hS (vin_ (j := 2) (by omega) (by omega)) dL_law_361 ?_
  refine lawCall (As := [.int (xs (nI i + 1).toNatClampNeg), .int (xs (nI i + 2).toNatClampNeg)]) (rest := []) (ci := 6) ⟨hx, hb, hml, hown, hts⟩ hm7 (cwV 2 hts gL_law_X7_slate rfl rfl rfl (by decide +kernel) ⟨rmF hr71 (by decide), rmL hr72 (Nat.le_of_ble_eq_true rfl)⟩) hP hD hK hS hA rfl he7 rfl hl.1 rfl (Nat.zero_le _) dL_law_362 (lbud hr73 hr74 hcl hsl hk) (fun W1 H1 locs1 hM1 hP1 hD1 hS1 => ?_)
  obtain ⟨⟨fs8, he8⟩, hm9⟩ := hm8 W1 hM1
  obtain ⟨hcl1, hsl1⟩ := lbud2 hr73 hr74 hcl hsl
  have hS := hS1
  refine lv_aload_n hx hb dL_law_365 rfl (lv_at hl 2 rfl) ?_
  refine lv_aload_n hx hb dL_law_366 rfl (lv_at hl 0 rfl) ?_
  refine lv_iload hx hb dL_law_367 (lv_at hl 4 rfl) ?_
  refine lv_iconst (v := 1) hx hb dL_law_369 (by decide) ?_
  refine lv_iadd hx hb dL_law_370 ?_
  refine va_sld hx hb hX hbl hbA hS (vin_ (j := 1) (by omega) (by omega)) dL_law_371 ?_
  refine lv_aload_n hx hb dL_law_372 rfl (lv_at hl 0 rfl) ?_
  refine lv_iload hx hb dL_law_373 (lv_at hl 4 rfl) ?_
  refine lv_iconst (v := 2) hx hb dL_law_375 (by decide) ?_
  refine lv_iadd hx hb dL_law_376 ?_
  refine va_sld hx hb hX hbl hbA hS (vin_ (j := 2) (by omega) (by omega)) dL_law_377 ?_
  refine lawCall (As := [.int (xs (nI i + 1).toNatClampNeg), .int (xs (nI i + 2).toNatClampNeg)]) (rest := [.int a]) (ci := 7) ⟨hx, hb, hml, hown, hts⟩ hm9 (cwV 2 hts gL_law_X8_slate rfl rfl rfl (by decide +kernel) ⟨rm8F hr81 (by decide), rm8L hr82 (Nat.le_of_ble_eq_true rfl)⟩) hP1 hD1 hK hS hA rfl he8 rfl hl.1 rfl (Nat.le_of_ble_eq_true rfl) dL_law_378 (lbud8 hr83 hr84 hcl1 hsl1 hk) (fun W2 H2 locs2 hI2 hP2 hD2 hS2 => ?_)
  refine lv_icmp_eq (tgt := 1391) hx hb dL_law_381 (by decide) (fun _ => ?_) (fun c9 => absurd rfl c9)
  exact kk o b' W2 H2 locs2 _ _ ls hI2 hP2 hD2 hS2 hl (by rw [hr83]; exact hcl1) (by rw [hr84]; exact hsl1)
theorem law_joint (hC : LC p s m c b L xs (dC, dI) cI cZ cS) : LK p l e s m below meth c b L xs Q (dC, dI) cI cZ cS F Sh A R0 aO 386 := by
  intro o bb WX H locs cells slots ls i k hi hL3 hI hP hD hS hl hcl hsl hk kk
  obtain ⟨hx, hb, hml, hown, hts, hX, hbl, hK⟩ := hC
  have hA : ∀ q : Nat, s.heap.size ≤ q → (fun q : Nat => s.heap.size ≤ q) q := fun _ h => h
  have hbA : ¬ (fun q : Nat => s.heap.size ≤ q) b := Nat.not_le.mpr hbl
  obtain ⟨a, M, b', rm7, rm8, hr7, hr8, hm7, hm8⟩ := case_joint (x1 := xs (nI i + 1).toNatClampNeg) (x2 := xs (nI i + 2).toNatClampNeg) bb WX hI
  obtain ⟨fs7, he7⟩ := invR hI
  obtain ⟨hr71, hr72, hr73, hr74⟩ := hr7
  obtain ⟨hr81, hr82, hr83, hr84⟩ := hr8
  have hb5 : bb.toNat ≤ 1 := Bool.toNat_le bb
  refine lv_aload_n hx hb dL_law_386 rfl (lv_at hl 1 rfl) ?_
  refine lv_aload_n hx hb dL_law_387 rfl (lv_at hl 0 rfl) ?_
  refine lv_iload hx hb dL_law_388 (lv_at hl 4 rfl) ?_
  refine lv_iconst (v := 1) hx hb dL_law_390 (by decide) ?_
  refine lv_iadd hx hb dL_law_391 ?_
  refine va_sld hx hb hX hbl hbA hS (vin_ (j := 1) (by omega) (by omega)) dL_law_392 ?_
  refine lv_aload_n hx hb dL_law_393 rfl (lv_at hl 0 rfl) ?_
  refine lv_iload hx hb dL_law_394 (lv_at hl 4 rfl) ?_
  refine lv_iconst (v := 2) hx hb dL_law_396 (by decide) ?_
  refine lv_iadd hx hb dL_law_397 ?_
  refine va_sld hx hb hX hbl hbA hS (vin_ (j := 2) (by omega) (by omega)) dL_law_398 ?_
  refine lawCall (As := [.int (xs (nI i + 1).toNatClampNeg), .int (xs (nI i + 2).toNatClampNeg)]) (rest := []) (ci := 6) ⟨hx, hb, hml, hown, hts⟩ hm7 (cwV 2 hts gL_law_X7_joint rfl rfl rfl (by decide +kernel) ⟨rmF hr71 (by decide), rmL hr72 (Nat.le_of_ble_eq_true rfl)⟩) hP hD hK hS hA rfl he7 rfl hl.1 rfl (Nat.zero_le _) dL_law_399 (lbud hr73 hr74 hcl hsl hk) (fun W1 H1 locs1 hM1 hP1 hD1 hS1 => ?_)
  obtain ⟨⟨fs8, he8⟩, hm9⟩ := hm8 W1 hM1
  obtain ⟨hcl1, hsl1⟩ := lbud2 hr73 hr74 hcl hsl
  have hS := hS1
  refine lv_aload_n hx hb dL_law_402 rfl (lv_at hl 2 rfl) ?_
  refine lv_aload_n hx hb dL_law_403 rfl (lv_at hl 0 rfl) ?_
  refine lv_iload hx hb dL_law_404 (lv_at hl 4 rfl) ?_
  refine lv_iconst (v := 1) hx hb dL_law_406 (by decide) ?_
  refine lv_iadd hx hb dL_law_407 ?_
  refine va_sld hx hb hX hbl hbA hS (vin_ (j := 1) (by omega) (by omega)) dL_law_408 ?_
  refine lv_aload_n hx hb dL_law_409 rfl (lv_at hl 0 rfl) ?_
  refine lv_iload hx hb dL_law_410 (lv_at hl 4 rfl) ?_
  refine lv_iconst (v := 2) hx hb dL_law_412 (by decide) ?_
  refine lv_iadd hx hb dL_law_413 ?_
  refine va_sld hx hb hX hbl hbA hS (vin_ (j := 2) (by omega) (by omega)) dL_law_414 ?_
  refine lawCall (As := [.int (xs (nI i + 1).toNatClampNeg), .int (xs (nI i + 2).toNatClampNeg)]) (rest := [.int a]) (ci := 7) ⟨hx, hb, hml, hown, hts⟩ hm9 (cwV 2 hts gL_law_X8_joint rfl rfl rfl (by decide +kernel) ⟨rm8F hr81 (by decide), rm8L hr82 (Nat.le_of_ble_eq_true rfl)⟩) hP1 hD1 hK hS hA rfl he8 rfl hl.1 rfl (Nat.le_of_ble_eq_true rfl) dL_law_415 (lbud8 hr83 hr84 hcl1 hsl1 hk) (fun W2 H2 locs2 hI2 hP2 hD2 hS2 => ?_)
  refine lv_icmp_eq (tgt := 1391) hx hb dL_law_418 (by decide) (fun _ => ?_) (fun c9 => absurd rfl c9)
  exact kk o b' W2 H2 locs2 _ _ ls hI2 hP2 hD2 hS2 hl (by rw [hr83]; exact hcl1) (by rw [hr84]; exact hsl1)
theorem law_may (hC : LC p s m c b L xs (dC, dI) cI cZ cS) : LK p l e s m below meth c b L xs Q (dC, dI) cI cZ cS F Sh A R0 aO 423 := by
  intro o bb WX H locs cells slots ls i k hi hL3 hI hP hD hS hl hcl hsl hk kk
  obtain ⟨hx, hb, hml, hown, hts, hX, hbl, hK⟩ := hC
  have hA : ∀ q : Nat, s.heap.size ≤ q → (fun q : Nat => s.heap.size ≤ q) q := fun _ h => h
  have hbA : ¬ (fun q : Nat => s.heap.size ≤ q) b := Nat.not_le.mpr hbl
  obtain ⟨a, M, b', rm7, rm8, hr7, hr8, hm7, hm8⟩ := case_may (x1 := xs (nI i + 1).toNatClampNeg) (x2 := xs (nI i + 2).toNatClampNeg) bb WX hI
  obtain ⟨fs7, he7⟩ := invR hI
  obtain ⟨hr71, hr72, hr73, hr74⟩ := hr7
  obtain ⟨hr81, hr82, hr83, hr84⟩ := hr8
  have hb5 : bb.toNat ≤ 1 := Bool.toNat_le bb
  refine lv_aload_n hx hb dL_law_423 rfl (lv_at hl 1 rfl) ?_
  refine lv_aload_n hx hb dL_law_424 rfl (lv_at hl 0 rfl) ?_
  refine lv_iload hx hb dL_law_425 (lv_at hl 4 rfl) ?_
  refine lv_iconst (v := 1) hx hb dL_law_427 (by decide) ?_
  refine lv_iadd hx hb dL_law_428 ?_
  refine va_sld hx hb hX hbl hbA hS (vin_ (j := 1) (by omega) (by omega)) dL_law_429 ?_
  refine lv_aload_n hx hb dL_law_430 rfl (lv_at hl 0 rfl) ?_
  refine lv_iload hx hb dL_law_431 (lv_at hl 4 rfl) ?_
  refine lv_iconst (v := 2) hx hb dL_law_433 (by decide) ?_
  refine lv_iadd hx hb dL_law_434 ?_
  refine va_sld hx hb hX hbl hbA hS (vin_ (j := 2) (by omega) (by omega)) dL_law_435 ?_
  refine lawCall (As := [.int (xs (nI i + 1).toNatClampNeg), .int (xs (nI i + 2).toNatClampNeg)]) (rest := []) (ci := 6) ⟨hx, hb, hml, hown, hts⟩ hm7 (cwV 2 hts gL_law_X7_may rfl rfl rfl (by decide +kernel) ⟨rmF hr71 (by decide), rmL hr72 (Nat.le_of_ble_eq_true rfl)⟩) hP hD hK hS hA rfl he7 rfl hl.1 rfl (Nat.zero_le _) dL_law_436 (lbud hr73 hr74 hcl hsl hk) (fun W1 H1 locs1 hM1 hP1 hD1 hS1 => ?_)
  obtain ⟨⟨fs8, he8⟩, hm9⟩ := hm8 W1 hM1
  obtain ⟨hcl1, hsl1⟩ := lbud2 hr73 hr74 hcl hsl
  have hS := hS1
  refine lv_aload_n hx hb dL_law_439 rfl (lv_at hl 2 rfl) ?_
  refine lv_aload_n hx hb dL_law_440 rfl (lv_at hl 0 rfl) ?_
  refine lv_iload hx hb dL_law_441 (lv_at hl 4 rfl) ?_
  refine lv_iconst (v := 1) hx hb dL_law_443 (by decide) ?_
  refine lv_iadd hx hb dL_law_444 ?_
  refine va_sld hx hb hX hbl hbA hS (vin_ (j := 1) (by omega) (by omega)) dL_law_445 ?_
  refine lv_aload_n hx hb dL_law_446 rfl (lv_at hl 0 rfl) ?_
  refine lv_iload hx hb dL_law_447 (lv_at hl 4 rfl) ?_
  refine lv_iconst (v := 2) hx hb dL_law_449 (by decide) ?_
  refine lv_iadd hx hb dL_law_450 ?_
  refine va_sld hx hb hX hbl hbA hS (vin_ (j := 2) (by omega) (by omega)) dL_law_451 ?_
  refine lawCall (As := [.int (xs (nI i + 1).toNatClampNeg), .int (xs (nI i + 2).toNatClampNeg)]) (rest := [.int a]) (ci := 7) ⟨hx, hb, hml, hown, hts⟩ hm9 (cwV 2 hts gL_law_X8_may rfl rfl rfl (by decide +kernel) ⟨rm8F hr81 (by decide), rm8L hr82 (Nat.le_of_ble_eq_true rfl)⟩) hP1 hD1 hK hS hA rfl he8 rfl hl.1 rfl (Nat.le_of_ble_eq_true rfl) dL_law_452 (lbud8 hr83 hr84 hcl1 hsl1 hk) (fun W2 H2 locs2 hI2 hP2 hD2 hS2 => ?_)
  refine lv_icmp_eq (tgt := 1391) hx hb dL_law_455 (by decide) (fun _ => ?_) (fun c9 => absurd rfl c9)
  exact kk o b' W2 H2 locs2 _ _ ls hI2 hP2 hD2 hS2 hl (by rw [hr83]; exact hcl1) (by rw [hr84]; exact hsl1)
theorem law_judge (hC : LC p s m c b L xs (dC, dI) cI cZ cS) (hSh : ∀ k, k < 8 → Sh k = some (F.2.2.2.2.2.1 k)) : LK p l e s m below meth c b L xs Q (dC, dI) cI cZ cS F Sh A R0 aO 460 := by
  intro o bb WX H locs cells slots ls i k hi hL3 hI hP hD hS hl hcl hsl hk kk
  obtain ⟨hx, hb, hml, hown, hts, hX, hbl, hK⟩ := hC
  have hA : ∀ q : Nat, s.heap.size ≤ q → (fun q : Nat => s.heap.size ≤ q) q := fun _ h => h
  have hbA : ¬ (fun q : Nat => s.heap.size ≤ q) b := Nat.not_le.mpr hbl
  obtain ⟨a, M, b', rm7, rm8, hr7, hr8, hm7, hm8⟩ := case_judge hSh (x1 := xs (nI i + 1).toNatClampNeg) (x2 := xs (nI i + 2).toNatClampNeg) bb WX hI
  obtain ⟨fs7, he7⟩ := invR hI
  obtain ⟨hr71, hr72, hr73, hr74⟩ := hr7
  obtain ⟨hr81, hr82, hr83, hr84⟩ := hr8
  have hb5 : bb.toNat ≤ 1 := Bool.toNat_le bb
  refine lv_aload_n hx hb dL_law_460 rfl (lv_at hl 1 rfl) ?_
  refine lv_aload_n hx hb dL_law_461 rfl (lv_at hl 0 rfl) ?_
  refine lv_iload hx hb dL_law_462 (lv_at hl 4 rfl) ?_
  refine lv_iconst (v := 1) hx hb dL_law_464 (by decide) ?_
  refine lv_iadd hx hb dL_law_465 ?_
  refine va_sld hx hb hX hbl hbA hS (vin_ (j := 1) (by omega) (by omega)) dL_law_466 ?_
  refine lv_aload_n hx hb dL_law_467 rfl (lv_at hl 0 rfl) ?_
  refine lv_iload hx hb dL_law_468 (lv_at hl 4 rfl) ?_
  refine lv_iconst (v := 2) hx hb dL_law_470 (by decide) ?_
  refine lv_iadd hx hb dL_law_471 ?_
  refine va_sld hx hb hX hbl hbA hS (vin_ (j := 2) (by omega) (by omega)) dL_law_472 ?_
  refine lawCall (As := [.int (xs (nI i + 1).toNatClampNeg), .int (xs (nI i + 2).toNatClampNeg)]) (rest := []) (ci := 6) ⟨hx, hb, hml, hown, hts⟩ hm7 (cwV 2 hts gL_law_X7_judge rfl rfl rfl (by decide +kernel) ⟨rmF hr71 (by decide), rmL hr72 (Nat.le_of_ble_eq_true rfl)⟩) hP hD hK hS hA rfl he7 rfl hl.1 rfl (Nat.zero_le _) dL_law_473 (lbud hr73 hr74 hcl hsl hk) (fun W1 H1 locs1 hM1 hP1 hD1 hS1 => ?_)
  obtain ⟨⟨fs8, he8⟩, hm9⟩ := hm8 W1 hM1
  obtain ⟨hcl1, hsl1⟩ := lbud2 hr73 hr74 hcl hsl
  have hS := hS1
  refine lv_aload_n hx hb dL_law_476 rfl (lv_at hl 2 rfl) ?_
  refine lv_aload_n hx hb dL_law_477 rfl (lv_at hl 0 rfl) ?_
  refine lv_iload hx hb dL_law_478 (lv_at hl 4 rfl) ?_
  refine lv_iconst (v := 1) hx hb dL_law_480 (by decide) ?_
  refine lv_iadd hx hb dL_law_481 ?_
  refine va_sld hx hb hX hbl hbA hS (vin_ (j := 1) (by omega) (by omega)) dL_law_482 ?_
  refine lv_aload_n hx hb dL_law_483 rfl (lv_at hl 0 rfl) ?_
  refine lv_iload hx hb dL_law_484 (lv_at hl 4 rfl) ?_
  refine lv_iconst (v := 2) hx hb dL_law_486 (by decide) ?_
  refine lv_iadd hx hb dL_law_487 ?_
  refine va_sld hx hb hX hbl hbA hS (vin_ (j := 2) (by omega) (by omega)) dL_law_488 ?_
  refine lawCall (As := [.int (xs (nI i + 1).toNatClampNeg), .int (xs (nI i + 2).toNatClampNeg)]) (rest := [.int a]) (ci := 7) ⟨hx, hb, hml, hown, hts⟩ hm9 (cwV 2 hts gL_law_X8_judge rfl rfl rfl (by decide +kernel) ⟨rm8F hr81 (by decide), rm8L hr82 (Nat.le_of_ble_eq_true rfl)⟩) hP1 hD1 hK hS hA rfl he8 rfl hl.1 rfl (Nat.le_of_ble_eq_true rfl) dL_law_489 (lbud8 hr83 hr84 hcl1 hsl1 hk) (fun W2 H2 locs2 hI2 hP2 hD2 hS2 => ?_)
  refine lv_icmp_eq (tgt := 1391) hx hb dL_law_492 (by decide) (fun _ => ?_) (fun c9 => absurd rfl c9)
  exact kk o b' W2 H2 locs2 _ _ ls hI2 hP2 hD2 hS2 hl (by rw [hr83]; exact hcl1) (by rw [hr84]; exact hsl1)
theorem law_lay (hC : LC p s m c b L xs (dC, dI) cI cZ cS) (hSh : ∀ k, k < 8 → Sh k = some (F.2.2.2.2.2.1 k)) : LK p l e s m below meth c b L xs Q (dC, dI) cI cZ cS F Sh A R0 aO 497 := by
  intro o bb WX H locs cells slots ls i k hi hL3 hI hP hD hS hl hcl hsl hk kk
  obtain ⟨hx, hb, hml, hown, hts, hX, hbl, hK⟩ := hC
  have hA : ∀ q : Nat, s.heap.size ≤ q → (fun q : Nat => s.heap.size ≤ q) q := fun _ h => h
  have hbA : ¬ (fun q : Nat => s.heap.size ≤ q) b := Nat.not_le.mpr hbl
  obtain ⟨a, M, b', rm7, rm8, hr7, hr8, hm7, hm8⟩ := case_lay hSh (x1 := xs (nI i + 1).toNatClampNeg) (x2 := xs (nI i + 2).toNatClampNeg) bb WX hI
  obtain ⟨fs7, he7⟩ := invR hI
  obtain ⟨hr71, hr72, hr73, hr74⟩ := hr7
  obtain ⟨hr81, hr82, hr83, hr84⟩ := hr8
  have hb5 : bb.toNat ≤ 1 := Bool.toNat_le bb
  refine lv_aload_n hx hb dL_law_497 rfl (lv_at hl 1 rfl) ?_
  refine lv_aload_n hx hb dL_law_498 rfl (lv_at hl 0 rfl) ?_
  refine lv_iload hx hb dL_law_499 (lv_at hl 4 rfl) ?_
  refine lv_iconst (v := 1) hx hb dL_law_501 (by decide) ?_
  refine lv_iadd hx hb dL_law_502 ?_
  refine va_sld hx hb hX hbl hbA hS (vin_ (j := 1) (by omega) (by omega)) dL_law_503 ?_
  refine lv_aload_n hx hb dL_law_504 rfl (lv_at hl 0 rfl) ?_
  refine lv_iload hx hb dL_law_505 (lv_at hl 4 rfl) ?_
  refine lv_iconst (v := 2) hx hb dL_law_507 (by decide) ?_
  refine lv_iadd hx hb dL_law_508 ?_
  refine va_sld hx hb hX hbl hbA hS (vin_ (j := 2) (by omega) (by omega)) dL_law_509 ?_
  refine lawCall (As := [.int (xs (nI i + 1).toNatClampNeg), .int (xs (nI i + 2).toNatClampNeg)]) (rest := []) (ci := 6) ⟨hx, hb, hml, hown, hts⟩ hm7 (cwV 2 hts gL_law_X7_lay rfl rfl rfl (by decide +kernel) ⟨rmF hr71 (by decide), rmL hr72 (Nat.le_of_ble_eq_true rfl)⟩) hP hD hK hS hA rfl he7 rfl hl.1 rfl (Nat.zero_le _) dL_law_510 (lbud hr73 hr74 hcl hsl hk) (fun W1 H1 locs1 hM1 hP1 hD1 hS1 => ?_)
  obtain ⟨⟨fs8, he8⟩, hm9⟩ := hm8 W1 hM1
  obtain ⟨hcl1, hsl1⟩ := lbud2 hr73 hr74 hcl hsl
  have hS := hS1
  refine lv_aload_n hx hb dL_law_513 rfl (lv_at hl 2 rfl) ?_
  refine lv_aload_n hx hb dL_law_514 rfl (lv_at hl 0 rfl) ?_
  refine lv_iload hx hb dL_law_515 (lv_at hl 4 rfl) ?_
  refine lv_iconst (v := 1) hx hb dL_law_517 (by decide) ?_
  refine lv_iadd hx hb dL_law_518 ?_
  refine va_sld hx hb hX hbl hbA hS (vin_ (j := 1) (by omega) (by omega)) dL_law_519 ?_
  refine lv_aload_n hx hb dL_law_520 rfl (lv_at hl 0 rfl) ?_
  refine lv_iload hx hb dL_law_521 (lv_at hl 4 rfl) ?_
  refine lv_iconst (v := 2) hx hb dL_law_523 (by decide) ?_
  refine lv_iadd hx hb dL_law_524 ?_
  refine va_sld hx hb hX hbl hbA hS (vin_ (j := 2) (by omega) (by omega)) dL_law_525 ?_
  refine lawCall (As := [.int (xs (nI i + 1).toNatClampNeg), .int (xs (nI i + 2).toNatClampNeg)]) (rest := [.int a]) (ci := 7) ⟨hx, hb, hml, hown, hts⟩ hm9 (cwV 2 hts gL_law_X8_lay rfl rfl rfl (by decide +kernel) ⟨rm8F hr81 (by decide), rm8L hr82 (Nat.le_of_ble_eq_true rfl)⟩) hP1 hD1 hK hS hA rfl he8 rfl hl.1 rfl (Nat.le_of_ble_eq_true rfl) dL_law_526 (lbud8 hr83 hr84 hcl1 hsl1 hk) (fun W2 H2 locs2 hI2 hP2 hD2 hS2 => ?_)
  refine lv_icmp_eq (tgt := 1391) hx hb dL_law_529 (by decide) (fun _ => ?_) (fun c9 => absurd rfl c9)
  exact kk o b' W2 H2 locs2 _ _ ls hI2 hP2 hD2 hS2 hl (by rw [hr83]; exact hcl1) (by rw [hr84]; exact hsl1)
theorem law_takeUp (hC : LC p s m c b L xs (dC, dI) cI cZ cS) : LK p l e s m below meth c b L xs Q (dC, dI) cI cZ cS F Sh A R0 aO 534 := by
  intro o bb WX H locs cells slots ls i k hi hL3 hI hP hD hS hl hcl hsl hk kk
  obtain ⟨hx, hb, hml, hown, hts, hX, hbl, hK⟩ := hC
  have hA : ∀ q : Nat, s.heap.size ≤ q → (fun q : Nat => s.heap.size ≤ q) q := fun _ h => h
  have hbA : ¬ (fun q : Nat => s.heap.size ≤ q) b := Nat.not_le.mpr hbl
  obtain ⟨a, M, b', rm7, rm8, hr7, hr8, hm7, hm8⟩ := case_takeUp (x1 := xs (nI i + 1).toNatClampNeg) bb WX hI
  obtain ⟨fs7, he7⟩ := invR hI
  obtain ⟨hr71, hr72, hr73, hr74⟩ := hr7
  obtain ⟨hr81, hr82, hr83, hr84⟩ := hr8
  have hb5 : bb.toNat ≤ 1 := Bool.toNat_le bb
  refine lv_aload_n hx hb dL_law_534 rfl (lv_at hl 1 rfl) ?_
  refine lv_aload_n hx hb dL_law_535 rfl (lv_at hl 0 rfl) ?_
  refine lv_iload hx hb dL_law_536 (lv_at hl 4 rfl) ?_
  refine lv_iconst (v := 1) hx hb dL_law_538 (by decide) ?_
  refine lv_iadd hx hb dL_law_539 ?_
  refine va_sld hx hb hX hbl hbA hS (vin_ (j := 1) (by omega) (by omega)) dL_law_540 ?_
  refine lawCall (As := [.int (xs (nI i + 1).toNatClampNeg)]) (rest := []) (ci := 6) ⟨hx, hb, hml, hown, hts⟩ hm7 (cwV 1 hts gL_law_X7_takeUp rfl rfl rfl (by decide +kernel) ⟨rmF hr71 (by decide), rmL hr72 (Nat.le_of_ble_eq_true rfl)⟩) hP hD hK hS hA rfl he7 rfl hl.1 rfl (Nat.zero_le _) dL_law_541 (lbud hr73 hr74 hcl hsl hk) (fun W1 H1 locs1 hM1 hP1 hD1 hS1 => ?_)
  obtain ⟨⟨fs8, he8⟩, hm9⟩ := hm8 W1 hM1
  obtain ⟨hcl1, hsl1⟩ := lbud2 hr73 hr74 hcl hsl
  have hS := hS1
  refine lv_aload_n hx hb dL_law_544 rfl (lv_at hl 2 rfl) ?_
  refine lv_aload_n hx hb dL_law_545 rfl (lv_at hl 0 rfl) ?_
  refine lv_iload hx hb dL_law_546 (lv_at hl 4 rfl) ?_
  refine lv_iconst (v := 1) hx hb dL_law_548 (by decide) ?_
  refine lv_iadd hx hb dL_law_549 ?_
  refine va_sld hx hb hX hbl hbA hS (vin_ (j := 1) (by omega) (by omega)) dL_law_550 ?_
  refine lawCall (As := [.int (xs (nI i + 1).toNatClampNeg)]) (rest := [.int a]) (ci := 7) ⟨hx, hb, hml, hown, hts⟩ hm9 (cwV 1 hts gL_law_X8_takeUp rfl rfl rfl (by decide +kernel) ⟨rm8F hr81 (by decide), rm8L hr82 (Nat.le_of_ble_eq_true rfl)⟩) hP1 hD1 hK hS hA rfl he8 rfl hl.1 rfl (Nat.le_of_ble_eq_true rfl) dL_law_551 (lbud8 hr83 hr84 hcl1 hsl1 hk) (fun W2 H2 locs2 hI2 hP2 hD2 hS2 => ?_)
  refine lv_icmp_eq (tgt := 1391) hx hb dL_law_554 (by decide) (fun _ => ?_) (fun c9 => absurd rfl c9)
  exact kk o b' W2 H2 locs2 _ _ ls hI2 hP2 hD2 hS2 hl (by rw [hr83]; exact hcl1) (by rw [hr84]; exact hsl1)
theorem law_fills (hC : LC p s m c b L xs (dC, dI) cI cZ cS) : LK p l e s m below meth c b L xs Q (dC, dI) cI cZ cS F Sh A R0 aO 559 := by
  intro o bb WX H locs cells slots ls i k hi hL3 hI hP hD hS hl hcl hsl hk kk
  obtain ⟨hx, hb, hml, hown, hts, hX, hbl, hK⟩ := hC
  have hA : ∀ q : Nat, s.heap.size ≤ q → (fun q : Nat => s.heap.size ≤ q) q := fun _ h => h
  have hbA : ¬ (fun q : Nat => s.heap.size ≤ q) b := Nat.not_le.mpr hbl
  obtain ⟨a, M, b', rm7, rm8, hr7, hr8, hm7, hm8⟩ := case_fills (x1 := xs (nI i + 1).toNatClampNeg) bb WX hI
  obtain ⟨fs7, he7⟩ := invR hI
  obtain ⟨hr71, hr72, hr73, hr74⟩ := hr7
  obtain ⟨hr81, hr82, hr83, hr84⟩ := hr8
  have hb5 : bb.toNat ≤ 1 := Bool.toNat_le bb
  refine lv_aload_n hx hb dL_law_559 rfl (lv_at hl 1 rfl) ?_
  refine lv_aload_n hx hb dL_law_560 rfl (lv_at hl 0 rfl) ?_
  refine lv_iload hx hb dL_law_561 (lv_at hl 4 rfl) ?_
  refine lv_iconst (v := 1) hx hb dL_law_563 (by decide) ?_
  refine lv_iadd hx hb dL_law_564 ?_
  refine va_sld hx hb hX hbl hbA hS (vin_ (j := 1) (by omega) (by omega)) dL_law_565 ?_
  refine lawCall (As := [.int (xs (nI i + 1).toNatClampNeg)]) (rest := []) (ci := 6) ⟨hx, hb, hml, hown, hts⟩ hm7 (cwV 1 hts gL_law_X7_fills rfl rfl rfl (by decide +kernel) ⟨rmF hr71 (by decide), rmL hr72 (Nat.le_of_ble_eq_true rfl)⟩) hP hD hK hS hA rfl he7 rfl hl.1 rfl (Nat.zero_le _) dL_law_566 (lbud hr73 hr74 hcl hsl hk) (fun W1 H1 locs1 hM1 hP1 hD1 hS1 => ?_)
  obtain ⟨⟨fs8, he8⟩, hm9⟩ := hm8 W1 hM1
  obtain ⟨hcl1, hsl1⟩ := lbud2 hr73 hr74 hcl hsl
  have hS := hS1
  refine lv_aload_n hx hb dL_law_569 rfl (lv_at hl 2 rfl) ?_
  refine lv_aload_n hx hb dL_law_570 rfl (lv_at hl 0 rfl) ?_
  refine lv_iload hx hb dL_law_571 (lv_at hl 4 rfl) ?_
  refine lv_iconst (v := 1) hx hb dL_law_573 (by decide) ?_
  refine lv_iadd hx hb dL_law_574 ?_
  refine va_sld hx hb hX hbl hbA hS (vin_ (j := 1) (by omega) (by omega)) dL_law_575 ?_
  refine lawCall (As := [.int (xs (nI i + 1).toNatClampNeg)]) (rest := [.int a]) (ci := 7) ⟨hx, hb, hml, hown, hts⟩ hm9 (cwV 1 hts gL_law_X8_fills rfl rfl rfl (by decide +kernel) ⟨rm8F hr81 (by decide), rm8L hr82 (Nat.le_of_ble_eq_true rfl)⟩) hP1 hD1 hK hS hA rfl he8 rfl hl.1 rfl (Nat.le_of_ble_eq_true rfl) dL_law_576 (lbud8 hr83 hr84 hcl1 hsl1 hk) (fun W2 H2 locs2 hI2 hP2 hD2 hS2 => ?_)
  refine lv_icmp_eq (tgt := 1391) hx hb dL_law_579 (by decide) (fun _ => ?_) (fun c9 => absurd rfl c9)
  exact kk o b' W2 H2 locs2 _ _ ls hI2 hP2 hD2 hS2 hl (by rw [hr83]; exact hcl1) (by rw [hr84]; exact hsl1)
theorem law_first (hC : LC p s m c b L xs (dC, dI) cI cZ cS) : LK p l e s m below meth c b L xs Q (dC, dI) cI cZ cS F Sh A R0 aO 584 := by
  intro o bb WX H locs cells slots ls i k hi hL3 hI hP hD hS hl hcl hsl hk kk
  obtain ⟨hx, hb, hml, hown, hts, hX, hbl, hK⟩ := hC
  have hA : ∀ q : Nat, s.heap.size ≤ q → (fun q : Nat => s.heap.size ≤ q) q := fun _ h => h
  have hbA : ¬ (fun q : Nat => s.heap.size ≤ q) b := Nat.not_le.mpr hbl
  obtain ⟨a, M, b', rm7, rm8, hr7, hr8, hm7, hm8⟩ := case_first (x1 := xs (nI i + 1).toNatClampNeg) (x2 := xs (nI i + 2).toNatClampNeg) bb WX hI
  obtain ⟨fs7, he7⟩ := invR hI
  obtain ⟨hr71, hr72, hr73, hr74⟩ := hr7
  obtain ⟨hr81, hr82, hr83, hr84⟩ := hr8
  have hb5 : bb.toNat ≤ 1 := Bool.toNat_le bb
  refine lv_aload_n hx hb dL_law_584 rfl (lv_at hl 1 rfl) ?_
  refine lv_aload_n hx hb dL_law_585 rfl (lv_at hl 0 rfl) ?_
  refine lv_iload hx hb dL_law_586 (lv_at hl 4 rfl) ?_
  refine lv_iconst (v := 1) hx hb dL_law_588 (by decide) ?_
  refine lv_iadd hx hb dL_law_589 ?_
  refine va_sld hx hb hX hbl hbA hS (vin_ (j := 1) (by omega) (by omega)) dL_law_590 ?_
  refine lv_aload_n hx hb dL_law_591 rfl (lv_at hl 0 rfl) ?_
  refine lv_iload hx hb dL_law_592 (lv_at hl 4 rfl) ?_
  refine lv_iconst (v := 2) hx hb dL_law_594 (by decide) ?_
  refine lv_iadd hx hb dL_law_595 ?_
  refine va_sld hx hb hX hbl hbA hS (vin_ (j := 2) (by omega) (by omega)) dL_law_596 ?_
  refine lawCall (As := [.int (xs (nI i + 1).toNatClampNeg), .int (xs (nI i + 2).toNatClampNeg)]) (rest := []) (ci := 6) ⟨hx, hb, hml, hown, hts⟩ hm7 (cwV 2 hts gL_law_X7_first rfl rfl rfl (by decide +kernel) ⟨rmF hr71 (by decide), rmL hr72 (Nat.le_of_ble_eq_true rfl)⟩) hP hD hK hS hA rfl he7 rfl hl.1 rfl (Nat.zero_le _) dL_law_597 (lbud hr73 hr74 hcl hsl hk) (fun W1 H1 locs1 hM1 hP1 hD1 hS1 => ?_)
  obtain ⟨⟨fs8, he8⟩, hm9⟩ := hm8 W1 hM1
  obtain ⟨hcl1, hsl1⟩ := lbud2 hr73 hr74 hcl hsl
  have hS := hS1
  refine lv_aload_n hx hb dL_law_600 rfl (lv_at hl 2 rfl) ?_
  refine lv_aload_n hx hb dL_law_601 rfl (lv_at hl 0 rfl) ?_
  refine lv_iload hx hb dL_law_602 (lv_at hl 4 rfl) ?_
  refine lv_iconst (v := 1) hx hb dL_law_604 (by decide) ?_
  refine lv_iadd hx hb dL_law_605 ?_
  refine va_sld hx hb hX hbl hbA hS (vin_ (j := 1) (by omega) (by omega)) dL_law_606 ?_
  refine lv_aload_n hx hb dL_law_607 rfl (lv_at hl 0 rfl) ?_
  refine lv_iload hx hb dL_law_608 (lv_at hl 4 rfl) ?_
  refine lv_iconst (v := 2) hx hb dL_law_610 (by decide) ?_
  refine lv_iadd hx hb dL_law_611 ?_
  refine va_sld hx hb hX hbl hbA hS (vin_ (j := 2) (by omega) (by omega)) dL_law_612 ?_
  refine lawCall (As := [.int (xs (nI i + 1).toNatClampNeg), .int (xs (nI i + 2).toNatClampNeg)]) (rest := [.int a]) (ci := 7) ⟨hx, hb, hml, hown, hts⟩ hm9 (cwV 2 hts gL_law_X8_first rfl rfl rfl (by decide +kernel) ⟨rm8F hr81 (by decide), rm8L hr82 (Nat.le_of_ble_eq_true rfl)⟩) hP1 hD1 hK hS hA rfl he8 rfl hl.1 rfl (Nat.le_of_ble_eq_true rfl) dL_law_613 (lbud8 hr83 hr84 hcl1 hsl1 hk) (fun W2 H2 locs2 hI2 hP2 hD2 hS2 => ?_)
  refine lv_icmp_eq (tgt := 1391) hx hb dL_law_616 (by decide) (fun _ => ?_) (fun c9 => absurd rfl c9)
  exact kk o b' W2 H2 locs2 _ _ ls hI2 hP2 hD2 hS2 hl (by rw [hr83]; exact hcl1) (by rw [hr84]; exact hsl1)
theorem law_best (hC : LC p s m c b L xs (dC, dI) cI cZ cS) : LK p l e s m below meth c b L xs Q (dC, dI) cI cZ cS F Sh A R0 aO 621 := by
  intro o bb WX H locs cells slots ls i k hi hL3 hI hP hD hS hl hcl hsl hk kk
  obtain ⟨hx, hb, hml, hown, hts, hX, hbl, hK⟩ := hC
  have hA : ∀ q : Nat, s.heap.size ≤ q → (fun q : Nat => s.heap.size ≤ q) q := fun _ h => h
  have hbA : ¬ (fun q : Nat => s.heap.size ≤ q) b := Nat.not_le.mpr hbl
  obtain ⟨a, M, b', rm7, rm8, hr7, hr8, hm7, hm8⟩ := case_best (x1 := xs (nI i + 1).toNatClampNeg) (x2 := xs (nI i + 2).toNatClampNeg) bb WX hI
  obtain ⟨fs7, he7⟩ := invR hI
  obtain ⟨hr71, hr72, hr73, hr74⟩ := hr7
  obtain ⟨hr81, hr82, hr83, hr84⟩ := hr8
  have hb5 : bb.toNat ≤ 1 := Bool.toNat_le bb
  refine lv_aload_n hx hb dL_law_621 rfl (lv_at hl 1 rfl) ?_
  refine lv_aload_n hx hb dL_law_622 rfl (lv_at hl 0 rfl) ?_
  refine lv_iload hx hb dL_law_623 (lv_at hl 4 rfl) ?_
  refine lv_iconst (v := 1) hx hb dL_law_625 (by decide) ?_
  refine lv_iadd hx hb dL_law_626 ?_
  refine va_sld hx hb hX hbl hbA hS (vin_ (j := 1) (by omega) (by omega)) dL_law_627 ?_
  refine lv_aload_n hx hb dL_law_628 rfl (lv_at hl 0 rfl) ?_
  refine lv_iload hx hb dL_law_629 (lv_at hl 4 rfl) ?_
  refine lv_iconst (v := 2) hx hb dL_law_631 (by decide) ?_
  refine lv_iadd hx hb dL_law_632 ?_
  refine va_sld hx hb hX hbl hbA hS (vin_ (j := 2) (by omega) (by omega)) dL_law_633 ?_
  refine lawCall (As := [.int (xs (nI i + 1).toNatClampNeg), .int (xs (nI i + 2).toNatClampNeg)]) (rest := []) (ci := 6) ⟨hx, hb, hml, hown, hts⟩ hm7 (cwV 2 hts gL_law_X7_best rfl rfl rfl (by decide +kernel) ⟨rmF hr71 (by decide), rmL hr72 (Nat.le_of_ble_eq_true rfl)⟩) hP hD hK hS hA rfl he7 rfl hl.1 rfl (Nat.zero_le _) dL_law_634 (lbud hr73 hr74 hcl hsl hk) (fun W1 H1 locs1 hM1 hP1 hD1 hS1 => ?_)
  obtain ⟨⟨fs8, he8⟩, hm9⟩ := hm8 W1 hM1
  obtain ⟨hcl1, hsl1⟩ := lbud2 hr73 hr74 hcl hsl
  have hS := hS1
  refine lv_aload_n hx hb dL_law_637 rfl (lv_at hl 2 rfl) ?_
  refine lv_aload_n hx hb dL_law_638 rfl (lv_at hl 0 rfl) ?_
  refine lv_iload hx hb dL_law_639 (lv_at hl 4 rfl) ?_
  refine lv_iconst (v := 1) hx hb dL_law_641 (by decide) ?_
  refine lv_iadd hx hb dL_law_642 ?_
  refine va_sld hx hb hX hbl hbA hS (vin_ (j := 1) (by omega) (by omega)) dL_law_643 ?_
  refine lv_aload_n hx hb dL_law_644 rfl (lv_at hl 0 rfl) ?_
  refine lv_iload hx hb dL_law_645 (lv_at hl 4 rfl) ?_
  refine lv_iconst (v := 2) hx hb dL_law_647 (by decide) ?_
  refine lv_iadd hx hb dL_law_648 ?_
  refine va_sld hx hb hX hbl hbA hS (vin_ (j := 2) (by omega) (by omega)) dL_law_649 ?_
  refine lawCall (As := [.int (xs (nI i + 1).toNatClampNeg), .int (xs (nI i + 2).toNatClampNeg)]) (rest := [.int a]) (ci := 7) ⟨hx, hb, hml, hown, hts⟩ hm9 (cwV 2 hts gL_law_X8_best rfl rfl rfl (by decide +kernel) ⟨rm8F hr81 (by decide), rm8L hr82 (Nat.le_of_ble_eq_true rfl)⟩) hP1 hD1 hK hS hA rfl he8 rfl hl.1 rfl (Nat.le_of_ble_eq_true rfl) dL_law_650 (lbud8 hr83 hr84 hcl1 hsl1 hk) (fun W2 H2 locs2 hI2 hP2 hD2 hS2 => ?_)
  refine lv_icmp_eq (tgt := 1391) hx hb dL_law_653 (by decide) (fun _ => ?_) (fun c9 => absurd rfl c9)
  exact kk o b' W2 H2 locs2 _ _ ls hI2 hP2 hD2 hS2 hl (by rw [hr83]; exact hcl1) (by rw [hr84]; exact hsl1)
theorem law_cuts (hC : LC p s m c b L xs (dC, dI) cI cZ cS) : LK p l e s m below meth c b L xs Q (dC, dI) cI cZ cS F Sh A R0 aO 658 := by
  intro o bb WX H locs cells slots ls i k hi hL3 hI hP hD hS hl hcl hsl hk kk
  obtain ⟨hx, hb, hml, hown, hts, hX, hbl, hK⟩ := hC
  have hA : ∀ q : Nat, s.heap.size ≤ q → (fun q : Nat => s.heap.size ≤ q) q := fun _ h => h
  have hbA : ¬ (fun q : Nat => s.heap.size ≤ q) b := Nat.not_le.mpr hbl
  obtain ⟨a, M, b', rm7, rm8, hr7, hr8, hm7, hm8⟩ := case_cuts (x1 := xs (nI i + 1).toNatClampNeg) (x2 := xs (nI i + 2).toNatClampNeg) bb WX hI
  obtain ⟨fs7, he7⟩ := invR hI
  obtain ⟨hr71, hr72, hr73, hr74⟩ := hr7
  obtain ⟨hr81, hr82, hr83, hr84⟩ := hr8
  have hb5 : bb.toNat ≤ 1 := Bool.toNat_le bb
  refine lv_aload_n hx hb dL_law_658 rfl (lv_at hl 1 rfl) ?_
  refine lv_aload_n hx hb dL_law_659 rfl (lv_at hl 0 rfl) ?_
  refine lv_iload hx hb dL_law_660 (lv_at hl 4 rfl) ?_
  refine lv_iconst (v := 1) hx hb dL_law_662 (by decide) ?_
  refine lv_iadd hx hb dL_law_663 ?_
  refine va_sld hx hb hX hbl hbA hS (vin_ (j := 1) (by omega) (by omega)) dL_law_664 ?_
  refine lv_aload_n hx hb dL_law_665 rfl (lv_at hl 0 rfl) ?_
  refine lv_iload hx hb dL_law_666 (lv_at hl 4 rfl) ?_
  refine lv_iconst (v := 2) hx hb dL_law_668 (by decide) ?_
  refine lv_iadd hx hb dL_law_669 ?_
  refine va_sld hx hb hX hbl hbA hS (vin_ (j := 2) (by omega) (by omega)) dL_law_670 ?_
  refine lawCall (As := [.int (xs (nI i + 1).toNatClampNeg), .int (xs (nI i + 2).toNatClampNeg)]) (rest := []) (ci := 6) ⟨hx, hb, hml, hown, hts⟩ hm7 (cwV 2 hts gL_law_X7_cuts rfl rfl rfl (by decide +kernel) ⟨rmF hr71 (by decide), rmL hr72 (Nat.le_of_ble_eq_true rfl)⟩) hP hD hK hS hA rfl he7 rfl hl.1 rfl (Nat.zero_le _) dL_law_671 (lbud hr73 hr74 hcl hsl hk) (fun W1 H1 locs1 hM1 hP1 hD1 hS1 => ?_)
  obtain ⟨⟨fs8, he8⟩, hm9⟩ := hm8 W1 hM1
  obtain ⟨hcl1, hsl1⟩ := lbud2 hr73 hr74 hcl hsl
  have hS := hS1
  refine lv_aload_n hx hb dL_law_674 rfl (lv_at hl 2 rfl) ?_
  refine lv_aload_n hx hb dL_law_675 rfl (lv_at hl 0 rfl) ?_
  refine lv_iload hx hb dL_law_676 (lv_at hl 4 rfl) ?_
  refine lv_iconst (v := 1) hx hb dL_law_678 (by decide) ?_
  refine lv_iadd hx hb dL_law_679 ?_
  refine va_sld hx hb hX hbl hbA hS (vin_ (j := 1) (by omega) (by omega)) dL_law_680 ?_
  refine lv_aload_n hx hb dL_law_681 rfl (lv_at hl 0 rfl) ?_
  refine lv_iload hx hb dL_law_682 (lv_at hl 4 rfl) ?_
  refine lv_iconst (v := 2) hx hb dL_law_684 (by decide) ?_
  refine lv_iadd hx hb dL_law_685 ?_
  refine va_sld hx hb hX hbl hbA hS (vin_ (j := 2) (by omega) (by omega)) dL_law_686 ?_
  refine lawCall (As := [.int (xs (nI i + 1).toNatClampNeg), .int (xs (nI i + 2).toNatClampNeg)]) (rest := [.int a]) (ci := 7) ⟨hx, hb, hml, hown, hts⟩ hm9 (cwV 2 hts gL_law_X8_cuts rfl rfl rfl (by decide +kernel) ⟨rm8F hr81 (by decide), rm8L hr82 (Nat.le_of_ble_eq_true rfl)⟩) hP1 hD1 hK hS hA rfl he8 rfl hl.1 rfl (Nat.le_of_ble_eq_true rfl) dL_law_687 (lbud8 hr83 hr84 hcl1 hsl1 hk) (fun W2 H2 locs2 hI2 hP2 hD2 hS2 => ?_)
  refine lv_icmp_eq (tgt := 1391) hx hb dL_law_690 (by decide) (fun _ => ?_) (fun c9 => absurd rfl c9)
  exact kk o b' W2 H2 locs2 _ _ ls hI2 hP2 hD2 hS2 hl (by rw [hr83]; exact hcl1) (by rw [hr84]; exact hsl1)
end LAWK
