section LAWK
variable {p : Program} {l : Launch} {e : Env} {s : State} {m : MethodId} {below : List Frame} {meth : Method} {c : Code} {b L : Nat} {xs : Nat → Int32} {Q : State → Prop}
variable {dC : Nat → ClassId} {dI : Nat → Nat → Nat} {cI cZ cS : ClassId} {F : FX} {Sh : Nat → Option Nat} {A : Nat → Nat} {aO : Nat}
theorem lg_cmp_self (x : Int64) : lg_cmp x x = 0 := by
  unfold lg_cmp
  simp
theorem law_element {sa1 sa2 : Nat} {cL : ClassId} (hC : LC p s m c b L xs (dC, dI) cI cZ cS) (hst : l.stackTraces = false) (hSh : ∀ k, k < 8 → Sh k = some (F.2.2.2.2.2.1 k)) (hEs : elS (dC, dI) cI cZ cS cL (fun q : Nat => s.heap.size ≤ q) sa1 sa2 s) : LK p l e s m below meth c b L xs Q (dC, dI) cI cZ cS F Sh A (outW aO cL) aO 1201 := by
  intro o bb WX H locs cells slots ls i k hi hL3 hI hP hD hS hl hcl hsl hk kk
  obtain ⟨hx, hb, hml, hown, hts, hX, hbl, hK⟩ := hC
  have hA : ∀ q : Nat, s.heap.size ≤ q → (fun q : Nat => s.heap.size ≤ q) q := fun _ h => h
  have hbA : ¬ (fun q : Nat => s.heap.size ≤ q) b := Nat.not_le.mpr hbl
  obtain ⟨k9, v9, w9, g, f, hk2, hk0, e2, hM⟩ := elem_cls (l := l) (dC := dC) (dI := dI) (sa1 := sa1) (sa2 := sa2) hst hSh (x1 := xs (nI i + 1).toNatClampNeg) (x2 := xs (nI i + 2).toNatClampNeg) hI
  obtain ⟨h7, h8⟩ := bd_le (b := bb) (k := k + 1) (by omega)
  have hc1 : cells + 1 ≤ 601024 := by unfold bdC at *; omega
  have hs1 : slots + 6 ≤ 7293034 := by unfold bdS at *; omega
  have hFc : ∀ q, va_A WX H.size q → s.heap.size ≤ q := fun q h => by
    rcases h with ⟨k, e, h⟩ | h
    · exact hD.2 k (q, e) h
    · exact Nat.le_trans hS.1 h
  refine lv_aload_n hx hb dL_law_1201 rfl (lv_at hl 1 rfl) ?_
  refine lv_aload_n hx hb dL_law_1202 rfl (lv_at hl 0 rfl) ?_
  refine lv_iload hx hb dL_law_1203 (lv_at hl 4 rfl) ?_
  refine lv_iconst (v := 1) hx hb dL_law_1205 (by decide) ?_
  refine lv_iadd hx hb dL_law_1206 ?_
  refine va_sld hx hb hX hbl hbA hS (vin_ (j := 1) (by omega) (by omega)) dL_law_1207 ?_
  refine lv_aload_n hx hb dL_law_1208 rfl (lv_at hl 0 rfl) ?_
  refine lv_iload hx hb dL_law_1209 (lv_at hl 4 rfl) ?_
  refine lv_iconst (v := 2) hx hb dL_law_1211 (by decide) ?_
  refine lv_iadd hx hb dL_law_1212 ?_
  refine va_sld hx hb hX hbl hbA hS (vin_ (j := 2) (by omega) (by omega)) dL_law_1213 ?_
  refine lv_aload_n hx hb dL_law_1214 rfl (lv_at hl 3 rfl) ?_
  refine va_calli (vx_runSW (g := F0 m 1215 ls [.ref aO, .int (xs (nI i + 2).toNatClampNeg), .int (xs (nI i + 1).toNatClampNeg), .ref F.1]) (As := [.ref F.1, .int (xs (nI i + 1).toNatClampNeg), .int (xs (nI i + 2).toNatClampNeg), .ref aO]) (rest := []) ⟨hx, hb, hml, hown, hts⟩ (hM H.size) (vx_cwSW 4 hts gL_law_L_element rfl rfl rfl (by decide +kernel) ⟨by decide, Nat.le_of_ble_eq_true rfl⟩) ⟨fun a U g9 mk q => ⟨(preW_blind a U g9 mk ⟨q.1, q.2.1⟩).1, (preW_blind a U g9 mk ⟨q.1, q.2.1⟩).2, elS.call q.2.2⟩, fun U hU hW => ⟨rfl, ⟨by rw [hU], wd_of hP hD hK hU hW⟩, hEs.toH hS hU hW hFc⟩⟩ rfl rfl hl.1 rfl (lv_room (Nat.zero_le _)) dL_law_1215 ⟨hc1, hs1⟩) hS (fun q _ h => hFc q h) hFc (fun r u t H1 locs1 ht hvm hw hB hz1 hk1 hS1 => ?_)
  obtain ⟨hP1, hK1, hD1⟩ := hB
  rw [ht] at hP1
  obtain ⟨rfl, fo', hfo, hmid⟩ := hw
  have hD1 : va_D (fun q : Nat => s.heap.size ≤ q) u := hD1.weaken (fun k q hk h => hFc _ h)
  refine lv_istore (lv' := [(5, .int (nI k9)), (0, .ref b), (1, .ref F.1), (2, .ref (A 0)), (3, .ref aO), (4, .int (nI i))]) hx hb dL_law_1218 hl (by decide) rfl (fun ls hl => ?_)
  refine lv_aload_n hx hb dL_law_1220 rfl (lv_at hl 3 rfl) ?_
  refine lv_aload_n hx hb dL_law_1221 rfl (lv_at hl 1 rfl) ?_
  refine lv_iload hx hb dL_law_1222 (lv_at hl 5 rfl) ?_
  refine lv_iconst (v := 1) hx hb dL_law_1224 (by decide) ?_
  refine lv_iadd hx hb dL_law_1225 ?_
  refine va_sld hx hb hX hbl hbA hS1 (vin_ (j := 1) (by omega) (by omega)) dL_law_1226 ?_
  refine lv_aload_n hx hb dL_law_1227 rfl (lv_at hl 1 rfl) ?_
  refine lv_iload hx hb dL_law_1228 (lv_at hl 5 rfl) ?_
  refine lv_iconst (v := 2) hx hb dL_law_1230 (by decide) ?_
  refine lv_iadd hx hb dL_law_1231 ?_
  refine va_sld hx hb hX hbl hbA hS1 (vin_ (j := 2) (by omega) (by omega)) dL_law_1232 ?_
  obtain ⟨fs8, he8⟩ := midR hmid
  obtain ⟨k0, he8⟩ := List.mem_iff_getElem?.mp he8
  have hFc1 : ∀ q, va_A u H1.size q → s.heap.size ≤ q := fun q h => by
    rcases h with ⟨k, e, h⟩ | h
    · exact hD1.2 k (q, e) h
    · exact Nat.le_trans hS1.1 h
  refine va_calll (va_runV (g := F0 m 1233 ls [.int (xs (nI i + 2).toNatClampNeg), .int (xs (nI i + 1).toNatClampNeg), .ref (A 0)]) (As := [.int (xs (nI i + 1).toNatClampNeg), .int (xs (nI i + 2).toNatClampNeg)]) (rest := []) ⟨hx, hb, hml, hown, hts⟩ (modWl (J := [0, 5, 7, 8]) (g' := (updG g 1 (nI k9))) (f' := f) (im_split _ (by decide +kernel)) (fun sz => k_X8_element l dC dI cI cZ cS 40000 (A 0) (A 5) (A 7) (A 8) (A 1) (A 2) (A 3) (A 4) (A 6) (A 9) (A 10) (A 11) (A 12) (A 13) (A 14) (A 15) (A 16) sz (f 5) (f 7) (f 8) (g 0) (g 1) (g 2) (g 3) (g 4) (g 5) (g 6) (g 7) (g 8) (g 9) (g 10) (g 11) (g 12) (g 13) (g 14) (g 15) (g 16) (g 17) (g 18) (g 19) (g 20) (xs (nI i + 1).toNatClampNeg) (xs (nI i + 2).toNatClampNeg) _ e2) rfl hmid H1.size) (cwV 2 hts gL_law_X8_element rfl rfl rfl (by decide +kernel) ⟨by decide, Nat.le_of_ble_eq_true rfl⟩) ⟨preW_blind, va_recv hK hP1 (ci := 7) rfl he8, fun U hU hW => ⟨rfl, by rw [hU], wd_of hP1 hD1 hK hU hW⟩⟩ rfl rfl hl.1 rfl (lv_room (Nat.zero_le _)) dL_law_1233 ⟨hc1, hs1⟩) hS1 (fun q _ h => hFc1 q h) hFc1 (fun r u2 t2 H2 locs2 ht2 hvm2 hw2 hB2 hz2 hk12 hS2 => ?_)
  obtain ⟨hP2, hK2, hD2⟩ := hB2
  rw [ht2] at hP2
  obtain ⟨hr9, hmid2⟩ := hw2
  have hr9 : r = w9 := hr9
  rw [hr9]
  have hD2 : va_D (fun q : Nat => s.heap.size ≤ q) u2 := hD2.weaken (fun k q hk h => hFc1 _ h)
  refine lv_lstore (lv' := [(6, .long w9), (5, .int (nI k9)), (0, .ref b), (1, .ref F.1), (2, .ref (A 0)), (3, .ref aO), (4, .int (nI i))]) hx hb dL_law_1236 hl (by decide) rfl (fun ls hl => ?_)
  refine lv_aload_n hx hb dL_law_1238 rfl (lv_at hl 4 rfl) ?_
  obtain ⟨fs9, he9⟩ := midR hmid2
  refine lawCall (As := []) (rest := []) (ci := 7) (rm := { frames := 0, cells := 0, slots := 0, locals := 0 }) (a := nI k9) ⟨hx, hb, hml, hown, hts⟩ (modR (J := [0]) (im_split _ (by decide +kernel)) (k_X8_thrown l dC dI cI cZ cS 40000 (A 0) (mFs A (updG g 1 (nI k9))) (nI k9) rfl (nI k9) rfl) rfl rfl hmid2) (cwV 0 hts gL_law_X8_thrown rfl rfl rfl (by decide +kernel) ⟨by decide, Nat.le_of_ble_eq_true rfl⟩) hP2 hD2 hK hS2 hA rfl he9 rfl hl.1 rfl (Nat.zero_le _) dL_law_1239 ⟨hc1, hs1⟩ (fun W3 H3 locs3 hI3 hP3 hD3 hS3 => ?_)
  refine lv_iload hx hb dL_law_1242 (lv_at hl 1 rfl) ?_
  refine lv_icmp_eq (tgt := 1249) hx hb dL_law_1244 (by decide) (fun _ => ?_) (fun c9 => absurd rfl c9)
  refine lv_iload hx hb dL_law_1249 (lv_at hl 1 rfl) ?_
  refine lv_if_ne (tgt := 1265) hx hb dL_law_1251 (by decide) (fun c9 => ?_) (fun c9 => ?_)
  · refine lv_goto (tgt := 1391) hx hb dL_law_1265 (by decide) ?_
    exact kk fo' bb W3 H3 locs3 _ _ ls hI3 hP3 hD3 hS3 (lv_sub hl [2, 3, 4, 5, 6] rfl) (by unfold bdC at *; show cells + 1 + 0 + 0 ≤ _; omega) (by unfold bdS at *; show slots + 6 + 0 + 0 ≤ _; omega)
  · have hk9 : k9 = 0 := by
      have h3 : k9 = 0 ∨ k9 = 1 ∨ k9 = 2 := by omega
      rcases h3 with h3 | h3 | h3
      · exact h3
      · subst h3; exact absurd c9 (by decide)
      · subst h3; exact absurd c9 (by decide)
    refine lv_aload_n hx hb dL_law_1254 rfl (lv_at hl 5 rfl) ?_
    refine lv_iconst (v := 0) hx hb dL_law_1255 (by decide) ?_
    obtain ⟨q0, hq0⟩ := List.mem_iff_getElem?.mp (midO hI3)
    refine va_lald hx hb hEs.2.2.2.2 hP3 q0 3 hq0 rfl (vp_in_nI (n := 0) (by decide) (by decide)) dL_law_1256 ?_
    refine lv_lload hx hb dL_law_1257 (lv_at hl 0 rfl) ?_
    refine W.lcmp hx hb dL_law_1259 ?_
    have e9 : fo' 0 = w9 := (hfo hk9).trans (hk0 hk9).symm
    refine lv_if_eq (tgt := 1265) hx hb dL_law_1260 (by decide) (fun _ => ?_) (fun c8 => absurd (show lg_cmp (fo' 0) w9 = 0 by rw [e9]; exact lg_cmp_self _) c8)
    refine lv_goto (tgt := 1391) hx hb dL_law_1265 (by decide) ?_
    exact kk fo' bb W3 H3 locs3 _ _ ls hI3 hP3 hD3 hS3 (lv_sub hl [2, 3, 4, 5, 6] rfl) (by unfold bdC at *; show cells + 1 + 0 + 0 ≤ _; omega) (by unfold bdS at *; show slots + 6 + 0 + 0 ≤ _; omega)
end LAWK
