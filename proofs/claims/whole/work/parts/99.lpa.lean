/-! ===== the law, from behind the making of the class's object ===== -/
theorem fs8_ok : ∀ (j : Nat), j < 37 → defaultValue (tyX8 j) = vp_V [.null, .null, .null, .null, .null, .null, .null, .null, .null, .null, .int 0, .int 0, .int 0, .int 0, .int 0, .int 0, .int 0, .null, .null, .null, .null, .int 0, .int 0, .int 0, .int 0, .int 0, .int 0, .int 0, .null, .null, .int 0, .int 0, .int 0, .int 0, .int 0, .int 0, .int 0] j
  | 0, _ => rfl
  | 1, _ => rfl
  | 2, _ => rfl
  | 3, _ => rfl
  | 4, _ => rfl
  | 5, _ => rfl
  | 6, _ => rfl
  | 7, _ => rfl
  | 8, _ => rfl
  | 9, _ => rfl
  | 10, _ => rfl
  | 11, _ => rfl
  | 12, _ => rfl
  | 13, _ => rfl
  | 14, _ => rfl
  | 15, _ => rfl
  | 16, _ => rfl
  | 17, _ => rfl
  | 18, _ => rfl
  | 19, _ => rfl
  | 20, _ => rfl
  | 21, _ => rfl
  | 22, _ => rfl
  | 23, _ => rfl
  | 24, _ => rfl
  | 25, _ => rfl
  | 26, _ => rfl
  | 27, _ => rfl
  | 28, _ => rfl
  | 29, _ => rfl
  | 30, _ => rfl
  | 31, _ => rfl
  | 32, _ => rfl
  | 33, _ => rfl
  | 34, _ => rfl
  | 35, _ => rfl
  | 36, _ => rfl
  | n + 37, h => absurd h (by omega)
section START
variable {p : Program} {l : Launch} {e : Env} {s : State} {m : MethodId} {below : List Frame} {meth : Method} {c : Code} {b L : Nat} {xs : Nat → Int32}
variable {dC : Nat → ClassId} {dI : Nat → Nat → Nat} {cI cZ cS : ClassId} {F : FX} {Sh : Nat → Option Nat}
set_option maxHeartbeats 1000000 in
set_option maxRecDepth 100000 in
theorem start2 {sa1 sa2 sa3 sb1 sb2 : Nat} {H1 : Heap} {locs1 : List Loc} {cells slots : Nat} {ls : Array Slot} (hC : LC p s m c b L xs (dC, dI) cI cZ cS) (hr : meth.sig.returnType = ret) (hlocks : meth.locks = false) (hSh : ∀ k, k < 8 → Sh k = some (F.2.2.2.2.2.1 k)) (hL : L ≤ 3072) (hst : l.stackTraces = false) (hts : ∀ w ∈ lw_tbl, w.before #[Value.ref b] s = true)
    (hEl : ∀ (D : va_G) (cI cZ cS cL : ClassId), va_K D vwCl (tyL cI cZ cS ++ [(cL, .long)]) s → elS D cI cZ cS cL (fun q : Nat => s.heap.size ≤ q) sb1 sb2 s) (hTs : tossS (fun q : Nat => s.heap.size ≤ q) sa1 sa2 sa3 s)
    (hP1 : va_P (dC, dI) vwCl (w7_00 cI cS F Sh) H1) (hD1 : va_D (fun q : Nat => s.heap.size ≤ q) (w7_00 cI cS F Sh)) (hS1 : va_S (fun q : Nat => s.heap.size ≤ q) s.heap H1 locs1) (hl : lv_has ls 8 [(1, .ref F.1), (0, .ref b)]) (hcl : cells ≤ 39) (hsl : slots ≤ 1200) : W p l e room_1 s m #[Value.ref b] below meth c H1 locs1 cells slots (lw_Z below #[Value.ref b] s) (F0 m 8 ls []) := by
  obtain ⟨hx, hb, hml, hown, htw, hX, hbl, hK⟩ := id hC
  have hA : ∀ q : Nat, s.heap.size ≤ q → (fun q : Nat => s.heap.size ≤ q) q := fun _ h => h
  refine W.widen (k := 39) (n := 1200) hcl hsl ?_
  refine va_new (ci := 7) (fs := [.null, .null, .null, .null, .null, .null, .null, .null, .null, .null, .int 0, .int 0, .int 0, .int 0, .int 0, .int 0, .int 0, .null, .null, .null, .null, .int 0, .int 0, .int 0, .int 0, .int 0, .int 0, .int 0, .null, .null, .int 0, .int 0, .int 0, .int 0, .int 0, .int 0, .int 0]) (C := RX8) (T := TX8) (N := 37) hx hb hts inX8 tyX8 tyX8_ok hown (hts (.classLink RL 18 RX8) (by decide +kernel)) (hts (.instantiable RX8 37) (by decide +kernel)) (hts (.initialized RX8) (by decide +kernel)) hK hP1 hD1 hS1 hA rfl fs8_ok (Nat.le_of_ble_eq_true rfl) (Nat.le_of_ble_eq_true rfl) dL_law_8 (fun aM H2 hP2 hD2 hS2 => ?_)
  refine lv_dup hx hb dL_law_11 rfl ?_
  have hPc := hP2.sub (ws' := [(aM, .inr (7, [.null, .null, .null, .null, .null, .null, .null, .null, .null, .null, .int 0, .int 0, .int 0, .int 0, .int 0, .int 0, .int 0, .null, .null, .null, .null, .int 0, .int 0, .int 0, .int 0, .int 0, .int 0, .int 0, .null, .null, .int 0, .int 0, .int 0, .int 0, .int 0, .int 0, .int 0]))]) [39] rfl
  have hDc := hD2.sub (ws' := [(aM, .inr (7, [.null, .null, .null, .null, .null, .null, .null, .null, .null, .null, .int 0, .int 0, .int 0, .int 0, .int 0, .int 0, .int 0, .null, .null, .null, .null, .int 0, .int 0, .int 0, .int 0, .int 0, .int 0, .int 0, .null, .null, .int 0, .int 0, .int 0, .int 0, .int 0, .int 0, .int 0]))]) [39] (by decide) rfl
  have hFc2 := va_free (wc := [(aM, .inr (7, [.null, .null, .null, .null, .null, .null, .null, .null, .null, .null, .int 0, .int 0, .int 0, .int 0, .int 0, .int 0, .int 0, .null, .null, .null, .null, .int 0, .int 0, .int 0, .int 0, .int 0, .int 0, .int 0, .null, .null, .int 0, .int 0, .int 0, .int 0, .int 0, .int 0, .int 0]))]) hD2 hS2 hA [39] rfl
  refine va_callv (va_runI (As := []) (rest := [.ref aM]) ⟨hx, hb, hml, hown, htw⟩ (k_X8_init l dC dI cI cZ cS 40000 aM H2.size 0 0 0 0 0 0 0 0 0 0 0 0 0 0 0 0 0 0 0 0 0 _ rfl) (cwI 0 htw gL_law_X8_init rfl rfl rfl (hts (.initialized RX8) (by decide +kernel)) (hts (.methodLink RL 20 yX8_init) (by decide +kernel)) (hts (.instanceMethod yX8_init) (by decide +kernel)) rfl (by decide +kernel) ⟨Nat.le_of_ble_eq_true rfl, Nat.le_of_ble_eq_true rfl⟩) ⟨preW_blind, fun U hU hW => ⟨rfl, by rw [hU], wd_of hPc hDc hK hU hW⟩⟩ rfl rfl hl.1 rfl (lv_room (Nat.le_of_ble_eq_true rfl)) dL_law_12 ⟨Nat.le_of_ble_eq_true rfl, Nat.le_of_ble_eq_true rfl⟩) hS2 (fun q _ h => hFc2 q h) hFc2 (fun u8 t3 H3 locs3 ht3 hvm3 hw3 hB3 hz3 hk3 hS3 => ?_)
  obtain ⟨hP3, hK3, hD3⟩ := hB3
  rw [ht3] at hP3
  have hP3 : va_P (dC, dI) vwCl (w8_00 cI cZ (fun k => match k with | 0 => aM | 1 => u8.1 | 2 => u8.2.1 | 3 => u8.2.2.1 | 4 => u8.2.2.2.1 | 5 => u8.2.2.2.2.1 | 6 => u8.2.2.2.2.2.1 | 7 => u8.2.2.2.2.2.2.1 | 8 => u8.2.2.2.2.2.2.2.1 | 9 => u8.2.2.2.2.2.2.2.2.1 | 10 => u8.2.2.2.2.2.2.2.2.2.1 | 11 => u8.2.2.2.2.2.2.2.2.2.2.1 | 12 => u8.2.2.2.2.2.2.2.2.2.2.2.1 | 13 => u8.2.2.2.2.2.2.2.2.2.2.2.2.1 | 14 => u8.2.2.2.2.2.2.2.2.2.2.2.2.2.1 | 15 => u8.2.2.2.2.2.2.2.2.2.2.2.2.2.2.1 | _ => u8.2.2.2.2.2.2.2.2.2.2.2.2.2.2.2)) H3 := hP3
  have hD3 : va_D (va_A [(aM, .inr (7, [.null, .null, .null, .null, .null, .null, .null, .null, .null, .null, .int 0, .int 0, .int 0, .int 0, .int 0, .int 0, .int 0, .null, .null, .null, .null, .int 0, .int 0, .int 0, .int 0, .int 0, .int 0, .int 0, .null, .null, .int 0, .int 0, .int 0, .int 0, .int 0, .int 0, .int 0]))] H2.size) (w8_00 cI cZ (fun k => match k with | 0 => aM | 1 => u8.1 | 2 => u8.2.1 | 3 => u8.2.2.1 | 4 => u8.2.2.2.1 | 5 => u8.2.2.2.2.1 | 6 => u8.2.2.2.2.2.1 | 7 => u8.2.2.2.2.2.2.1 | 8 => u8.2.2.2.2.2.2.2.1 | 9 => u8.2.2.2.2.2.2.2.2.1 | 10 => u8.2.2.2.2.2.2.2.2.2.1 | 11 => u8.2.2.2.2.2.2.2.2.2.2.1 | 12 => u8.2.2.2.2.2.2.2.2.2.2.2.1 | 13 => u8.2.2.2.2.2.2.2.2.2.2.2.2.1 | 14 => u8.2.2.2.2.2.2.2.2.2.2.2.2.2.1 | 15 => u8.2.2.2.2.2.2.2.2.2.2.2.2.2.2.1 | _ => u8.2.2.2.2.2.2.2.2.2.2.2.2.2.2.2)) := hD3
  obtain ⟨hP4, hD4⟩ := va_join (wr := (w7_00 cI cS F Sh)) (w1 := w8_00 cI cZ (fun k => match k with | 0 => aM | 1 => u8.1 | 2 => u8.2.1 | 3 => u8.2.2.1 | 4 => u8.2.2.2.1 | 5 => u8.2.2.2.2.1 | 6 => u8.2.2.2.2.2.1 | 7 => u8.2.2.2.2.2.2.1 | 8 => u8.2.2.2.2.2.2.2.1 | 9 => u8.2.2.2.2.2.2.2.2.1 | 10 => u8.2.2.2.2.2.2.2.2.2.1 | 11 => u8.2.2.2.2.2.2.2.2.2.2.1 | 12 => u8.2.2.2.2.2.2.2.2.2.2.2.1 | 13 => u8.2.2.2.2.2.2.2.2.2.2.2.2.1 | 14 => u8.2.2.2.2.2.2.2.2.2.2.2.2.2.1 | 15 => u8.2.2.2.2.2.2.2.2.2.2.2.2.2.2.1 | _ => u8.2.2.2.2.2.2.2.2.2.2.2.2.2.2.2)) hP2 hD2 [39] [0, 1, 2, 3, 4, 5, 6, 7, 8, 9, 10, 11, 12, 13, 14, 15, 16, 17, 18, 19, 20, 21, 22, 23, 24, 25, 26, 27, 28, 29, 30, 31, 32, 33, 34, 35, 36, 37, 38] rfl rfl (by decide) (by decide) hk3 hFc2 hP3 hD3
  refine lv_astore_n (lv' := [(2, .ref aM), (1, .ref F.1), (0, .ref b)]) hx hb dL_law_15 rfl hl (by decide) rfl (fun ls hl => ?_)
  exact start3 (F := F) (Sh := Sh) (A := (fun k => match k with | 0 => aM | 1 => u8.1 | 2 => u8.2.1 | 3 => u8.2.2.1 | 4 => u8.2.2.2.1 | 5 => u8.2.2.2.2.1 | 6 => u8.2.2.2.2.2.1 | 7 => u8.2.2.2.2.2.2.1 | 8 => u8.2.2.2.2.2.2.2.1 | 9 => u8.2.2.2.2.2.2.2.2.1 | 10 => u8.2.2.2.2.2.2.2.2.2.1 | 11 => u8.2.2.2.2.2.2.2.2.2.2.1 | 12 => u8.2.2.2.2.2.2.2.2.2.2.2.1 | 13 => u8.2.2.2.2.2.2.2.2.2.2.2.2.1 | 14 => u8.2.2.2.2.2.2.2.2.2.2.2.2.2.1 | 15 => u8.2.2.2.2.2.2.2.2.2.2.2.2.2.2.1 | _ => u8.2.2.2.2.2.2.2.2.2.2.2.2.2.2.2)) hC hr hlocks hSh hL hst hts hEl hTs hP4 hD4 hS3 hl (Nat.le_of_ble_eq_true rfl) (Nat.le_of_ble_eq_true rfl)
end START
