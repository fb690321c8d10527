/-! ===== from the making of the law's own array ===== -/
set_option maxHeartbeats 100000 in
theorem in_aL : Cond.arrayClass FieldType.long ∈ lw_tbl := by decide +kernel
set_option maxHeartbeats 100000 in
theorem ca_L (cA : ClassId) : vp_cell cA (1, .inr (.inl (fun _ => 0))) = arrV cA 1 (fun _ => defaultValue FieldType.long) := rfl
set_option maxHeartbeats 100000 in
theorem nn_1 : (1 : Int32).toNatClampNeg = 1 := by decide
set_option maxHeartbeats 100000 in
theorem by_L : 1 * componentBytes FieldType.long ≤ 536870912 := by decide
set_option maxHeartbeats 100000 in
theorem c60 {n : Nat} (h : n ≤ 60) : n + 1 ≤ room_1.cells := Nat.le_trans (Nat.add_le_add_right h 1) (show 60 + 1 ≤ room_1.cells from Nat.le_of_ble_eq_true rfl)
set_option maxHeartbeats 100000 in
theorem s60 {n : Nat} (h : n ≤ 60000) : n + 1 ≤ room_1.slots := Nat.le_trans (Nat.add_le_add_right h 1) (show 60000 + 1 ≤ room_1.slots from Nat.le_of_ble_eq_true rfl)
section START
variable {p : Program} {l : Launch} {e : Env} {s : State} {m : MethodId} {below : List Frame} {meth : Method} {c : Code} {b L : Nat} {xs : Nat → Int32}
variable {dC : Nat → ClassId} {dI : Nat → Nat → Nat} {cI cZ cS : ClassId} {F : FX} {Sh : Nat → Option Nat}
set_option maxHeartbeats 400000 in
theorem start3 {A : Nat → Nat} {sa1 sa2 sa3 sb1 sb2 : Nat} {H3 : Heap} {locs3 : List Loc} {cells slots : Nat} {ls : Array Slot} (hC : LC p s m c b L xs (dC, dI) cI cZ cS) (hr : meth.sig.returnType = ret) (hlocks : meth.locks = false) (hSh : ∀ k, k < 8 → Sh k = some (F.2.2.2.2.2.1 k)) (hL : L ≤ 3072) (hst : l.stackTraces = false) (hts : ∀ w ∈ lw_tbl, w.before #[Value.ref b] s = true)
    (hEl : ∀ (D : va_G) (cI cZ cS cL : ClassId), va_K D vwCl (tyL cI cZ cS ++ [(cL, .long)]) s → elS D cI cZ cS cL (fun q : Nat => s.heap.size ≤ q) sb1 sb2 s) (hTs : tossS (fun q : Nat => s.heap.size ≤ q) sa1 sa2 sa3 s)
    (hP4 : va_P (dC, dI) vwCl (w7_00 cI cS F Sh ++ w8_00 cI cZ A) H3) (hD4 : va_D (fun q : Nat => s.heap.size ≤ q) (w7_00 cI cS F Sh ++ w8_00 cI cZ A)) (hS3 : va_S (fun q : Nat => s.heap.size ≤ q) s.heap H3 locs3) (hl : lv_has ls 8 [(2, .ref (A 0)), (1, .ref F.1), (0, .ref b)]) (hcl : cells ≤ 60) (hsl : slots ≤ 60000) : W p l e room_1 s m #[Value.ref b] below meth c H3 locs3 cells slots (lw_Z below #[Value.ref b] s) (F0 m 16 ls []) := by
  obtain ⟨hx, hb, hml, hown, htw, hX, hbl, hK⟩ := id hC
  have hA : ∀ q : Nat, s.heap.size ≤ q → (fun q : Nat => s.heap.size ≤ q) q := fun _ h => h
  refine lv_iconst (v := 1) hx hb dL_law_16 (by decide) ?_
  refine va_newa (atype := .long) (ty := .long) (N' := 1) (a0 := (1, .inr (.inl (fun _ => 0)))) hx hb (hts (.arrayClass .long) in_aL) rfl hK hP4 hD4 hS3 hA ca_L (by decide) nn_1 by_L (c60 hcl) (s60 hsl) dL_law_17 (fun aO cL H5 hKL hP5 hD5 hS5 => ?_)
  refine lv_astore_n (lv' := [(3, .ref aO), (2, .ref (A 0)), (1, .ref F.1), (0, .ref b)]) hx hb dL_law_19 rfl hl (by decide) rfl (fun ls hl => ?_)
  refine lv_iconst (v := 0) hx hb dL_law_20 (by decide) ?_
  refine lv_istore (lv' := [(4, .int 0), (3, .ref aO), (2, .ref (A 0)), (1, .ref F.1), (0, .ref b)]) hx hb dL_law_21 hl (by decide) rfl (fun ls hl => ?_)
  exact law_go (F := F) (Sh := Sh) (A := A) (aO := aO) (cL := cL) hC hr hlocks hSh hL hst (hEl _ _ _ _ _ hKL) hTs hP5 hD5 hS5 hl (by omega) (by omega)
end START
