/-! ===== calls, in the whole world ===== -/
section CASES
variable {l : Launch} {dC : Nat → ClassId} {dI : Nat → Nat → Nat} {cI cZ cS : ClassId} {F : FX} {Sh : Nat → Option Nat} {A : Nat → Nat} {R0 : va_W}
theorem case_width {x1 x2 : Int32} : CASE l (dC, dI) cI cZ cS F Sh A R0 yX7_width yX8_width wsX7_width wsX8_width [.int x1, .int x2] := by
  rintro b WX ⟨ik, nw, kp, md, T, Y, wy, g, f, G, hu, hR, hb⟩
  have hR0 := hR
  obtain ⟨⟨E, O⟩, hk, hT, hw⟩ := hR
  obtain ⟨a, e1, e2⟩ := r_width (N := 40000) E O (x1 := x1) (x2 := x2)
  refine ⟨a, _, b, _, _, ?_, ?_, clsR (g' := g) (f' := f) (J := [0, 2]) (ic_split _ (by decide +kernel)) (k_X7_width l dC dI cI cZ cS 40000 F.1 (F.2.2.1 0) (F.2.2.1 1) (F.2.2.1 2) (F.2.2.1 3) (F.2.2.1 4) (F.2.2.1 5) (F.2.2.1 6) (F.2.2.2.1 0) (F.2.2.2.2.1 0) F.2.1 ik (wRef wy) nw.1 nw.2.1 nw.2.2.1 nw.2.2.2.1 nw.2.2.2.2.1 nw.2.2.2.2.2.1 nw.2.2.2.2.2.2.1 nw.2.2.2.2.2.2.2.1 nw.2.2.2.2.2.2.2.2 x1 x2 _ e1) rfl rfl hu hR0 hb, fun u hm => ⟨midR hm, modR (J := [0, 1]) (im_split _ (by decide +kernel)) (k_X8_width l dC dI cI cZ cS 40000 (A 0) (A 1) (mFs A g) (f 1) x1 x2 rfl _ e2) rfl rfl hm⟩⟩
  · exact ⟨Nat.le_of_ble_eq_true rfl, Nat.le_of_ble_eq_true rfl, by cases b <;> exact Nat.le_of_ble_eq_true rfl, by cases b <;> exact Nat.le_of_ble_eq_true rfl⟩
  · exact ⟨Nat.le_of_ble_eq_true rfl, Nat.le_of_ble_eq_true rfl, rfl, rfl⟩
theorem case_rowOf {x1 x2 : Int32} : CASE l (dC, dI) cI cZ cS F Sh A R0 yX7_rowOf yX8_rowOf wsX7_rowOf wsX8_rowOf [.int x1, .int x2] := by
  rintro b WX ⟨ik, nw, kp, md, T, Y, wy, g, f, G, hu, hR, hb⟩
  have hR0 := hR
  obtain ⟨⟨E, O⟩, hk, hT, hw⟩ := hR
  obtain ⟨a, e1, e2⟩ := r_rowOf (N := 40000) (by decide) E O (x1 := x1) (x2 := x2)
  refine ⟨a, _, b, _, _, ?_, ?_, clsR (g' := g) (f' := f) (J := [0, 2]) (ic_split _ (by decide +kernel)) (k_X7_rowOf l dC dI cI cZ cS 40000 F.1 (F.2.2.1 0) (F.2.2.1 1) (F.2.2.1 2) (F.2.2.1 3) (F.2.2.1 4) (F.2.2.1 5) (F.2.2.1 6) (F.2.2.2.1 0) (F.2.2.2.2.1 0) F.2.1 ik (wRef wy) nw.1 nw.2.1 nw.2.2.1 nw.2.2.2.1 nw.2.2.2.2.1 nw.2.2.2.2.2.1 nw.2.2.2.2.2.2.1 nw.2.2.2.2.2.2.2.1 nw.2.2.2.2.2.2.2.2 x1 x2 _ e1) rfl rfl hu hR0 hb, fun u hm => ⟨midR hm, modR (J := [0, 1]) (im_split _ (by decide +kernel)) (k_X8_rowOf l dC dI cI cZ cS 40000 (A 0) (A 1) (mFs A g) (f 1) x1 x2 rfl _ e2) rfl rfl hm⟩⟩
  · exact ⟨Nat.le_of_ble_eq_true rfl, Nat.le_of_ble_eq_true rfl, by cases b <;> exact Nat.le_of_ble_eq_true rfl, by cases b <;> exact Nat.le_of_ble_eq_true rfl⟩
  · exact ⟨Nat.le_of_ble_eq_true rfl, Nat.le_of_ble_eq_true rfl, rfl, rfl⟩
theorem case_slate {x1 x2 : Int32} : CASE l (dC, dI) cI cZ cS F Sh A R0 yX7_slate yX8_slate wsX7_slate wsX8_slate [.int x1, .int x2] := by
  rintro b WX ⟨ik, nw, kp, md, T, Y, wy, g, f, G, hu, hR, hb⟩
  have hR0 := hR
  obtain ⟨⟨E, O⟩, hk, hT, hw⟩ := hR
  obtain ⟨a, e1, e2⟩ := r_slate (N := 40000) E O (x1 := x1) (x2 := x2)
  refine ⟨a, _, b, _, _, ?_, ?_, clsR (g' := g) (f' := f) (J := [0, 2]) (ic_split _ (by decide +kernel)) (k_X7_slate l dC dI cI cZ cS 40000 F.1 (F.2.2.1 0) (F.2.2.1 1) (F.2.2.1 2) (F.2.2.1 3) (F.2.2.1 4) (F.2.2.1 5) (F.2.2.1 6) (F.2.2.2.1 0) (F.2.2.2.2.1 0) F.2.1 ik (wRef wy) nw.1 nw.2.1 nw.2.2.1 nw.2.2.2.1 nw.2.2.2.2.1 nw.2.2.2.2.2.1 nw.2.2.2.2.2.2.1 nw.2.2.2.2.2.2.2.1 nw.2.2.2.2.2.2.2.2 x1 x2 _ e1) rfl rfl hu hR0 hb, fun u hm => ⟨midR hm, modR (J := [0, 1]) (im_split _ (by decide +kernel)) (k_X8_slate l dC dI cI cZ cS 40000 (A 0) (A 1) (mFs A g) (f 1) x1 x2 rfl _ e2) rfl rfl hm⟩⟩
  · exact ⟨Nat.le_of_ble_eq_true rfl, Nat.le_of_ble_eq_true rfl, by cases b <;> exact Nat.le_of_ble_eq_true rfl, by cases b <;> exact Nat.le_of_ble_eq_true rfl⟩
  · exact ⟨Nat.le_of_ble_eq_true rfl, Nat.le_of_ble_eq_true rfl, rfl, rfl⟩
theorem case_joint {x1 x2 : Int32} : CASE l (dC, dI) cI cZ cS F Sh A R0 yX7_joint yX8_joint wsX7_joint wsX8_joint [.int x1, .int x2] := by
  rintro b WX ⟨ik, nw, kp, md, T, Y, wy, g, f, G, hu, hR, hb⟩
  have hR0 := hR
  obtain ⟨⟨E, O⟩, hk, hT, hw⟩ := hR
  obtain ⟨a, e1, e2⟩ := r_joint (N := 40000) (by decide) E O (x1 := x1) (x2 := x2)
  refine ⟨a, _, b, _, _, ?_, ?_, clsR (g' := g) (f' := f) (J := [0, 2]) (ic_split _ (by decide +kernel)) (k_X7_joint l dC dI cI cZ cS 40000 F.1 (F.2.2.1 0) (F.2.2.1 1) (F.2.2.1 2) (F.2.2.1 3) (F.2.2.1 4) (F.2.2.1 5) (F.2.2.1 6) (F.2.2.2.1 0) (F.2.2.2.2.1 0) F.2.1 ik (wRef wy) nw.1 nw.2.1 nw.2.2.1 nw.2.2.2.1 nw.2.2.2.2.1 nw.2.2.2.2.2.1 nw.2.2.2.2.2.2.1 nw.2.2.2.2.2.2.2.1 nw.2.2.2.2.2.2.2.2 x1 x2 _ e1) rfl rfl hu hR0 hb, fun u hm => ⟨midR hm, modR (J := [0, 1]) (im_split _ (by decide +kernel)) (k_X8_joint l dC dI cI cZ cS 40000 (A 0) (A 1) (mFs A g) (f 1) x1 x2 rfl _ e2) rfl rfl hm⟩⟩
  · exact ⟨Nat.le_of_ble_eq_true rfl, Nat.le_of_ble_eq_true rfl, by cases b <;> exact Nat.le_of_ble_eq_true rfl, by cases b <;> exact Nat.le_of_ble_eq_true rfl⟩
  · exact ⟨Nat.le_of_ble_eq_true rfl, Nat.le_of_ble_eq_true rfl, rfl, rfl⟩
theorem case_may {x1 x2 : Int32} : CASE l (dC, dI) cI cZ cS F Sh A R0 yX7_may yX8_may wsX7_may wsX8_may [.int x1, .int x2] := by
  rintro b WX ⟨ik, nw, kp, md, T, Y, wy, g, f, G, hu, hR, hb⟩
  have hR0 := hR
  obtain ⟨⟨E, O⟩, hk, hT, hw⟩ := hR
  obtain ⟨a, e1, e2⟩ := r_may (N := 40000) (by decide) E O (x1 := x1) (x2 := x2)
  refine ⟨a, _, b, _, _, ?_, ?_, clsR (g' := g) (f' := f) (J := [0, 2]) (ic_split _ (by decide +kernel)) (k_X7_may l dC dI cI cZ cS 40000 F.1 (F.2.2.1 0) (F.2.2.1 1) (F.2.2.1 2) (F.2.2.1 3) (F.2.2.1 4) (F.2.2.1 5) (F.2.2.1 6) (F.2.2.2.1 0) (F.2.2.2.2.1 0) F.2.1 ik (wRef wy) nw.1 nw.2.1 nw.2.2.1 nw.2.2.2.1 nw.2.2.2.2.1 nw.2.2.2.2.2.1 nw.2.2.2.2.2.2.1 nw.2.2.2.2.2.2.2.1 nw.2.2.2.2.2.2.2.2 x1 x2 _ e1) rfl rfl hu hR0 hb, fun u hm => ⟨midR hm, modR (J := [0, 1]) (im_split _ (by decide +kernel)) (k_X8_may l dC dI cI cZ cS 40000 (A 0) (A 1) (mFs A g) (f 1) x1 x2 rfl _ e2) rfl rfl hm⟩⟩
  · exact ⟨Nat.le_of_ble_eq_true rfl, Nat.le_of_ble_eq_true rfl, by cases b <;> exact Nat.le_of_ble_eq_true rfl, by cases b <;> exact Nat.le_of_ble_eq_true rfl⟩
  · exact ⟨Nat.le_of_ble_eq_true rfl, Nat.le_of_ble_eq_true rfl, rfl, rfl⟩
theorem case_gaps {x1 : Int32} : CASE l (dC, dI) cI cZ cS F Sh A R0 yX7_gaps yX8_gaps wsX7_gaps wsX8_gaps [.int x1] := by
  rintro b WX ⟨ik, nw, kp, md, T, Y, wy, g, f, G, hu, hR, hb⟩
  have hR0 := hR
  obtain ⟨⟨E, O⟩, hk, hT, hw⟩ := hR
  obtain ⟨a, e1, e2⟩ := r_gaps (N := 40000) (by decide) E O (x1 := x1)
  refine ⟨a, _, b, _, _, ?_, ?_, clsR (g' := g) (f' := f) (J := [0, 2]) (ic_split _ (by decide +kernel)) (k_X7_gaps l dC dI cI cZ cS 40000 F.1 (F.2.2.1 0) (F.2.2.1 1) (F.2.2.1 2) (F.2.2.1 3) (F.2.2.1 4) (F.2.2.1 5) (F.2.2.1 6) (F.2.2.2.1 0) (F.2.2.2.2.1 0) F.2.1 ik (wRef wy) nw.1 nw.2.1 nw.2.2.1 nw.2.2.2.1 nw.2.2.2.2.1 nw.2.2.2.2.2.1 nw.2.2.2.2.2.2.1 nw.2.2.2.2.2.2.2.1 nw.2.2.2.2.2.2.2.2 x1 _ e1) rfl rfl hu hR0 hb, fun u hm => ⟨midR hm, modR (J := [0, 1]) (im_split _ (by decide +kernel)) (k_X8_gaps l dC dI cI cZ cS 40000 (A 0) (A 1) (mFs A g) (f 1) x1 rfl _ e2) rfl rfl hm⟩⟩
  · exact ⟨Nat.le_of_ble_eq_true rfl, Nat.le_of_ble_eq_true rfl, by cases b <;> exact Nat.le_of_ble_eq_true rfl, by cases b <;> exact Nat.le_of_ble_eq_true rfl⟩
  · exact ⟨Nat.le_of_ble_eq_true rfl, Nat.le_of_ble_eq_true rfl, rfl, rfl⟩
theorem case_count {x1 : Int32} : CASE l (dC, dI) cI cZ cS F Sh A R0 yX7_count yX8_count wsX7_count wsX8_count [.int x1] := by
  rintro b WX ⟨ik, nw, kp, md, T, Y, wy, g, f, G, hu, hR, hb⟩
  have hR0 := hR
  obtain ⟨⟨E, O⟩, hk, hT, hw⟩ := hR
  obtain ⟨a, e1, e2⟩ := r_count (N := 40000) (by decide) E O (x1 := x1)
  refine ⟨a, _, b, _, _, ?_, ?_, clsR (g' := g) (f' := f) (J := [0, 2]) (ic_split _ (by decide +kernel)) (k_X7_count l dC dI cI cZ cS 40000 F.1 (F.2.2.1 0) (F.2.2.1 1) (F.2.2.1 2) (F.2.2.1 3) (F.2.2.1 4) (F.2.2.1 5) (F.2.2.1 6) (F.2.2.2.1 0) (F.2.2.2.2.1 0) F.2.1 ik (wRef wy) nw.1 nw.2.1 nw.2.2.1 nw.2.2.2.1 nw.2.2.2.2.1 nw.2.2.2.2.2.1 nw.2.2.2.2.2.2.1 nw.2.2.2.2.2.2.2.1 nw.2.2.2.2.2.2.2.2 x1 _ e1) rfl rfl hu hR0 hb, fun u hm => ⟨midR hm, modR (J := [0, 1]) (im_split _ (by decide +kernel)) (k_X8_count l dC dI cI cZ cS 40000 (A 0) (A 1) (mFs A g) (f 1) x1 rfl _ e2) rfl rfl hm⟩⟩
  · exact ⟨Nat.le_of_ble_eq_true rfl, Nat.le_of_ble_eq_true rfl, by cases b <;> exact Nat.le_of_ble_eq_true rfl, by cases b <;> exact Nat.le_of_ble_eq_true rfl⟩
  · exact ⟨Nat.le_of_ble_eq_true rfl, Nat.le_of_ble_eq_true rfl, rfl, rfl⟩
theorem case_heap {x1 x2 : Int32} : CASE l (dC, dI) cI cZ cS F Sh A R0 yX7_heap yX8_heap wsX7_heap wsX8_heap [.int x1, .int x2] := by
  rintro b WX ⟨ik, nw, kp, md, T, Y, wy, g, f, G, hu, hR, hb⟩
  have hR0 := hR
  obtain ⟨⟨E, O⟩, hk, hT, hw⟩ := hR
  obtain ⟨a, m', s', e1, e2, E', O'⟩ := r_heap (N := 40000) E O (x1 := x1) (x2 := x2)
  refine ⟨a, _, b, _, _, ?_, ?_, clsW (g' := g) (f' := (updF f 1 ((a, s').2))) (b' := b) (J := [0, 2]) (ic_split _ (by decide +kernel)) (fun sz => k_X7_heap l dC dI cI cZ cS 40000 F.1 (F.2.2.1 0) (F.2.2.1 1) (F.2.2.1 2) (F.2.2.1 3) (F.2.2.1 4) (F.2.2.1 5) (F.2.2.1 6) (F.2.2.2.1 0) (F.2.2.2.2.1 0) F.2.1 sz ik (wRef wy) nw.1 nw.2.1 nw.2.2.1 nw.2.2.2.1 nw.2.2.2.2.1 nw.2.2.2.2.2.1 nw.2.2.2.2.2.2.1 nw.2.2.2.2.2.2.2.1 nw.2.2.2.2.2.2.2.2 x1 x2 _ e1) hu (fun r v hv => ⟨hv, ik, (nw.1, (a, m').2, nw.2.2.1, nw.2.2.2.1, nw.2.2.2.2.1, nw.2.2.2.2.2.1, nw.2.2.2.2.2.2.1, nw.2.2.2.2.2.2.2.1, nw.2.2.2.2.2.2.2.2), kp, md, T, Y, wy, rfl, rfl, ⟨⟨E', O'⟩, hk, hT, hw⟩, hb⟩), fun u hm => ⟨midR hm, modW (J := [0, 1]) (g' := g) (f' := (updF f 1 ((a, s').2))) (im_split _ (by decide +kernel)) (fun sz => k_X8_heap l dC dI cI cZ cS 40000 (A 0) (A 1) (mFs A g) sz (f 1) x1 x2 rfl (a, s') e2) rfl hm⟩⟩
  · exact ⟨Nat.le_of_ble_eq_true rfl, Nat.le_of_ble_eq_true rfl, by cases b <;> exact Nat.le_of_ble_eq_true rfl, by cases b <;> exact Nat.le_of_ble_eq_true rfl⟩
  · exact ⟨Nat.le_of_ble_eq_true rfl, Nat.le_of_ble_eq_true rfl, rfl, rfl⟩
theorem case_lap {x1 : Int32} : CASE l (dC, dI) cI cZ cS F Sh A R0 yX7_lap yX8_lap wsX7_lap wsX8_lap [.int x1] := by
  rintro b WX ⟨ik, nw, kp, md, T, Y, wy, g, f, G, hu, hR, hb⟩
  have hR0 := hR
  obtain ⟨⟨E, O⟩, hk, hT, hw⟩ := hR
  obtain ⟨a, z', s', e1, e2, E', O'⟩ := r_lap (N := 40000) E O (x1 := x1)
  refine ⟨a, _, b, _, _, ?_, ?_, clsW (g' := g) (f' := (updF f 1 ((a, s').2))) (b' := b) (J := [0, 2]) (ic_split _ (by decide +kernel)) (fun sz => k_X7_lap l dC dI cI cZ cS 40000 F.1 (F.2.2.1 0) (F.2.2.1 1) (F.2.2.1 2) (F.2.2.1 3) (F.2.2.1 4) (F.2.2.1 5) (F.2.2.1 6) (F.2.2.2.1 0) (F.2.2.2.2.1 0) F.2.1 sz ik (wRef wy) nw.1 nw.2.1 nw.2.2.1 nw.2.2.2.1 nw.2.2.2.2.1 nw.2.2.2.2.2.1 nw.2.2.2.2.2.2.1 nw.2.2.2.2.2.2.2.1 nw.2.2.2.2.2.2.2.2 x1 _ e1) hu (fun r v hv => ⟨hv, ik, (nw.1, nw.2.1, nw.2.2.1, nw.2.2.2.1, nw.2.2.2.2.1, nw.2.2.2.2.2.1, nw.2.2.2.2.2.2.1, nw.2.2.2.2.2.2.2.1, (a, z').2), kp, md, T, Y, wy, rfl, rfl, ⟨⟨E', O'⟩, hk, hT, hw⟩, hb⟩), fun u hm => ⟨midR hm, modW (J := [0, 1]) (g' := g) (f' := (updF f 1 ((a, s').2))) (im_split _ (by decide +kernel)) (fun sz => k_X8_lap l dC dI cI cZ cS 40000 (A 0) (A 1) (mFs A g) sz (f 1) x1 rfl (a, s') e2) rfl hm⟩⟩
  · exact ⟨Nat.le_of_ble_eq_true rfl, Nat.le_of_ble_eq_true rfl, by cases b <;> exact Nat.le_of_ble_eq_true rfl, by cases b <;> exact Nat.le_of_ble_eq_true rfl⟩
  · exact ⟨Nat.le_of_ble_eq_true rfl, Nat.le_of_ble_eq_true rfl, rfl, rfl⟩
theorem case_takeUp {x1 : Int32} : CASE l (dC, dI) cI cZ cS F Sh A R0 yX7_takeUp yX8_takeUp wsX7_takeUp wsX8_takeUp [.int x1] := by
  rintro b WX ⟨ik, nw, kp, md, T, Y, wy, g, f, G, hu, hR, hb⟩
  have hR0 := hR
  obtain ⟨⟨E, O⟩, hk, hT, hw⟩ := hR
  obtain ⟨a, m', d', s', e1, e2, E', O'⟩ := r_takeUp (N := 40000) (by decide) E O (x1 := x1)
  refine ⟨a, _, b, _, _, ?_, ?_, clsW (g' := g) (f' := (updF f 1 ((a, s').2))) (b' := b) (J := [0, 2]) (ic_split _ (by decide +kernel)) (fun sz => k_X7_takeUp l dC dI cI cZ cS 40000 F.1 (F.2.2.1 0) (F.2.2.1 1) (F.2.2.1 2) (F.2.2.1 3) (F.2.2.1 4) (F.2.2.1 5) (F.2.2.1 6) (F.2.2.2.1 0) (F.2.2.2.2.1 0) F.2.1 sz ik (wRef wy) nw.1 nw.2.1 nw.2.2.1 nw.2.2.2.1 nw.2.2.2.2.1 nw.2.2.2.2.2.1 nw.2.2.2.2.2.2.1 nw.2.2.2.2.2.2.2.1 nw.2.2.2.2.2.2.2.2 x1 _ e1) hu (fun r v hv => ⟨hv, ik, (nw.1, (a, m', d').2.1, nw.2.2.1, nw.2.2.2.1, (a, m', d').2.2, nw.2.2.2.2.2.1, nw.2.2.2.2.2.2.1, nw.2.2.2.2.2.2.2.1, nw.2.2.2.2.2.2.2.2), kp, md, T, Y, wy, rfl, rfl, ⟨⟨E', O'⟩, hk, hT, hw⟩, hb⟩), fun u hm => ⟨midR hm, modW (J := [0, 1]) (g' := g) (f' := (updF f 1 ((a, s').2))) (im_split _ (by decide +kernel)) (fun sz => k_X8_takeUp l dC dI cI cZ cS 40000 (A 0) (A 1) (mFs A g) sz (f 1) x1 rfl (a, s') e2) rfl hm⟩⟩
  · exact ⟨Nat.le_of_ble_eq_true rfl, Nat.le_of_ble_eq_true rfl, by cases b <;> exact Nat.le_of_ble_eq_true rfl, by cases b <;> exact Nat.le_of_ble_eq_true rfl⟩
  · exact ⟨Nat.le_of_ble_eq_true rfl, Nat.le_of_ble_eq_true rfl, rfl, rfl⟩
theorem case_image : CASE l (dC, dI) cI cZ cS F Sh A R0 yX7_image yX8_image wsX7_image wsX8_image [] := by
  rintro b WX ⟨ik, nw, kp, md, T, Y, wy, g, f, G, hu, hR, hb⟩
  have hR0 := hR
  obtain ⟨⟨E, O⟩, hk, hT, hw⟩ := hR
  obtain ⟨a, i', m', w', l', d', t', x', y', z', im', e1, e2, E', O'⟩ := r_image (N := 40000) (by decide) E O (ik := ik) (i0 := kp.1) (m0 := kp.2.1) (w0 := kp.2.2.1) (l0 := kp.2.2.2.1) (d0 := kp.2.2.2.2.1) (t0 := kp.2.2.2.2.2.1) (x0 := kp.2.2.2.2.2.2.1) (y0 := kp.2.2.2.2.2.2.2.1) (z0 := kp.2.2.2.2.2.2.2.2) (img := (f 2)) (hi := (g 0))
  refine ⟨a, _, b, _, _, ?_, ?_, clsW (g' := (updG g 0 ((a, im', (1 : Int32)).2.2))) (f' := (updF f 2 ((a, im', (1 : Int32)).2.1))) (b' := b) (J := [0, 2, 3]) (ic_split _ (by decide +kernel)) (fun sz => k_X7_image l dC dI cI cZ cS 40000 F.1 (F.2.2.1 0) (F.2.2.1 1) (F.2.2.1 2) (F.2.2.1 3) (F.2.2.1 4) (F.2.2.1 5) (F.2.2.1 6) (F.2.2.2.1 0) (F.2.2.2.1 1) (F.2.2.2.1 2) (F.2.2.2.1 3) (F.2.2.2.1 4) (F.2.2.2.1 5) (F.2.2.2.1 6) (F.2.2.2.2.1 0) F.2.1 sz ik (wRef wy) nw.1 nw.2.1 nw.2.2.1 nw.2.2.2.1 nw.2.2.2.2.1 nw.2.2.2.2.2.1 nw.2.2.2.2.2.2.1 nw.2.2.2.2.2.2.2.1 nw.2.2.2.2.2.2.2.2 kp.1 kp.2.1 kp.2.2.1 kp.2.2.2.1 kp.2.2.2.2.1 kp.2.2.2.2.2.1 kp.2.2.2.2.2.2.1 kp.2.2.2.2.2.2.2.1 kp.2.2.2.2.2.2.2.2 _ e1) hu (fun r v hv => ⟨hv, ((a, (1 : Int32), i', m', w', l', d', t', x', y', z').2.1), nw, ((a, (1 : Int32), i', m', w', l', d', t', x', y', z').2.2.1, (a, (1 : Int32), i', m', w', l', d', t', x', y', z').2.2.2.1, (a, (1 : Int32), i', m', w', l', d', t', x', y', z').2.2.2.2.1, (a, (1 : Int32), i', m', w', l', d', t', x', y', z').2.2.2.2.2.1, (a, (1 : Int32), i', m', w', l', d', t', x', y', z').2.2.2.2.2.2.1, (a, (1 : Int32), i', m', w', l', d', t', x', y', z').2.2.2.2.2.2.2.1, (a, (1 : Int32), i', m', w', l', d', t', x', y', z').2.2.2.2.2.2.2.2.1, (a, (1 : Int32), i', m', w', l', d', t', x', y', z').2.2.2.2.2.2.2.2.2.1, (a, (1 : Int32), i', m', w', l', d', t', x', y', z').2.2.2.2.2.2.2.2.2.2), md, T, Y, wy, rfl, rfl, ⟨⟨E, O⟩, Or.inr ⟨rfl, rfl, E', O'⟩, hT, hw⟩, hb⟩), fun u hm => ⟨midR hm, modW (J := [0, 1, 2]) (g' := (updG g 0 ((a, im', (1 : Int32)).2.2))) (f' := (updF f 2 ((a, im', (1 : Int32)).2.1))) (im_split _ (by decide +kernel)) (fun sz => k_X8_image l dC dI cI cZ cS 40000 (A 0) (A 1) (A 2) (A 3) (A 4) (A 5) (A 6) (A 7) (A 8) (A 9) (A 10) (A 11) (A 12) (A 13) (A 14) (A 15) (A 16) sz (f 1) (f 2) (g 0) (g 1) (g 2) (g 3) (g 4) (g 5) (g 6) (g 7) (g 8) (g 9) (g 10) (g 11) (g 12) (g 13) (g 14) (g 15) (g 16) (g 17) (g 18) (g 19) (g 20) (a, im', (1 : Int32)) e2) rfl hm⟩⟩
  · exact ⟨Nat.le_of_ble_eq_true rfl, Nat.le_of_ble_eq_true rfl, by cases b <;> exact Nat.le_of_ble_eq_true rfl, by cases b <;> exact Nat.le_of_ble_eq_true rfl⟩
  · exact ⟨Nat.le_of_ble_eq_true rfl, Nat.le_of_ble_eq_true rfl, rfl, rfl⟩
theorem case_restore : CASE l (dC, dI) cI cZ cS F Sh A R0 yX7_restore yX8_restore wsX7_restore wsX8_restore [] := by
  rintro b WX ⟨ik, nw, kp, md, T, Y, wy, g, f, G, hu, hR, hb⟩
  have hR0 := hR
  obtain ⟨⟨E, O⟩, hk, hT, hw⟩ := hR
  obtain ⟨a, i', m', w', l', d', t', x', y', z', s', e1, e2, E', O'⟩ := r_restore (N := 40000) (by decide) E O hk (ik := ik) (i0 := kp.1) (m0 := kp.2.1) (w0 := kp.2.2.1) (l0 := kp.2.2.2.1) (d0 := kp.2.2.2.2.1) (t0 := kp.2.2.2.2.2.1) (x0 := kp.2.2.2.2.2.2.1) (y0 := kp.2.2.2.2.2.2.2.1) (z0 := kp.2.2.2.2.2.2.2.2) (img := (f 2)) (hi := (g 0))
  refine ⟨a, _, b, _, _, ?_, ?_, clsW (g' := g) (f' := (updF f 1 ((a, s').2))) (b' := b) (J := [0, 2, 3]) (ic_split _ (by decide +kernel)) (fun sz => k_X7_restore l dC dI cI cZ cS 40000 F.1 (F.2.2.1 0) (F.2.2.1 1) (F.2.2.1 2) (F.2.2.1 3) (F.2.2.1 4) (F.2.2.1 5) (F.2.2.1 6) (F.2.2.2.1 0) (F.2.2.2.1 1) (F.2.2.2.1 2) (F.2.2.2.1 3) (F.2.2.2.1 4) (F.2.2.2.1 5) (F.2.2.2.1 6) (F.2.2.2.2.1 0) F.2.1 sz ik (wRef wy) nw.1 nw.2.1 nw.2.2.1 nw.2.2.2.1 nw.2.2.2.2.1 nw.2.2.2.2.2.1 nw.2.2.2.2.2.2.1 nw.2.2.2.2.2.2.2.1 nw.2.2.2.2.2.2.2.2 kp.1 kp.2.1 kp.2.2.1 kp.2.2.2.1 kp.2.2.2.2.1 kp.2.2.2.2.2.1 kp.2.2.2.2.2.2.1 kp.2.2.2.2.2.2.2.1 kp.2.2.2.2.2.2.2.2 _ e1) hu (fun r v hv => ⟨hv, ik, ((a, i', m', w', l', d', t', x', y', z').2.1, (a, i', m', w', l', d', t', x', y', z').2.2.1, (a, i', m', w', l', d', t', x', y', z').2.2.2.1, (a, i', m', w', l', d', t', x', y', z').2.2.2.2.1, (a, i', m', w', l', d', t', x', y', z').2.2.2.2.2.1, (a, i', m', w', l', d', t', x', y', z').2.2.2.2.2.2.1, (a, i', m', w', l', d', t', x', y', z').2.2.2.2.2.2.2.1, (a, i', m', w', l', d', t', x', y', z').2.2.2.2.2.2.2.2.1, (a, i', m', w', l', d', t', x', y', z').2.2.2.2.2.2.2.2.2), kp, md, T, Y, wy, rfl, rfl, ⟨⟨E', O'⟩, hk, hT, hw⟩, hb⟩), fun u hm => ⟨midR hm, modW (J := [0, 1, 2]) (g' := g) (f' := (updF f 1 ((a, s').2))) (im_split _ (by decide +kernel)) (fun sz => k_X8_restore l dC dI cI cZ cS 40000 (A 0) (A 1) (A 2) (mFs A g) sz (f 1) (f 2) (g 0) rfl rfl rfl (a, s') e2) rfl hm⟩⟩
  · exact ⟨Nat.le_of_ble_eq_true rfl, Nat.le_of_ble_eq_true rfl, by cases b <;> exact Nat.le_of_ble_eq_true rfl, by cases b <;> exact Nat.le_of_ble_eq_true rfl⟩
  · exact ⟨Nat.le_of_ble_eq_true rfl, Nat.le_of_ble_eq_true rfl, rfl, rfl⟩
end CASES
