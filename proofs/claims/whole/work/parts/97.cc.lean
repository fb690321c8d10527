/-! ===== calls, in the whole world ===== -/
section CASES
variable {l : Launch} {dC : Nat → ClassId} {dI : Nat → Nat → Nat} {cI cZ cS : ClassId} {F : FX} {Sh : Nat → Option Nat} {A : Nat → Nat} {R0 : va_W}
theorem case_cuts {x1 x2 : Int32} : CASE l (dC, dI) cI cZ cS F Sh A R0 yX7_cuts yX8_cuts wsX7_cuts wsX8_cuts [.int x1, .int x2] := by
  rintro b WX ⟨ik, nw, kp, md, T, Y, wy, g, f, G, hu, hR, hb⟩
  have hR0 := hR
  obtain ⟨⟨E, O⟩, hk, hT, hw⟩ := hR
  cases wy with
  | none =>
    have hb : b = false := hb
    subst hb
    obtain ⟨p, q, e1, e2, e3, e4, e5⟩ := r_cuts (N := 40000) (by decide) E O so_0 (free := (fun _ => 0)) (steps := (fun _ => 0)) (slots := (fun _ => 0)) (takes := (fun _ => 0)) (places := (fun _ => 0)) (values := (fun _ => 0)) (states := 0) (wto := 0) (aim := 0) (last := (-1)) (order := (fun _ => 0)) (slt := 0) (x1 := x1) (x2 := x2) (way := (f 13)) (found := (f 14)) (fs := (g 11)) (fc := (g 13))
    have hRN : RelN nw q.2.1 := by rw [e4]; exact ⟨E, O⟩
    rcases t_cuts E O e1 with h | h
    · rw [e3] at h
      refine ⟨q.1, _, false, _, _, ?_, ?_, clsR (g' := (updG (updG g 11 q.2.2.2.2.1) 13 q.2.2.2.2.2)) (f' := (updF (updF (updF f 1 q.2.1) 13 q.2.2.1) 14 q.2.2.2.1)) (J := [0, 2]) (ic_split _ (by decide +kernel)) (k_X7_cuts_R l dC dI cI cZ cS 40000 F.1 (F.2.2.1 0) (F.2.2.1 1) (F.2.2.1 2) (F.2.2.1 3) (F.2.2.1 4) (F.2.2.1 5) (F.2.2.1 6) (F.2.2.2.1 0) (F.2.2.2.2.1 0) F.2.1 ik (none) nw.1 nw.2.1 nw.2.2.1 nw.2.2.2.1 nw.2.2.2.2.1 nw.2.2.2.2.2.1 nw.2.2.2.2.2.2.1 nw.2.2.2.2.2.2.2.1 nw.2.2.2.2.2.2.2.2 x1 x2 _ h) rfl rfl hu ⟨hRN, hk, hT, hw⟩ rfl, fun u hm => modW (J := [0, 1, 13, 14]) (g' := (updG (updG g 11 q.2.2.2.2.1) 13 q.2.2.2.2.2)) (f' := (updF (updF (updF f 1 q.2.1) 13 q.2.2.1) 14 q.2.2.2.1)) (im_split _ (by decide +kernel)) (fun sz => k_X8_cuts l dC dI cI cZ cS 40000 (A 0) (A 1) (A 13) (A 14) (A 2) (A 3) (A 4) (A 5) (A 6) (A 7) (A 8) (A 9) (A 10) (A 11) (A 12) (A 15) (A 16) sz (f 1) (g 0) (g 1) (g 2) (g 3) (g 4) (g 5) (g 6) (f 13) (f 14) (g 7) (g 8) (g 9) (g 10) (g 11) (g 12) (g 13) (g 14) (g 15) (g 16) (g 17) (g 18) (g 19) (g 20) x1 x2 q e2) rfl hm⟩
      · exact ⟨Nat.le_of_ble_eq_true rfl, Nat.le_of_ble_eq_true rfl, Nat.le_of_ble_eq_true rfl, Nat.le_of_ble_eq_true rfl⟩
      · exact ⟨Nat.le_of_ble_eq_true rfl, Nat.le_of_ble_eq_true rfl, rfl, rfl⟩
    · refine ⟨q.1, _, true, _, _, ?_, ?_, clsW (g' := (updG (updG g 11 q.2.2.2.2.1) 13 q.2.2.2.2.2)) (f' := (updF (updF (updF f 1 q.2.1) 13 q.2.2.1) 14 q.2.2.2.1)) (b' := true) (J := [0, 2, 5]) (ic_split _ (by decide +kernel)) (fun sz => k_X7_cuts_A2 l dC dI cI cZ cS 40000 F.1 (F.2.2.1 0) (F.2.2.1 1) (F.2.2.1 2) (F.2.2.1 3) (F.2.2.1 4) (F.2.2.1 5) (F.2.2.1 6) (F.2.2.2.1 0) (F.2.2.2.2.1 0) F.2.1 sz ik nw.1 nw.2.1 nw.2.2.1 nw.2.2.2.1 nw.2.2.2.2.1 nw.2.2.2.2.2.1 nw.2.2.2.2.2.2.1 nw.2.2.2.2.2.2.2.1 nw.2.2.2.2.2.2.2.2 x1 x2 _ e1) hu (fun r v hv => ?_), fun u hm => modW (J := [0, 1, 13, 14]) (g' := (updG (updG g 11 q.2.2.2.2.1) 13 q.2.2.2.2.2)) (f' := (updF (updF (updF f 1 q.2.1) 13 q.2.2.1) 14 q.2.2.2.1)) (im_split _ (by decide +kernel)) (fun sz => k_X8_cuts l dC dI cI cZ cS 40000 (A 0) (A 1) (A 13) (A 14) (A 2) (A 3) (A 4) (A 5) (A 6) (A 7) (A 8) (A 9) (A 10) (A 11) (A 12) (A 15) (A 16) sz (f 1) (g 0) (g 1) (g 2) (g 3) (g 4) (g 5) (g 6) (f 13) (f 14) (g 7) (g 8) (g 9) (g 10) (g 11) (g 12) (g 13) (g 14) (g 15) (g 16) (g 17) (g 18) (g 19) (g 20) x1 x2 q e2) rfl hm⟩
      · exact ⟨Nat.le_of_ble_eq_true rfl, Nat.le_of_ble_eq_true rfl, Nat.le_of_ble_eq_true rfl, Nat.le_of_ble_eq_true rfl⟩
      · exact ⟨Nat.le_of_ble_eq_true rfl, Nat.le_of_ble_eq_true rfl, rfl, rfl⟩
      · cases v with
        | none => exact absurd (hv.2 rfl) h
        | some v => exact ⟨hv.1.trans e3, ik, nw, kp, md, T, Y, some (v, (p.2.1, p.2.2.1, p.2.2.2.1, p.2.2.2.2.1, p.2.2.2.2.2.1, p.2.2.2.2.2.2.1, p.2.2.2.2.2.2.2.1, p.2.2.2.2.2.2.2.2.1, p.2.2.2.2.2.2.2.2.2.1, p.2.2.2.2.2.2.2.2.2.2.1, p.2.2.2.2.2.2.2.2.2.2.2.1, p.2.2.2.2.2.2.2.2.2.2.2.2.1, p.2.2.2.2.2.2.2.2.2.2.2.2.2)), rfl, rfl, ⟨hRN, hk, hT, fun w9 hw9 => by cases hw9; exact e5⟩, rfl⟩
  | some w9 =>
    obtain ⟨v, c⟩ := w9
    have hb : b = true := hb
    subst hb
    have hs9 : SO c.2.2.1 := hw _ rfl
    obtain ⟨p, q, e1, e2, e3, e4, e5⟩ := r_cuts (N := 40000) (by decide) E O hs9 (free := c.1) (steps := c.2.1) (slots := c.2.2.2.1) (takes := c.2.2.2.2.1) (places := c.2.2.2.2.2.1) (values := c.2.2.2.2.2.2.1) (states := c.2.2.2.2.2.2.2.1) (wto := c.2.2.2.2.2.2.2.2.1) (aim := c.2.2.2.2.2.2.2.2.2.1) (last := c.2.2.2.2.2.2.2.2.2.2.1) (order := c.2.2.2.2.2.2.2.2.2.2.2.1) (slt := c.2.2.2.2.2.2.2.2.2.2.2.2) (x1 := x1) (x2 := x2) (way := (f 13)) (found := (f 14)) (fs := (g 11)) (fc := (g 13))
    have hRN : RelN nw q.2.1 := by rw [e4]; exact ⟨E, O⟩
    refine ⟨q.1, _, true, _, _, ?_, ?_, clsW (g' := (updG (updG g 11 q.2.2.2.2.1) 13 q.2.2.2.2.2)) (f' := (updF (updF (updF f 1 q.2.1) 13 q.2.2.1) 14 q.2.2.2.1)) (b' := true) (J := [0, 2, 5]) (ic_split _ (by decide +kernel)) (fun sz => k_X7_cuts l dC dI cI cZ cS 40000 F.1 (F.2.2.1 0) (F.2.2.1 1) (F.2.2.1 2) (F.2.2.1 3) (F.2.2.1 4) (F.2.2.1 5) (F.2.2.1 6) v.1 v.2.1 v.2.2.1 v.2.2.2.1 v.2.2.2.2.1 v.2.2.2.2.2.1 v.2.2.2.2.2.2.1 v.2.2.2.2.2.2.2.1 v.2.2.2.2.2.2.2.2.1 (F.2.2.2.1 0) (F.2.2.2.2.1 0) F.2.1 sz ik nw.1 nw.2.1 nw.2.2.1 nw.2.2.2.1 nw.2.2.2.2.1 nw.2.2.2.2.2.1 nw.2.2.2.2.2.2.1 nw.2.2.2.2.2.2.2.1 nw.2.2.2.2.2.2.2.2 c.1 c.2.1 c.2.2.1 c.2.2.2.1 c.2.2.2.2.1 c.2.2.2.2.2.1 c.2.2.2.2.2.2.1 c.2.2.2.2.2.2.2.1 v.2.2.2.2.2.2.2.2.2 c.2.2.2.2.2.2.2.2.1 c.2.2.2.2.2.2.2.2.2.1 c.2.2.2.2.2.2.2.2.2.2.1 c.2.2.2.2.2.2.2.2.2.2.2.1 c.2.2.2.2.2.2.2.2.2.2.2.2 x1 x2 _ e1) hu (fun r u hv => ⟨hv.trans e3, ik, nw, kp, md, T, Y, some ((v.1, v.2.1, v.2.2.1, v.2.2.2.1, v.2.2.2.2.1, v.2.2.2.2.2.1, v.2.2.2.2.2.2.1, v.2.2.2.2.2.2.2.1, v.2.2.2.2.2.2.2.2.1, u), (p.2.1, p.2.2.1, p.2.2.2.1, p.2.2.2.2.1, p.2.2.2.2.2.1, p.2.2.2.2.2.2.1, p.2.2.2.2.2.2.2.1, p.2.2.2.2.2.2.2.2.1, p.2.2.2.2.2.2.2.2.2.1, p.2.2.2.2.2.2.2.2.2.2.1, p.2.2.2.2.2.2.2.2.2.2.2.1, p.2.2.2.2.2.2.2.2.2.2.2.2.1, p.2.2.2.2.2.2.2.2.2.2.2.2.2)), rfl, rfl, ⟨hRN, hk, hT, fun w9 hw9 => by cases hw9; exact e5⟩, rfl⟩), fun u hm => modW (J := [0, 1, 13, 14]) (g' := (updG (updG g 11 q.2.2.2.2.1) 13 q.2.2.2.2.2)) (f' := (updF (updF (updF f 1 q.2.1) 13 q.2.2.1) 14 q.2.2.2.1)) (im_split _ (by decide +kernel)) (fun sz => k_X8_cuts l dC dI cI cZ cS 40000 (A 0) (A 1) (A 13) (A 14) (A 2) (A 3) (A 4) (A 5) (A 6) (A 7) (A 8) (A 9) (A 10) (A 11) (A 12) (A 15) (A 16) sz (f 1) (g 0) (g 1) (g 2) (g 3) (g 4) (g 5) (g 6) (f 13) (f 14) (g 7) (g 8) (g 9) (g 10) (g 11) (g 12) (g 13) (g 14) (g 15) (g 16) (g 17) (g 18) (g 19) (g 20) x1 x2 q e2) rfl hm⟩
    · exact ⟨Nat.le_of_ble_eq_true rfl, Nat.le_of_ble_eq_true rfl, Nat.le_of_ble_eq_true rfl, Nat.le_of_ble_eq_true rfl⟩
    · exact ⟨Nat.le_of_ble_eq_true rfl, Nat.le_of_ble_eq_true rfl, rfl, rfl⟩
theorem case_ends {x1 x2 : Int32} : CASE l (dC, dI) cI cZ cS F Sh A R0 yX7_ends yX8_ends wsX7_ends wsX8_ends [.int x1, .int x2] := by
  rintro b WX ⟨ik, nw, kp, md, T, Y, wy, g, f, G, hu, hR, hb⟩
  have hR0 := hR
  obtain ⟨⟨E, O⟩, hk, hT, hw⟩ := hR
  cases wy with
  | none =>
    have hb : b = false := hb
    subst hb
    obtain ⟨p, q, e1, e2, e3, e4, e5⟩ := r_ends (N := 40000) (by decide) E O so_0 (free := (fun _ => 0)) (steps := (fun _ => 0)) (slots := (fun _ => 0)) (takes := (fun _ => 0)) (places := (fun _ => 0)) (values := (fun _ => 0)) (states := 0) (wto := 0) (aim := 0) (last := (-1)) (x1 := x1) (x2 := x2) (way := (f 13)) (found := (f 14)) (wrw := (g 7)) (wt := (g 8)) (ws := (g 9)) (eb := (g 10)) (fs := (g 11)) (fw := (g 12))
    have hRN : RelN nw q.2.1 := by rw [e4]; exact ⟨E, O⟩
    rcases t_ends E O e1 with h | h
    · rw [e3] at h
      refine ⟨q.1, _, false, _, _, ?_, ?_, clsR (g' := (updG (updG (updG (updG (updG (updG g 7 q.2.2.2.2.1) 8 q.2.2.2.2.2.1) 9 q.2.2.2.2.2.2.1) 10 q.2.2.2.2.2.2.2.1) 11 q.2.2.2.2.2.2.2.2.1) 12 q.2.2.2.2.2.2.2.2.2)) (f' := (updF (updF (updF f 1 q.2.1) 13 q.2.2.1) 14 q.2.2.2.1)) (J := [0, 2]) (ic_split _ (by decide +kernel)) (k_X7_ends_R l dC dI cI cZ cS 40000 F.1 (F.2.2.1 0) (F.2.2.1 1) (F.2.2.1 2) (F.2.2.1 3) (F.2.2.1 4) (F.2.2.1 5) (F.2.2.1 6) (F.2.2.2.1 0) (F.2.2.2.2.1 0) F.2.1 ik (none) nw.1 nw.2.1 nw.2.2.1 nw.2.2.2.1 nw.2.2.2.2.1 nw.2.2.2.2.2.1 nw.2.2.2.2.2.2.1 nw.2.2.2.2.2.2.2.1 nw.2.2.2.2.2.2.2.2 x1 x2 _ h) rfl rfl hu ⟨hRN, hk, hT, hw⟩ rfl, fun u hm => modW (J := [0, 1, 13, 14]) (g' := (updG (updG (updG (updG (updG (updG g 7 q.2.2.2.2.1) 8 q.2.2.2.2.2.1) 9 q.2.2.2.2.2.2.1) 10 q.2.2.2.2.2.2.2.1) 11 q.2.2.2.2.2.2.2.2.1) 12 q.2.2.2.2.2.2.2.2.2)) (f' := (updF (updF (updF f 1 q.2.1) 13 q.2.2.1) 14 q.2.2.2.1)) (im_split _ (by decide +kernel)) (fun sz => k_X8_ends l dC dI cI cZ cS 40000 (A 0) (A 1) (A 13) (A 14) (A 2) (A 3) (A 4) (A 5) (A 6) (A 7) (A 8) (A 9) (A 10) (A 11) (A 12) (A 15) (A 16) sz (f 1) (g 0) (g 1) (g 2) (g 3) (g 4) (g 5) (g 6) (f 13) (f 14) (g 7) (g 8) (g 9) (g 10) (g 11) (g 12) (g 13) (g 14) (g 15) (g 16) (g 17) (g 18) (g 19) (g 20) x1 x2 q e2) rfl hm⟩
      · exact ⟨Nat.le_of_ble_eq_true rfl, Nat.le_of_ble_eq_true rfl, Nat.le_of_ble_eq_true rfl, Nat.le_of_ble_eq_true rfl⟩
      · exact ⟨Nat.le_of_ble_eq_true rfl, Nat.le_of_ble_eq_true rfl, rfl, rfl⟩
    · refine ⟨q.1, _, true, _, _, ?_, ?_, clsW (g' := (updG (updG (updG (updG (updG (updG g 7 q.2.2.2.2.1) 8 q.2.2.2.2.2.1) 9 q.2.2.2.2.2.2.1) 10 q.2.2.2.2.2.2.2.1) 11 q.2.2.2.2.2.2.2.2.1) 12 q.2.2.2.2.2.2.2.2.2)) (f' := (updF (updF (updF f 1 q.2.1) 13 q.2.2.1) 14 q.2.2.2.1)) (b' := true) (J := [0, 2, 5]) (ic_split _ (by decide +kernel)) (fun sz => k_X7_ends_A2 l dC dI cI cZ cS 40000 F.1 (F.2.2.1 0) (F.2.2.1 1) (F.2.2.1 2) (F.2.2.1 3) (F.2.2.1 4) (F.2.2.1 5) (F.2.2.1 6) (F.2.2.2.1 0) (F.2.2.2.2.1 0) F.2.1 sz ik nw.1 nw.2.1 nw.2.2.1 nw.2.2.2.1 nw.2.2.2.2.1 nw.2.2.2.2.2.1 nw.2.2.2.2.2.2.1 nw.2.2.2.2.2.2.2.1 nw.2.2.2.2.2.2.2.2 x1 x2 _ e1) hu (fun r v hv => ?_), fun u hm => modW (J := [0, 1, 13, 14]) (g' := (updG (updG (updG (updG (updG (updG g 7 q.2.2.2.2.1) 8 q.2.2.2.2.2.1) 9 q.2.2.2.2.2.2.1) 10 q.2.2.2.2.2.2.2.1) 11 q.2.2.2.2.2.2.2.2.1) 12 q.2.2.2.2.2.2.2.2.2)) (f' := (updF (updF (updF f 1 q.2.1) 13 q.2.2.1) 14 q.2.2.2.1)) (im_split _ (by decide +kernel)) (fun sz => k_X8_ends l dC dI cI cZ cS 40000 (A 0) (A 1) (A 13) (A 14) (A 2) (A 3) (A 4) (A 5) (A 6) (A 7) (A 8) (A 9) (A 10) (A 11) (A 12) (A 15) (A 16) sz (f 1) (g 0) (g 1) (g 2) (g 3) (g 4) (g 5) (g 6) (f 13) (f 14) (g 7) (g 8) (g 9) (g 10) (g 11) (g 12) (g 13) (g 14) (g 15) (g 16) (g 17) (g 18) (g 19) (g 20) x1 x2 q e2) rfl hm⟩
      · exact ⟨Nat.le_of_ble_eq_true rfl, Nat.le_of_ble_eq_true rfl, Nat.le_of_ble_eq_true rfl, Nat.le_of_ble_eq_true rfl⟩
      · exact ⟨Nat.le_of_ble_eq_true rfl, Nat.le_of_ble_eq_true rfl, rfl, rfl⟩
      · cases v with
        | none => exact absurd (hv.2 rfl) h
        | some v => exact ⟨hv.1.trans e3, ik, nw, kp, md, T, Y, some (v, (p.2.1, p.2.2.1, p.2.2.2.1, p.2.2.2.2.1, p.2.2.2.2.2.1, p.2.2.2.2.2.2.1, p.2.2.2.2.2.2.2.1, p.2.2.2.2.2.2.2.2.1, p.2.2.2.2.2.2.2.2.2.1, p.2.2.2.2.2.2.2.2.2.2.1, p.2.2.2.2.2.2.2.2.2.2.2, (fun _ => 0), 0)), rfl, rfl, ⟨hRN, hk, hT, fun w9 hw9 => by cases hw9; exact e5⟩, rfl⟩
  | some w9 =>
    obtain ⟨v, c⟩ := w9
    have hb : b = true := hb
    subst hb
    have hs9 : SO c.2.2.1 := hw _ rfl
    obtain ⟨p, q, e1, e2, e3, e4, e5⟩ := r_ends (N := 40000) (by decide) E O hs9 (free := c.1) (steps := c.2.1) (slots := c.2.2.2.1) (takes := c.2.2.2.2.1) (places := c.2.2.2.2.2.1) (values := c.2.2.2.2.2.2.1) (states := c.2.2.2.2.2.2.2.1) (wto := c.2.2.2.2.2.2.2.2.1) (aim := c.2.2.2.2.2.2.2.2.2.1) (last := c.2.2.2.2.2.2.2.2.2.2.1) (x1 := x1) (x2 := x2) (way := (f 13)) (found := (f 14)) (wrw := (g 7)) (wt := (g 8)) (ws := (g 9)) (eb := (g 10)) (fs := (g 11)) (fw := (g 12))
    have hRN : RelN nw q.2.1 := by rw [e4]; exact ⟨E, O⟩
    refine ⟨q.1, _, true, _, _, ?_, ?_, clsW (g' := (updG (updG (updG (updG (updG (updG g 7 q.2.2.2.2.1) 8 q.2.2.2.2.2.1) 9 q.2.2.2.2.2.2.1) 10 q.2.2.2.2.2.2.2.1) 11 q.2.2.2.2.2.2.2.2.1) 12 q.2.2.2.2.2.2.2.2.2)) (f' := (updF (updF (updF f 1 q.2.1) 13 q.2.2.1) 14 q.2.2.2.1)) (b' := true) (J := [0, 2, 5]) (ic_split _ (by decide +kernel)) (fun sz => k_X7_ends l dC dI cI cZ cS 40000 F.1 (F.2.2.1 0) (F.2.2.1 1) (F.2.2.1 2) (F.2.2.1 3) (F.2.2.1 4) (F.2.2.1 5) (F.2.2.1 6) v.1 v.2.1 v.2.2.1 v.2.2.2.1 v.2.2.2.2.1 v.2.2.2.2.2.1 v.2.2.2.2.2.2.1 v.2.2.2.2.2.2.2.1 v.2.2.2.2.2.2.2.2.1 (F.2.2.2.1 0) (F.2.2.2.2.1 0) F.2.1 sz ik nw.1 nw.2.1 nw.2.2.1 nw.2.2.2.1 nw.2.2.2.2.1 nw.2.2.2.2.2.1 nw.2.2.2.2.2.2.1 nw.2.2.2.2.2.2.2.1 nw.2.2.2.2.2.2.2.2 c.1 c.2.1 c.2.2.1 c.2.2.2.1 c.2.2.2.2.1 c.2.2.2.2.2.1 c.2.2.2.2.2.2.1 c.2.2.2.2.2.2.2.1 v.2.2.2.2.2.2.2.2.2 c.2.2.2.2.2.2.2.2.1 c.2.2.2.2.2.2.2.2.2.1 c.2.2.2.2.2.2.2.2.2.2.1 c.2.2.2.2.2.2.2.2.2.2.2.1 c.2.2.2.2.2.2.2.2.2.2.2.2 x1 x2 _ e1) hu (fun r u hv => ⟨hv.trans e3, ik, nw, kp, md, T, Y, some ((v.1, v.2.1, v.2.2.1, v.2.2.2.1, v.2.2.2.2.1, v.2.2.2.2.2.1, v.2.2.2.2.2.2.1, v.2.2.2.2.2.2.2.1, v.2.2.2.2.2.2.2.2.1, u), (p.2.1, p.2.2.1, p.2.2.2.1, p.2.2.2.2.1, p.2.2.2.2.2.1, p.2.2.2.2.2.2.1, p.2.2.2.2.2.2.2.1, p.2.2.2.2.2.2.2.2.1, p.2.2.2.2.2.2.2.2.2.1, p.2.2.2.2.2.2.2.2.2.2.1, p.2.2.2.2.2.2.2.2.2.2.2, c.2.2.2.2.2.2.2.2.2.2.2.1, c.2.2.2.2.2.2.2.2.2.2.2.2)), rfl, rfl, ⟨hRN, hk, hT, fun w9 hw9 => by cases hw9; exact e5⟩, rfl⟩), fun u hm => modW (J := [0, 1, 13, 14]) (g' := (updG (updG (updG (updG (updG (updG g 7 q.2.2.2.2.1) 8 q.2.2.2.2.2.1) 9 q.2.2.2.2.2.2.1) 10 q.2.2.2.2.2.2.2.1) 11 q.2.2.2.2.2.2.2.2.1) 12 q.2.2.2.2.2.2.2.2.2)) (f' := (updF (updF (updF f 1 q.2.1) 13 q.2.2.1) 14 q.2.2.2.1)) (im_split _ (by decide +kernel)) (fun sz => k_X8_ends l dC dI cI cZ cS 40000 (A 0) (A 1) (A 13) (A 14) (A 2) (A 3) (A 4) (A 5) (A 6) (A 7) (A 8) (A 9) (A 10) (A 11) (A 12) (A 15) (A 16) sz (f 1) (g 0) (g 1) (g 2) (g 3) (g 4) (g 5) (g 6) (f 13) (f 14) (g 7) (g 8) (g 9) (g 10) (g 11) (g 12) (g 13) (g 14) (g 15) (g 16) (g 17) (g 18) (g 19) (g 20) x1 x2 q e2) rfl hm⟩
    · exact ⟨Nat.le_of_ble_eq_true rfl, Nat.le_of_ble_eq_true rfl, Nat.le_of_ble_eq_true rfl, Nat.le_of_ble_eq_true rfl⟩
    · exact ⟨Nat.le_of_ble_eq_true rfl, Nat.le_of_ble_eq_true rfl, rfl, rfl⟩
theorem case_two {x1 x2 : Int32} : CASE l (dC, dI) cI cZ cS F Sh A R0 yX7_two yX8_two wsX7_two wsX8_two [.int x1, .int x2] := by
  rintro b WX ⟨ik, nw, kp, md, T, Y, wy, g, f, G, hu, hR, hb⟩
  have hR0 := hR
  obtain ⟨⟨E, O⟩, hk, hT, hw⟩ := hR
  cases wy with
  | none =>
    have hb : b = false := hb
    subst hb
    obtain ⟨p, q, e1, e2, e3, e4, e5⟩ := r_twoC (N := 40000) (by decide) E O so_0 (free := (fun _ => 0)) (steps := (fun _ => 0)) (slots := (fun _ => 0)) (takes := (fun _ => 0)) (places := (fun _ => 0)) (values := (fun _ => 0)) (states := 0) (wto := 0) (x1 := x1) (x2 := x2) (is1 := (f 15)) (is2 := (f 16))
    have hRN : RelN nw q.2.1 := by rw [e4]; exact ⟨E, O⟩
    rcases t_two E O e1 with h | h
    · rw [e3] at h
      refine ⟨q.1, _, false, _, _, ?_, ?_, clsR (g' := g) (f' := (updF (updF (updF f 1 q.2.1) 15 q.2.2.1) 16 q.2.2.2)) (J := [0, 2]) (ic_split _ (by decide +kernel)) (k_X7_two_R l dC dI cI cZ cS 40000 F.1 (F.2.2.1 0) (F.2.2.1 1) (F.2.2.1 2) (F.2.2.1 3) (F.2.2.1 4) (F.2.2.1 5) (F.2.2.1 6) (F.2.2.2.1 0) (F.2.2.2.2.1 0) F.2.1 ik (none) nw.1 nw.2.1 nw.2.2.1 nw.2.2.2.1 nw.2.2.2.2.1 nw.2.2.2.2.2.1 nw.2.2.2.2.2.2.1 nw.2.2.2.2.2.2.2.1 nw.2.2.2.2.2.2.2.2 x1 x2 _ h) rfl rfl hu ⟨hRN, hk, hT, hw⟩ rfl, fun u hm => modW (J := [0, 1, 15, 16]) (g' := g) (f' := (updF (updF (updF f 1 q.2.1) 15 q.2.2.1) 16 q.2.2.2)) (im_split _ (by decide +kernel)) (fun sz => k_X8_two l dC dI cI cZ cS 40000 (A 0) (A 1) (A 15) (A 16) (mFs A g) sz (f 1) (f 15) (f 16) x1 x2 rfl rfl rfl q e2) rfl hm⟩
      · exact ⟨Nat.le_of_ble_eq_true rfl, Nat.le_of_ble_eq_true rfl, Nat.le_of_ble_eq_true rfl, Nat.le_of_ble_eq_true rfl⟩
      · exact ⟨Nat.le_of_ble_eq_true rfl, Nat.le_of_ble_eq_true rfl, rfl, rfl⟩
    · refine ⟨q.1, _, true, _, _, ?_, ?_, clsW (g' := g) (f' := (updF (updF (updF f 1 q.2.1) 15 q.2.2.1) 16 q.2.2.2)) (b' := true) (J := [0, 2, 5]) (ic_split _ (by decide +kernel)) (fun sz => k_X7_two_A2 l dC dI cI cZ cS 40000 F.1 (F.2.2.1 0) (F.2.2.1 1) (F.2.2.1 2) (F.2.2.1 3) (F.2.2.1 4) (F.2.2.1 5) (F.2.2.1 6) (F.2.2.2.1 0) (F.2.2.2.2.1 0) F.2.1 sz ik nw.1 nw.2.1 nw.2.2.1 nw.2.2.2.1 nw.2.2.2.2.1 nw.2.2.2.2.2.1 nw.2.2.2.2.2.2.1 nw.2.2.2.2.2.2.2.1 nw.2.2.2.2.2.2.2.2 x1 x2 _ e1) hu (fun r v hv => ?_), fun u hm => modW (J := [0, 1, 15, 16]) (g' := g) (f' := (updF (updF (updF f 1 q.2.1) 15 q.2.2.1) 16 q.2.2.2)) (im_split _ (by decide +kernel)) (fun sz => k_X8_two l dC dI cI cZ cS 40000 (A 0) (A 1) (A 15) (A 16) (mFs A g) sz (f 1) (f 15) (f 16) x1 x2 rfl rfl rfl q e2) rfl hm⟩
      · exact ⟨Nat.le_of_ble_eq_true rfl, Nat.le_of_ble_eq_true rfl, Nat.le_of_ble_eq_true rfl, Nat.le_of_ble_eq_true rfl⟩
      · exact ⟨Nat.le_of_ble_eq_true rfl, Nat.le_of_ble_eq_true rfl, rfl, rfl⟩
      · cases v with
        | none => exact absurd (hv.2 rfl) h
        | some v => exact ⟨hv.1.trans e3, ik, nw, kp, md, T, Y, some (v, (p.2.1, p.2.2.1, p.2.2.2.1, p.2.2.2.2.1, p.2.2.2.2.2.1, p.2.2.2.2.2.2.1, p.2.2.2.2.2.2.2.1, p.2.2.2.2.2.2.2.2.1, p.2.2.2.2.2.2.2.2.2, 0, (-1), (fun _ => 0), 0)), rfl, rfl, ⟨hRN, hk, hT, fun w9 hw9 => by cases hw9; exact e5⟩, rfl⟩
  | some w9 =>
    obtain ⟨v, c⟩ := w9
    have hb : b = true := hb
    subst hb
    have hs9 : SO c.2.2.1 := hw _ rfl
    obtain ⟨p, q, e1, e2, e3, e4, e5⟩ := r_twoC (N := 40000) (by decide) E O hs9 (free := c.1) (steps := c.2.1) (slots := c.2.2.2.1) (takes := c.2.2.2.2.1) (places := c.2.2.2.2.2.1) (values := c.2.2.2.2.2.2.1) (states := c.2.2.2.2.2.2.2.1) (wto := c.2.2.2.2.2.2.2.2.1) (x1 := x1) (x2 := x2) (is1 := (f 15)) (is2 := (f 16))
    have hRN : RelN nw q.2.1 := by rw [e4]; exact ⟨E, O⟩
    refine ⟨q.1, _, true, _, _, ?_, ?_, clsW (g' := g) (f' := (updF (updF (updF f 1 q.2.1) 15 q.2.2.1) 16 q.2.2.2)) (b' := true) (J := [0, 2, 5]) (ic_split _ (by decide +kernel)) (fun sz => k_X7_two l dC dI cI cZ cS 40000 F.1 (F.2.2.1 0) (F.2.2.1 1) (F.2.2.1 2) (F.2.2.1 3) (F.2.2.1 4) (F.2.2.1 5) (F.2.2.1 6) v.1 v.2.1 v.2.2.1 v.2.2.2.1 v.2.2.2.2.1 v.2.2.2.2.2.1 v.2.2.2.2.2.2.1 v.2.2.2.2.2.2.2.1 v.2.2.2.2.2.2.2.2.1 (F.2.2.2.1 0) (F.2.2.2.2.1 0) F.2.1 sz ik nw.1 nw.2.1 nw.2.2.1 nw.2.2.2.1 nw.2.2.2.2.1 nw.2.2.2.2.2.1 nw.2.2.2.2.2.2.1 nw.2.2.2.2.2.2.2.1 nw.2.2.2.2.2.2.2.2 c.1 c.2.1 c.2.2.1 c.2.2.2.1 c.2.2.2.2.1 c.2.2.2.2.2.1 c.2.2.2.2.2.2.1 c.2.2.2.2.2.2.2.1 v.2.2.2.2.2.2.2.2.2 c.2.2.2.2.2.2.2.2.1 c.2.2.2.2.2.2.2.2.2.1 c.2.2.2.2.2.2.2.2.2.2.1 c.2.2.2.2.2.2.2.2.2.2.2.1 c.2.2.2.2.2.2.2.2.2.2.2.2 x1 x2 _ e1) hu (fun r u hv => ⟨hv.trans e3, ik, nw, kp, md, T, Y, some ((v.1, v.2.1, v.2.2.1, v.2.2.2.1, v.2.2.2.2.1, v.2.2.2.2.2.1, v.2.2.2.2.2.2.1, v.2.2.2.2.2.2.2.1, v.2.2.2.2.2.2.2.2.1, u), (p.2.1, p.2.2.1, p.2.2.2.1, p.2.2.2.2.1, p.2.2.2.2.2.1, p.2.2.2.2.2.2.1, p.2.2.2.2.2.2.2.1, p.2.2.2.2.2.2.2.2.1, p.2.2.2.2.2.2.2.2.2, c.2.2.2.2.2.2.2.2.2.1, c.2.2.2.2.2.2.2.2.2.2.1, c.2.2.2.2.2.2.2.2.2.2.2.1, c.2.2.2.2.2.2.2.2.2.2.2.2)), rfl, rfl, ⟨hRN, hk, hT, fun w9 hw9 => by cases hw9; exact e5⟩, rfl⟩), fun u hm => modW (J := [0, 1, 15, 16]) (g' := g) (f' := (updF (updF (updF f 1 q.2.1) 15 q.2.2.1) 16 q.2.2.2)) (im_split _ (by decide +kernel)) (fun sz => k_X8_two l dC dI cI cZ cS 40000 (A 0) (A 1) (A 15) (A 16) (mFs A g) sz (f 1) (f 15) (f 16) x1 x2 rfl rfl rfl q e2) rfl hm⟩
    · exact ⟨Nat.le_of_ble_eq_true rfl, Nat.le_of_ble_eq_true rfl, Nat.le_of_ble_eq_true rfl, Nat.le_of_ble_eq_true rfl⟩
    · exact ⟨Nat.le_of_ble_eq_true rfl, Nat.le_of_ble_eq_true rfl, rfl, rfl⟩
end CASES
