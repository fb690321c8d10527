/-! ===== calls, in the whole world ===== -/
section CASES
variable {l : Launch} {dC : Nat → ClassId} {dI : Nat → Nat → Nat} {cI cZ cS : ClassId} {F : FX} {Sh : Nat → Option Nat} {A : Nat → Nat} {R0 : va_W}
theorem case_keep (hSh : ∀ k, k < 8 → Sh k = some (F.2.2.2.2.2.1 k)) {x1 x2 x3 x4 : Int32} : CASE l (dC, dI) cI cZ cS F Sh A R0 yX7_keep yX8_keep wsX7_keep wsX8_keep [.int x1, .int x2, .int x3, .int x4] := by
  rintro b WX ⟨ik, nw, kp, md, T, Y, wy, g, f, G, hu, hR, hb⟩
  have hR0 := hR
  obtain ⟨⟨E, O⟩, hk, hT, hw⟩ := hR
  obtain ⟨dd, hd8, hd, hdu, hdx⟩ := pick hSh x1
  obtain ⟨a, hold', size', kp', kk', kf', e1, e2, h3⟩ := r_keep (N := 40000)  (Sh := Sh) (hold := (T dd).2.1) (size := (T dd).2.2.2.2) (x1 := x1) (x2 := x2) (x3 := x3) (x4 := x4) (kp := (f 5)) (kk := (f 9)) (kf := (f 10))
  refine ⟨a, (Mid cI cZ cS F Sh A R0 g f g (updF (updF (updF f 5 ((a, kp', kk', kf').2.1)) 9 ((a, kp', kk', kf').2.2.1)) 10 ((a, kp', kk', kf').2.2.2)) b), b, { frames := 2, cells := 1, slots := 2, locals := 43 }, _, ?_, ?_, ?_, fun u hm => ⟨midR hm, modW (J := [0, 5, 9, 10]) (g' := g) (f' := (updF (updF (updF f 5 ((a, kp', kk', kf').2.1)) 9 ((a, kp', kk', kf').2.2.1)) 10 ((a, kp', kk', kf').2.2.2))) (im_split _ (by decide +kernel)) (fun sz => k_X8_keep l dC dI cI cZ cS 40000 (A 0) (A 5) (A 9) (A 10) (mFs A g) sz (f 5) (f 9) (f 10) x1 x2 x3 x4 rfl rfl rfl (a, kp', kk', kf') e2) rfl hm⟩⟩
  · exact ⟨Nat.le_of_ble_eq_true rfl, Nat.le_of_ble_eq_true rfl, by cases b <;> exact Nat.le_of_ble_eq_true rfl, by cases b <;> exact Nat.le_of_ble_eq_true rfl⟩
  · exact ⟨Nat.le_of_ble_eq_true rfl, Nat.le_of_ble_eq_true rfl, rfl, rfl⟩
  · rcases h3 with ⟨ha, h1, h2, h4, h5, h6⟩ | ⟨ha, hx2, h1, h2, d9, hd9, hx1, h4, h5, h6⟩ | ⟨ha, hx2, h1, h2, d9, hd9, hx1, h4, h5, h6, k9, f9, hk6, hf9, hx3, hx4⟩
    · subst ha h1 h2 h4 h5 h6
      clear hdu hdx
      have h9 : dd = 0 ∨ dd = 1 ∨ dd = 2 ∨ dd = 3 ∨ dd = 4 ∨ dd = 5 ∨ dd = 6 ∨ dd = 7 := by omega
      rcases h9 with h9 | h9 | h9 | h9 | h9 | h9 | h9 | h9
      · subst h9
        exact clsK (J := [0, 1, 6]) (J1 := [14]) (ic_split _ (by decide +kernel)) (List.isPerm_iff.mp (by decide +kernel)) (fun sz => k_X7_keep l dC dI cI cZ cS 40000 F.1 F.2.1 (F.2.2.2.2.2.1 0) (F.2.2.2.2.2.2 0) (F.2.2.1 0) (F.2.2.2.1 0) (F.2.2.2.2.1 0) sz Sh ik (wRef wy) ((T 0).1) ((T 0).2.1) ((T 0).2.2.1) ((T 0).2.2.2.1) ((T 0).2.2.2.2) x1 x2 x3 x4 hd _ e1) hu (fun r v hv => by
          obtain ⟨hv, q1 | q1 | q1⟩ := hv
          · obtain ⟨_, rfl⟩ := q1
            exact ⟨hv, Or.inl ⟨ik, nw, kp, md, T, Y, wy, rfl, rfl, ⟨⟨E, O⟩, hk, hT, hw⟩, hb⟩⟩
          · exact absurd (hv.symm.trans q1.1) (show ¬ (-1 : Int32) = 0 by decide)
          · exact absurd (hv.symm.trans q1.1) (show ¬ (-1 : Int32) = 0 by decide))
      · subst h9
        exact clsK (J := [0, 1, 7]) (J1 := [15]) (ic_split _ (by decide +kernel)) (List.isPerm_iff.mp (by decide +kernel)) (fun sz => k_X7_keep l dC dI cI cZ cS 40000 F.1 F.2.1 (F.2.2.2.2.2.1 1) (F.2.2.2.2.2.2 1) (F.2.2.1 0) (F.2.2.2.1 0) (F.2.2.2.2.1 0) sz Sh ik (wRef wy) ((T 1).1) ((T 1).2.1) ((T 1).2.2.1) ((T 1).2.2.2.1) ((T 1).2.2.2.2) x1 x2 x3 x4 hd _ e1) hu (fun r v hv => by
          obtain ⟨hv, q1 | q1 | q1⟩ := hv
          · obtain ⟨_, rfl⟩ := q1
            exact ⟨hv, Or.inl ⟨ik, nw, kp, md, T, Y, wy, rfl, rfl, ⟨⟨E, O⟩, hk, hT, hw⟩, hb⟩⟩
          · exact absurd (hv.symm.trans q1.1) (show ¬ (-1 : Int32) = 0 by decide)
          · exact absurd (hv.symm.trans q1.1) (show ¬ (-1 : Int32) = 0 by decide))
      · subst h9
        exact clsK (J := [0, 1, 8]) (J1 := [16]) (ic_split _ (by decide +kernel)) (List.isPerm_iff.mp (by decide +kernel)) (fun sz => k_X7_keep l dC dI cI cZ cS 40000 F.1 F.2.1 (F.2.2.2.2.2.1 2) (F.2.2.2.2.2.2 2) (F.2.2.1 0) (F.2.2.2.1 0) (F.2.2.2.2.1 0) sz Sh ik (wRef wy) ((T 2).1) ((T 2).2.1) ((T 2).2.2.1) ((T 2).2.2.2.1) ((T 2).2.2.2.2) x1 x2 x3 x4 hd _ e1) hu (fun r v hv => by
          obtain ⟨hv, q1 | q1 | q1⟩ := hv
          · obtain ⟨_, rfl⟩ := q1
            exact ⟨hv, Or.inl ⟨ik, nw, kp, md, T, Y, wy, rfl, rfl, ⟨⟨E, O⟩, hk, hT, hw⟩, hb⟩⟩
          · exact absurd (hv.symm.trans q1.1) (show ¬ (-1 : Int32) = 0 by decide)
          · exact absurd (hv.symm.trans q1.1) (show ¬ (-1 : Int32) = 0 by decide))
      · subst h9
        exact clsK (J := [0, 1, 9]) (J1 := [17]) (ic_split _ (by decide +kernel)) (List.isPerm_iff.mp (by decide +kernel)) (fun sz => k_X7_keep l dC dI cI cZ cS 40000 F.1 F.2.1 (F.2.2.2.2.2.1 3) (F.2.2.2.2.2.2 3) (F.2.2.1 0) (F.2.2.2.1 0) (F.2.2.2.2.1 0) sz Sh ik (wRef wy) ((T 3).1) ((T 3).2.1) ((T 3).2.2.1) ((T 3).2.2.2.1) ((T 3).2.2.2.2) x1 x2 x3 x4 hd _ e1) hu (fun r v hv => by
          obtain ⟨hv, q1 | q1 | q1⟩ := hv
          · obtain ⟨_, rfl⟩ := q1
            exact ⟨hv, Or.inl ⟨ik, nw, kp, md, T, Y, wy, rfl, rfl, ⟨⟨E, O⟩, hk, hT, hw⟩, hb⟩⟩
          · exact absurd (hv.symm.trans q1.1) (show ¬ (-1 : Int32) = 0 by decide)
          · exact absurd (hv.symm.trans q1.1) (show ¬ (-1 : Int32) = 0 by decide))
      · subst h9
        exact clsK (J := [0, 1, 10]) (J1 := [18]) (ic_split _ (by decide +kernel)) (List.isPerm_iff.mp (by decide +kernel)) (fun sz => k_X7_keep l dC dI cI cZ cS 40000 F.1 F.2.1 (F.2.2.2.2.2.1 4) (F.2.2.2.2.2.2 4) (F.2.2.1 0) (F.2.2.2.1 0) (F.2.2.2.2.1 0) sz Sh ik (wRef wy) ((T 4).1) ((T 4).2.1) ((T 4).2.2.1) ((T 4).2.2.2.1) ((T 4).2.2.2.2) x1 x2 x3 x4 hd _ e1) hu (fun r v hv => by
          obtain ⟨hv, q1 | q1 | q1⟩ := hv
          · obtain ⟨_, rfl⟩ := q1
            exact ⟨hv, Or.inl ⟨ik, nw, kp, md, T, Y, wy, rfl, rfl, ⟨⟨E, O⟩, hk, hT, hw⟩, hb⟩⟩
          · exact absurd (hv.symm.trans q1.1) (show ¬ (-1 : Int32) = 0 by decide)
          · exact absurd (hv.symm.trans q1.1) (show ¬ (-1 : Int32) = 0 by decide))
      · subst h9
        exact clsK (J := [0, 1, 11]) (J1 := [19]) (ic_split _ (by decide +kernel)) (List.isPerm_iff.mp (by decide +kernel)) (fun sz => k_X7_keep l dC dI cI cZ cS 40000 F.1 F.2.1 (F.2.2.2.2.2.1 5) (F.2.2.2.2.2.2 5) (F.2.2.1 0) (F.2.2.2.1 0) (F.2.2.2.2.1 0) sz Sh ik (wRef wy) ((T 5).1) ((T 5).2.1) ((T 5).2.2.1) ((T 5).2.2.2.1) ((T 5).2.2.2.2) x1 x2 x3 x4 hd _ e1) hu (fun r v hv => by
          obtain ⟨hv, q1 | q1 | q1⟩ := hv
          · obtain ⟨_, rfl⟩ := q1
            exact ⟨hv, Or.inl ⟨ik, nw, kp, md, T, Y, wy, rfl, rfl, ⟨⟨E, O⟩, hk, hT, hw⟩, hb⟩⟩
          · exact absurd (hv.symm.trans q1.1) (show ¬ (-1 : Int32) = 0 by decide)
          · exact absurd (hv.symm.trans q1.1) (show ¬ (-1 : Int32) = 0 by decide))
      · subst h9
        exact clsK (J := [0, 1, 12]) (J1 := [20]) (ic_split _ (by decide +kernel)) (List.isPerm_iff.mp (by decide +kernel)) (fun sz => k_X7_keep l dC dI cI cZ cS 40000 F.1 F.2.1 (F.2.2.2.2.2.1 6) (F.2.2.2.2.2.2 6) (F.2.2.1 0) (F.2.2.2.1 0) (F.2.2.2.2.1 0) sz Sh ik (wRef wy) ((T 6).1) ((T 6).2.1) ((T 6).2.2.1) ((T 6).2.2.2.1) ((T 6).2.2.2.2) x1 x2 x3 x4 hd _ e1) hu (fun r v hv => by
          obtain ⟨hv, q1 | q1 | q1⟩ := hv
          · obtain ⟨_, rfl⟩ := q1
            exact ⟨hv, Or.inl ⟨ik, nw, kp, md, T, Y, wy, rfl, rfl, ⟨⟨E, O⟩, hk, hT, hw⟩, hb⟩⟩
          · exact absurd (hv.symm.trans q1.1) (show ¬ (-1 : Int32) = 0 by decide)
          · exact absurd (hv.symm.trans q1.1) (show ¬ (-1 : Int32) = 0 by decide))
      · subst h9
        exact clsK (J := [0, 1, 13]) (J1 := [21]) (ic_split _ (by decide +kernel)) (List.isPerm_iff.mp (by decide +kernel)) (fun sz => k_X7_keep l dC dI cI cZ cS 40000 F.1 F.2.1 (F.2.2.2.2.2.1 7) (F.2.2.2.2.2.2 7) (F.2.2.1 0) (F.2.2.2.1 0) (F.2.2.2.2.1 0) sz Sh ik (wRef wy) ((T 7).1) ((T 7).2.1) ((T 7).2.2.1) ((T 7).2.2.2.1) ((T 7).2.2.2.2) x1 x2 x3 x4 hd _ e1) hu (fun r v hv => by
          obtain ⟨hv, q1 | q1 | q1⟩ := hv
          · obtain ⟨_, rfl⟩ := q1
            exact ⟨hv, Or.inl ⟨ik, nw, kp, md, T, Y, wy, rfl, rfl, ⟨⟨E, O⟩, hk, hT, hw⟩, hb⟩⟩
          · exact absurd (hv.symm.trans q1.1) (show ¬ (-1 : Int32) = 0 by decide)
          · exact absurd (hv.symm.trans q1.1) (show ¬ (-1 : Int32) = 0 by decide))
    · subst ha h1 h2 h4 h5 h6
      have e9 : d9 = dd := hdu d9 hd9 hx1
      subst e9
      subst hx1
      clear hdx
      have hFr : SFr (nI d9) (f 5) (f 6) (f 7) (f 8) (upd (f 5) d9 0) (f 6) (f 7) (f 8) := fun e he hne => ⟨pk_un (fun q => hne (by rw [q])), rfl, rfl, fun _ _ => rfl⟩
      have hno : ∀ k, k < 8 → nI d9 ≠ nI k → k ≠ d9 := fun k _ hne q => hne (by rw [q])
      have hT' := relT (f' := (updF (updF (updF f 5 (upd (f 5) d9 0)) 9 (upd (f 9) d9 x3)) 10 (upd (f 10) d9 x4))) (dd := d9) (q' := ((T d9).1, 0, none, (T d9).2.2.2.1, 0)) (y' := none) hdu (fun _ => rfl) hT hFr (fun k h1 h2 => pk_un (hno k h1 h2)) (fun k h1 h2 => pk_un (hno k h1 h2)) (fun _ => ⟨⟨pk_us, Or.inl rfl, fun q => absurd q (show ¬ (0 : Int32) = 2 by decide)⟩, fun q => absurd q (show ¬ (0 : Int32) = 1 by decide), fun _ => ⟨rfl, rfl⟩⟩) (fun hg => absurd (giT hd9 (by omega)) hg)
      clear hdu hFr hno
      have h9 : d9 = 0 ∨ d9 = 1 ∨ d9 = 2 ∨ d9 = 3 ∨ d9 = 4 ∨ d9 = 5 ∨ d9 = 6 ∨ d9 = 7 := by omega
      rcases h9 with h9 | h9 | h9 | h9 | h9 | h9 | h9 | h9
      · subst h9
        exact clsK (J := [0, 1, 6]) (J1 := [14]) (ic_split _ (by decide +kernel)) (List.isPerm_iff.mp (by decide +kernel)) (fun sz => k_X7_keep l dC dI cI cZ cS 40000 F.1 F.2.1 (F.2.2.2.2.2.1 0) (F.2.2.2.2.2.2 0) (F.2.2.1 0) (F.2.2.2.1 0) (F.2.2.2.2.1 0) sz Sh ik (wRef wy) ((T 0).1) ((T 0).2.1) ((T 0).2.2.1) ((T 0).2.2.2.1) ((T 0).2.2.2.2) (nI 0) x2 x3 x4 hd _ e1) hu (fun r v hv => by
          obtain ⟨hv, q1 | q1 | q1⟩ := hv
          · exact absurd hv q1.1
          · obtain ⟨_, _, rfl⟩ := q1
            exact ⟨hv, Or.inr ⟨ik, nw, kp, md, updT T 0 ((T 0).1, 0, none, (T 0).2.2.2.1, 0), updY Y 0 none, wy, rfl, rfl, ⟨⟨E, O⟩, hk, hT', hw⟩, hb⟩⟩
          · exact absurd hx2 q1.2.1)
      · subst h9
        exact clsK (J := [0, 1, 7]) (J1 := [15]) (ic_split _ (by decide +kernel)) (List.isPerm_iff.mp (by decide +kernel)) (fun sz => k_X7_keep l dC dI cI cZ cS 40000 F.1 F.2.1 (F.2.2.2.2.2.1 1) (F.2.2.2.2.2.2 1) (F.2.2.1 0) (F.2.2.2.1 0) (F.2.2.2.2.1 0) sz Sh ik (wRef wy) ((T 1).1) ((T 1).2.1) ((T 1).2.2.1) ((T 1).2.2.2.1) ((T 1).2.2.2.2) (nI 1) x2 x3 x4 hd _ e1) hu (fun r v hv => by
          obtain ⟨hv, q1 | q1 | q1⟩ := hv
          · exact absurd hv q1.1
          · obtain ⟨_, _, rfl⟩ := q1
            exact ⟨hv, Or.inr ⟨ik, nw, kp, md, updT T 1 ((T 1).1, 0, none, (T 1).2.2.2.1, 0), updY Y 1 none, wy, rfl, rfl, ⟨⟨E, O⟩, hk, hT', hw⟩, hb⟩⟩
          · exact absurd hx2 q1.2.1)
      · subst h9
        exact clsK (J := [0, 1, 8]) (J1 := [16]) (ic_split _ (by decide +kernel)) (List.isPerm_iff.mp (by decide +kernel)) (fun sz => k_X7_keep l dC dI cI cZ cS 40000 F.1 F.2.1 (F.2.2.2.2.2.1 2) (F.2.2.2.2.2.2 2) (F.2.2.1 0) (F.2.2.2.1 0) (F.2.2.2.2.1 0) sz Sh ik (wRef wy) ((T 2).1) ((T 2).2.1) ((T 2).2.2.1) ((T 2).2.2.2.1) ((T 2).2.2.2.2) (nI 2) x2 x3 x4 hd _ e1) hu (fun r v hv => by
          obtain ⟨hv, q1 | q1 | q1⟩ := hv
          · exact absurd hv q1.1
          · obtain ⟨_, _, rfl⟩ := q1
            exact ⟨hv, Or.inr ⟨ik, nw, kp, md, updT T 2 ((T 2).1, 0, none, (T 2).2.2.2.1, 0), updY Y 2 none, wy, rfl, rfl, ⟨⟨E, O⟩, hk, hT', hw⟩, hb⟩⟩
          · exact absurd hx2 q1.2.1)
      · subst h9
        exact clsK (J := [0, 1, 9]) (J1 := [17]) (ic_split _ (by decide +kernel)) (List.isPerm_iff.mp (by decide +kernel)) (fun sz => k_X7_keep l dC dI cI cZ cS 40000 F.1 F.2.1 (F.2.2.2.2.2.1 3) (F.2.2.2.2.2.2 3) (F.2.2.1 0) (F.2.2.2.1 0) (F.2.2.2.2.1 0) sz Sh ik (wRef wy) ((T 3).1) ((T 3).2.1) ((T 3).2.2.1) ((T 3).2.2.2.1) ((T 3).2.2.2.2) (nI 3) x2 x3 x4 hd _ e1) hu (fun r v hv => by
          obtain ⟨hv, q1 | q1 | q1⟩ := hv
          · exact absurd hv q1.1
          · obtain ⟨_, _, rfl⟩ := q1
            exact ⟨hv, Or.inr ⟨ik, nw, kp, md, updT T 3 ((T 3).1, 0, none, (T 3).2.2.2.1, 0), updY Y 3 none, wy, rfl, rfl, ⟨⟨E, O⟩, hk, hT', hw⟩, hb⟩⟩
          · exact absurd hx2 q1.2.1)
      · subst h9
        exact clsK (J := [0, 1, 10]) (J1 := [18]) (ic_split _ (by decide +kernel)) (List.isPerm_iff.mp (by decide +kernel)) (fun sz => k_X7_keep l dC dI cI cZ cS 40000 F.1 F.2.1 (F.2.2.2.2.2.1 4) (F.2.2.2.2.2.2 4) (F.2.2.1 0) (F.2.2.2.1 0) (F.2.2.2.2.1 0) sz Sh ik (wRef wy) ((T 4).1) ((T 4).2.1) ((T 4).2.2.1) ((T 4).2.2.2.1) ((T 4).2.2.2.2) (nI 4) x2 x3 x4 hd _ e1) hu (fun r v hv => by
          obtain ⟨hv, q1 | q1 | q1⟩ := hv
          · exact absurd hv q1.1
          · obtain ⟨_, _, rfl⟩ := q1
            exact ⟨hv, Or.inr ⟨ik, nw, kp, md, updT T 4 ((T 4).1, 0, none, (T 4).2.2.2.1, 0), updY Y 4 none, wy, rfl, rfl, ⟨⟨E, O⟩, hk, hT', hw⟩, hb⟩⟩
          · exact absurd hx2 q1.2.1)
      · subst h9
        exact clsK (J := [0, 1, 11]) (J1 := [19]) (ic_split _ (by decide +kernel)) (List.isPerm_iff.mp (by decide +kernel)) (fun sz => k_X7_keep l dC dI cI cZ cS 40000 F.1 F.2.1 (F.2.2.2.2.2.1 5) (F.2.2.2.2.2.2 5) (F.2.2.1 0) (F.2.2.2.1 0) (F.2.2.2.2.1 0) sz Sh ik (wRef wy) ((T 5).1) ((T 5).2.1) ((T 5).2.2.1) ((T 5).2.2.2.1) ((T 5).2.2.2.2) (nI 5) x2 x3 x4 hd _ e1) hu (fun r v hv => by
          obtain ⟨hv, q1 | q1 | q1⟩ := hv
          · exact absurd hv q1.1
          · obtain ⟨_, _, rfl⟩ := q1
            exact ⟨hv, Or.inr ⟨ik, nw, kp, md, updT T 5 ((T 5).1, 0, none, (T 5).2.2.2.1, 0), updY Y 5 none, wy, rfl, rfl, ⟨⟨E, O⟩, hk, hT', hw⟩, hb⟩⟩
          · exact absurd hx2 q1.2.1)
      · subst h9
        exact clsK (J := [0, 1, 12]) (J1 := [20]) (ic_split _ (by decide +kernel)) (List.isPerm_iff.mp (by decide +kernel)) (fun sz => k_X7_keep l dC dI cI cZ cS 40000 F.1 F.2.1 (F.2.2.2.2.2.1 6) (F.2.2.2.2.2.2 6) (F.2.2.1 0) (F.2.2.2.1 0) (F.2.2.2.2.1 0) sz Sh ik (wRef wy) ((T 6).1) ((T 6).2.1) ((T 6).2.2.1) ((T 6).2.2.2.1) ((T 6).2.2.2.2) (nI 6) x2 x3 x4 hd _ e1) hu (fun r v hv => by
          obtain ⟨hv, q1 | q1 | q1⟩ := hv
          · exact absurd hv q1.1
          · obtain ⟨_, _, rfl⟩ := q1
            exact ⟨hv, Or.inr ⟨ik, nw, kp, md, updT T 6 ((T 6).1, 0, none, (T 6).2.2.2.1, 0), updY Y 6 none, wy, rfl, rfl, ⟨⟨E, O⟩, hk, hT', hw⟩, hb⟩⟩
          · exact absurd hx2 q1.2.1)
      · subst h9
        exact clsK (J := [0, 1, 13]) (J1 := [21]) (ic_split _ (by decide +kernel)) (List.isPerm_iff.mp (by decide +kernel)) (fun sz => k_X7_keep l dC dI cI cZ cS 40000 F.1 F.2.1 (F.2.2.2.2.2.1 7) (F.2.2.2.2.2.2 7) (F.2.2.1 0) (F.2.2.2.1 0) (F.2.2.2.2.1 0) sz Sh ik (wRef wy) ((T 7).1) ((T 7).2.1) ((T 7).2.2.1) ((T 7).2.2.2.1) ((T 7).2.2.2.2) (nI 7) x2 x3 x4 hd _ e1) hu (fun r v hv => by
          obtain ⟨hv, q1 | q1 | q1⟩ := hv
          · exact absurd hv q1.1
          · obtain ⟨_, _, rfl⟩ := q1
            exact ⟨hv, Or.inr ⟨ik, nw, kp, md, updT T 7 ((T 7).1, 0, none, (T 7).2.2.2.1, 0), updY Y 7 none, wy, rfl, rfl, ⟨⟨E, O⟩, hk, hT', hw⟩, hb⟩⟩
          · exact absurd hx2 q1.2.1)
    · subst ha h1 h2 h4 h5 h6
      have e9 : d9 = dd := hdu d9 hd9 hx1
      subst e9
      subst hx1
      clear hdx
      have hFr : SFr (nI d9) (f 5) (f 6) (f 7) (f 8) (upd (f 5) d9 1) (f 6) (f 7) (f 8) := fun e he hne => ⟨pk_un (fun q => hne (by rw [q])), rfl, rfl, fun _ _ => rfl⟩
      have hno : ∀ k, k < 8 → nI d9 ≠ nI k → k ≠ d9 := fun k _ hne q => hne (by rw [q])
      have hT' := fun w9 => relT (f' := (updF (updF (updF f 5 (upd (f 5) d9 1)) 9 (upd (f 9) d9 x3)) 10 (upd (f 10) d9 x4))) (dd := d9) (q' := ((T d9).1, 1, some w9, (T d9).2.2.2.1, 0)) (y' := some (w9, x3, x4)) hdu (fun _ => rfl) hT hFr (fun k h1 h2 => pk_un (hno k h1 h2)) (fun k h1 h2 => pk_un (hno k h1 h2)) (fun _ => ⟨⟨pk_us, Or.inr (Or.inl rfl), fun q => absurd q (show ¬ (1 : Int32) = 2 by decide)⟩, fun _ => ⟨w9, k9, f9, hk6, hf9, rfl, by rw [hx3, hx4], by rw [← hx3]; exact pk_us, by rw [← hx4]; exact pk_us⟩, fun q => absurd rfl q⟩) (fun hg => absurd (giT hd9 (by omega)) hg)
      clear hdu hFr hno
      have h9 : d9 = 0 ∨ d9 = 1 ∨ d9 = 2 ∨ d9 = 3 ∨ d9 = 4 ∨ d9 = 5 ∨ d9 = 6 ∨ d9 = 7 := by omega
      rcases h9 with h9 | h9 | h9 | h9 | h9 | h9 | h9 | h9
      · subst h9
        exact clsK (J := [0, 1, 6]) (J1 := [14]) (ic_split _ (by decide +kernel)) (List.isPerm_iff.mp (by decide +kernel)) (fun sz => k_X7_keep l dC dI cI cZ cS 40000 F.1 F.2.1 (F.2.2.2.2.2.1 0) (F.2.2.2.2.2.2 0) (F.2.2.1 0) (F.2.2.2.1 0) (F.2.2.2.2.1 0) sz Sh ik (wRef wy) ((T 0).1) ((T 0).2.1) ((T 0).2.2.1) ((T 0).2.2.2.1) ((T 0).2.2.2.2) (nI 0) x2 x3 x4 hd _ e1) hu (fun r v hv => by
          obtain ⟨hv, q1 | q1 | q1⟩ := hv
          · exact absurd hv q1.1
          · exact absurd q1.2.1 hx2
          · obtain ⟨_, _, w9, rfl⟩ := q1
            exact ⟨hv, Or.inr ⟨ik, nw, kp, md, updT T 0 ((T 0).1, 1, some w9, (T 0).2.2.2.1, 0), updY Y 0 (some (w9, x3, x4)), wy, rfl, rfl, ⟨⟨E, O⟩, hk, hT' w9, hw⟩, hb⟩⟩)
      · subst h9
        exact clsK (J := [0, 1, 7]) (J1 := [15]) (ic_split _ (by decide +kernel)) (List.isPerm_iff.mp (by decide +kernel)) (fun sz => k_X7_keep l dC dI cI cZ cS 40000 F.1 F.2.1 (F.2.2.2.2.2.1 1) (F.2.2.2.2.2.2 1) (F.2.2.1 0) (F.2.2.2.1 0) (F.2.2.2.2.1 0) sz Sh ik (wRef wy) ((T 1).1) ((T 1).2.1) ((T 1).2.2.1) ((T 1).2.2.2.1) ((T 1).2.2.2.2) (nI 1) x2 x3 x4 hd _ e1) hu (fun r v hv => by
          obtain ⟨hv, q1 | q1 | q1⟩ := hv
          · exact absurd hv q1.1
          · exact absurd q1.2.1 hx2
          · obtain ⟨_, _, w9, rfl⟩ := q1
            exact ⟨hv, Or.inr ⟨ik, nw, kp, md, updT T 1 ((T 1).1, 1, some w9, (T 1).2.2.2.1, 0), updY Y 1 (some (w9, x3, x4)), wy, rfl, rfl, ⟨⟨E, O⟩, hk, hT' w9, hw⟩, hb⟩⟩)
      · subst h9
        exact clsK (J := [0, 1, 8]) (J1 := [16]) (ic_split _ (by decide +kernel)) (List.isPerm_iff.mp (by decide +kernel)) (fun sz => k_X7_keep l dC dI cI cZ cS 40000 F.1 F.2.1 (F.2.2.2.2.2.1 2) (F.2.2.2.2.2.2 2) (F.2.2.1 0) (F.2.2.2.1 0) (F.2.2.2.2.1 0) sz Sh ik (wRef wy) ((T 2).1) ((T 2).2.1) ((T 2).2.2.1) ((T 2).2.2.2.1) ((T 2).2.2.2.2) (nI 2) x2 x3 x4 hd _ e1) hu (fun r v hv => by
          obtain ⟨hv, q1 | q1 | q1⟩ := hv
          · exact absurd hv q1.1
          · exact absurd q1.2.1 hx2
          · obtain ⟨_, _, w9, rfl⟩ := q1
            exact ⟨hv, Or.inr ⟨ik, nw, kp, md, updT T 2 ((T 2).1, 1, some w9, (T 2).2.2.2.1, 0), updY Y 2 (some (w9, x3, x4)), wy, rfl, rfl, ⟨⟨E, O⟩, hk, hT' w9, hw⟩, hb⟩⟩)
      · subst h9
        exact clsK (J := [0, 1, 9]) (J1 := [17]) (ic_split _ (by decide +kernel)) (List.isPerm_iff.mp (by decide +kernel)) (fun sz => k_X7_keep l dC dI cI cZ cS 40000 F.1 F.2.1 (F.2.2.2.2.2.1 3) (F.2.2.2.2.2.2 3) (F.2.2.1 0) (F.2.2.2.1 0) (F.2.2.2.2.1 0) sz Sh ik (wRef wy) ((T 3).1) ((T 3).2.1) ((T 3).2.2.1) ((T 3).2.2.2.1) ((T 3).2.2.2.2) (nI 3) x2 x3 x4 hd _ e1) hu (fun r v hv => by
          obtain ⟨hv, q1 | q1 | q1⟩ := hv
          · exact absurd hv q1.1
          · exact absurd q1.2.1 hx2
          · obtain ⟨_, _, w9, rfl⟩ := q1
            exact ⟨hv, Or.inr ⟨ik, nw, kp, md, updT T 3 ((T 3).1, 1, some w9, (T 3).2.2.2.1, 0), updY Y 3 (some (w9, x3, x4)), wy, rfl, rfl, ⟨⟨E, O⟩, hk, hT' w9, hw⟩, hb⟩⟩)
      · subst h9
        exact clsK (J := [0, 1, 10]) (J1 := [18]) (ic_split _ (by decide +kernel)) (List.isPerm_iff.mp (by decide +kernel)) (fun sz => k_X7_keep l dC dI cI cZ cS 40000 F.1 F.2.1 (F.2.2.2.2.2.1 4) (F.2.2.2.2.2.2 4) (F.2.2.1 0) (F.2.2.2.1 0) (F.2.2.2.2.1 0) sz Sh ik (wRef wy) ((T 4).1) ((T 4).2.1) ((T 4).2.2.1) ((T 4).2.2.2.1) ((T 4).2.2.2.2) (nI 4) x2 x3 x4 hd _ e1) hu (fun r v hv => by
          obtain ⟨hv, q1 | q1 | q1⟩ := hv
          · exact absurd hv q1.1
          · exact absurd q1.2.1 hx2
          · obtain ⟨_, _, w9, rfl⟩ := q1
            exact ⟨hv, Or.inr ⟨ik, nw, kp, md, updT T 4 ((T 4).1, 1, some w9, (T 4).2.2.2.1, 0), updY Y 4 (some (w9, x3, x4)), wy, rfl, rfl, ⟨⟨E, O⟩, hk, hT' w9, hw⟩, hb⟩⟩)
      · subst h9
        exact clsK (J := [0, 1, 11]) (J1 := [19]) (ic_split _ (by decide +kernel)) (List.isPerm_iff.mp (by decide +kernel)) (fun sz => k_X7_keep l dC dI cI cZ cS 40000 F.1 F.2.1 (F.2.2.2.2.2.1 5) (F.2.2.2.2.2.2 5) (F.2.2.1 0) (F.2.2.2.1 0) (F.2.2.2.2.1 0) sz Sh ik (wRef wy) ((T 5).1) ((T 5).2.1) ((T 5).2.2.1) ((T 5).2.2.2.1) ((T 5).2.2.2.2) (nI 5) x2 x3 x4 hd _ e1) hu (fun r v hv => by
          obtain ⟨hv, q1 | q1 | q1⟩ := hv
          · exact absurd hv q1.1
          · exact absurd q1.2.1 hx2
          · obtain ⟨_, _, w9, rfl⟩ := q1
            exact ⟨hv, Or.inr ⟨ik, nw, kp, md, updT T 5 ((T 5).1, 1, some w9, (T 5).2.2.2.1, 0), updY Y 5 (some (w9, x3, x4)), wy, rfl, rfl, ⟨⟨E, O⟩, hk, hT' w9, hw⟩, hb⟩⟩)
      · subst h9
        exact clsK (J := [0, 1, 12]) (J1 := [20]) (ic_split _ (by decide +kernel)) (List.isPerm_iff.mp (by decide +kernel)) (fun sz => k_X7_keep l dC dI cI cZ cS 40000 F.1 F.2.1 (F.2.2.2.2.2.1 6) (F.2.2.2.2.2.2 6) (F.2.2.1 0) (F.2.2.2.1 0) (F.2.2.2.2.1 0) sz Sh ik (wRef wy) ((T 6).1) ((T 6).2.1) ((T 6).2.2.1) ((T 6).2.2.2.1) ((T 6).2.2.2.2) (nI 6) x2 x3 x4 hd _ e1) hu (fun r v hv => by
          obtain ⟨hv, q1 | q1 | q1⟩ := hv
          · exact absurd hv q1.1
          · exact absurd q1.2.1 hx2
          · obtain ⟨_, _, w9, rfl⟩ := q1
            exact ⟨hv, Or.inr ⟨ik, nw, kp, md, updT T 6 ((T 6).1, 1, some w9, (T 6).2.2.2.1, 0), updY Y 6 (some (w9, x3, x4)), wy, rfl, rfl, ⟨⟨E, O⟩, hk, hT' w9, hw⟩, hb⟩⟩)
      · subst h9
        exact clsK (J := [0, 1, 13]) (J1 := [21]) (ic_split _ (by decide +kernel)) (List.isPerm_iff.mp (by decide +kernel)) (fun sz => k_X7_keep l dC dI cI cZ cS 40000 F.1 F.2.1 (F.2.2.2.2.2.1 7) (F.2.2.2.2.2.2 7) (F.2.2.1 0) (F.2.2.2.1 0) (F.2.2.2.2.1 0) sz Sh ik (wRef wy) ((T 7).1) ((T 7).2.1) ((T 7).2.2.1) ((T 7).2.2.2.1) ((T 7).2.2.2.2) (nI 7) x2 x3 x4 hd _ e1) hu (fun r v hv => by
          obtain ⟨hv, q1 | q1 | q1⟩ := hv
          · exact absurd hv q1.1
          · exact absurd q1.2.1 hx2
          · obtain ⟨_, _, w9, rfl⟩ := q1
            exact ⟨hv, Or.inr ⟨ik, nw, kp, md, updT T 7 ((T 7).1, 1, some w9, (T 7).2.2.2.1, 0), updY Y 7 (some (w9, x3, x4)), wy, rfl, rfl, ⟨⟨E, O⟩, hk, hT' w9, hw⟩, hb⟩⟩)
end CASES
