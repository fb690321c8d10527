/-! ===== calls, in the whole world ===== -/
section CASES
variable {l : Launch} {dC : Nat → ClassId} {dI : Nat → Nat → Nat} {cI cZ cS : ClassId} {F : FX} {Sh : Nat → Option Nat} {A : Nat → Nat} {R0 : va_W}
theorem case_put (hSh : ∀ k, k < 8 → Sh k = some (F.2.2.2.2.2.1 k)) {x1 x2 x3 : Int32} : CASE l (dC, dI) cI cZ cS F Sh A R0 yX7_put yX8_put wsX7_put wsX8_put [.int x1, .int x2, .int x3] := by
  rintro b WX ⟨ik, nw, kp, md, T, Y, wy, g, f, G, hu, hR, hb⟩
  have hR0 := hR
  obtain ⟨⟨E, O⟩, hk, hT, hw⟩ := hR
  obtain ⟨dd, hd8, hd, hdu, hdx⟩ := pick hSh x1
  have hTd : ∀ e, e < 8 → x1 = nI e → ShN (T dd).1 (T dd).2.1 (T dd).2.2.2.1 (T dd).2.2.2.2 (f 5) (f 6) (f 7) (f 8) e := fun e he hx => by
    have := hdu e he hx
    subst this
    exact (hT e hd8).1
  obtain ⟨a, nums', el', e1, e2, hS, hFr⟩ := r_put (N := 40000) hTd (Sh := Sh) (nums := (T dd).1) (hold := (T dd).2.1) (sort := (T dd).2.2.2.1) (size := (T dd).2.2.2.2) (x1 := x1) (x2 := x2) (x3 := x3) (kp := (f 5)) (so := (f 6)) (sz := (f 7)) (el := (f 8))
  have hT' := relT (f' := (updF f 8 ((a, el').2))) (q' := (nums', (T dd).2.1, (T dd).2.2.1, (T dd).2.2.2.1, (T dd).2.2.2.2)) (y' := Y dd) hdu hdx hT hFr (fun _ _ _ => rfl) (fun _ _ _ => rfl) (fun hx => ⟨hS dd hd8 hx, (hT dd hd8).2.1, (hT dd hd8).2.2⟩) (fun hg => ⟨by
    have h := t_put hg e1
    rw [(Prod.mk.inj h).2], rfl⟩)
  refine ⟨a, (Mid cI cZ cS F Sh A R0 g f g (updF f 8 ((a, el').2)) b), b, { frames := 1, cells := 0, slots := 0, locals := 21 }, _, ?_, ?_, ?_, fun u hm => ⟨midR hm, modW (J := [0, 5, 6, 7, 8]) (g' := g) (f' := (updF f 8 ((a, el').2))) (im_split _ (by decide +kernel)) (fun sz => k_X8_put l dC dI cI cZ cS 40000 (A 0) (A 5) (A 6) (A 7) (A 8) (mFs A g) sz (f 5) (f 6) (f 7) (f 8) x1 x2 x3 rfl rfl rfl rfl (a, el') e2) rfl hm⟩⟩
  · exact ⟨Nat.le_of_ble_eq_true rfl, Nat.le_of_ble_eq_true rfl, by cases b <;> exact Nat.le_of_ble_eq_true rfl, by cases b <;> exact Nat.le_of_ble_eq_true rfl⟩
  · exact ⟨Nat.le_of_ble_eq_true rfl, Nat.le_of_ble_eq_true rfl, rfl, rfl⟩
  · clear hTd hdu hdx hS hFr
    have h9 : dd = 0 ∨ dd = 1 ∨ dd = 2 ∨ dd = 3 ∨ dd = 4 ∨ dd = 5 ∨ dd = 6 ∨ dd = 7 := by omega
    rcases h9 with h9 | h9 | h9 | h9 | h9 | h9 | h9 | h9
    · subst h9
      exact clsW (J := [0, 1, 6]) (ic_split _ (by decide +kernel)) (fun sz => k_X7_put l dC dI cI cZ cS 40000 F.1 F.2.1 (F.2.2.2.2.2.1 0) (F.2.2.2.2.2.2 0) (F.2.2.1 0) (F.2.2.2.1 0) (F.2.2.2.2.1 0) sz Sh ik (wRef wy) ((T 0).1) ((T 0).2.1) ((T 0).2.2.1) ((T 0).2.2.2.1) ((T 0).2.2.2.2) x1 x2 x3 hd _ e1) hu (fun r v hv => ⟨hv, ik, nw, kp, md, updT T 0 (nums', (T 0).2.1, (T 0).2.2.1, (T 0).2.2.2.1, (T 0).2.2.2.2), updY Y 0 (Y 0), wy, rfl, rfl, ⟨⟨E, O⟩, hk, hT', hw⟩, hb⟩)
    · subst h9
      exact clsW (J := [0, 1, 7]) (ic_split _ (by decide +kernel)) (fun sz => k_X7_put l dC dI cI cZ cS 40000 F.1 F.2.1 (F.2.2.2.2.2.1 1) (F.2.2.2.2.2.2 1) (F.2.2.1 0) (F.2.2.2.1 0) (F.2.2.2.2.1 0) sz Sh ik (wRef wy) ((T 1).1) ((T 1).2.1) ((T 1).2.2.1) ((T 1).2.2.2.1) ((T 1).2.2.2.2) x1 x2 x3 hd _ e1) hu (fun r v hv => ⟨hv, ik, nw, kp, md, updT T 1 (nums', (T 1).2.1, (T 1).2.2.1, (T 1).2.2.2.1, (T 1).2.2.2.2), updY Y 1 (Y 1), wy, rfl, rfl, ⟨⟨E, O⟩, hk, hT', hw⟩, hb⟩)
    · subst h9
      exact clsW (J := [0, 1, 8]) (ic_split _ (by decide +kernel)) (fun sz => k_X7_put l dC dI cI cZ cS 40000 F.1 F.2.1 (F.2.2.2.2.2.1 2) (F.2.2.2.2.2.2 2) (F.2.2.1 0) (F.2.2.2.1 0) (F.2.2.2.2.1 0) sz Sh ik (wRef wy) ((T 2).1) ((T 2).2.1) ((T 2).2.2.1) ((T 2).2.2.2.1) ((T 2).2.2.2.2) x1 x2 x3 hd _ e1) hu (fun r v hv => ⟨hv, ik, nw, kp, md, updT T 2 (nums', (T 2).2.1, (T 2).2.2.1, (T 2).2.2.2.1, (T 2).2.2.2.2), updY Y 2 (Y 2), wy, rfl, rfl, ⟨⟨E, O⟩, hk, hT', hw⟩, hb⟩)
    · subst h9
      exact clsW (J := [0, 1, 9]) (ic_split _ (by decide +kernel)) (fun sz => k_X7_put l dC dI cI cZ cS 40000 F.1 F.2.1 (F.2.2.2.2.2.1 3) (F.2.2.2.2.2.2 3) (F.2.2.1 0) (F.2.2.2.1 0) (F.2.2.2.2.1 0) sz Sh ik (wRef wy) ((T 3).1) ((T 3).2.1) ((T 3).2.2.1) ((T 3).2.2.2.1) ((T 3).2.2.2.2) x1 x2 x3 hd _ e1) hu (fun r v hv => ⟨hv, ik, nw, kp, md, updT T 3 (nums', (T 3).2.1, (T 3).2.2.1, (T 3).2.2.2.1, (T 3).2.2.2.2), updY Y 3 (Y 3), wy, rfl, rfl, ⟨⟨E, O⟩, hk, hT', hw⟩, hb⟩)
    · subst h9
      exact clsW (J := [0, 1, 10]) (ic_split _ (by decide +kernel)) (fun sz => k_X7_put l dC dI cI cZ cS 40000 F.1 F.2.1 (F.2.2.2.2.2.1 4) (F.2.2.2.2.2.2 4) (F.2.2.1 0) (F.2.2.2.1 0) (F.2.2.2.2.1 0) sz Sh ik (wRef wy) ((T 4).1) ((T 4).2.1) ((T 4).2.2.1) ((T 4).2.2.2.1) ((T 4).2.2.2.2) x1 x2 x3 hd _ e1) hu (fun r v hv => ⟨hv, ik, nw, kp, md, updT T 4 (nums', (T 4).2.1, (T 4).2.2.1, (T 4).2.2.2.1, (T 4).2.2.2.2), updY Y 4 (Y 4), wy, rfl, rfl, ⟨⟨E, O⟩, hk, hT', hw⟩, hb⟩)
    · subst h9
      exact clsW (J := [0, 1, 11]) (ic_split _ (by decide +kernel)) (fun sz => k_X7_put l dC dI cI cZ cS 40000 F.1 F.2.1 (F.2.2.2.2.2.1 5) (F.2.2.2.2.2.2 5) (F.2.2.1 0) (F.2.2.2.1 0) (F.2.2.2.2.1 0) sz Sh ik (wRef wy) ((T 5).1) ((T 5).2.1) ((T 5).2.2.1) ((T 5).2.2.2.1) ((T 5).2.2.2.2) x1 x2 x3 hd _ e1) hu (fun r v hv => ⟨hv, ik, nw, kp, md, updT T 5 (nums', (T 5).2.1, (T 5).2.2.1, (T 5).2.2.2.1, (T 5).2.2.2.2), updY Y 5 (Y 5), wy, rfl, rfl, ⟨⟨E, O⟩, hk, hT', hw⟩, hb⟩)
    · subst h9
      exact clsW (J := [0, 1, 12]) (ic_split _ (by decide +kernel)) (fun sz => k_X7_put l dC dI cI cZ cS 40000 F.1 F.2.1 (F.2.2.2.2.2.1 6) (F.2.2.2.2.2.2 6) (F.2.2.1 0) (F.2.2.2.1 0) (F.2.2.2.2.1 0) sz Sh ik (wRef wy) ((T 6).1) ((T 6).2.1) ((T 6).2.2.1) ((T 6).2.2.2.1) ((T 6).2.2.2.2) x1 x2 x3 hd _ e1) hu (fun r v hv => ⟨hv, ik, nw, kp, md, updT T 6 (nums', (T 6).2.1, (T 6).2.2.1, (T 6).2.2.2.1, (T 6).2.2.2.2), updY Y 6 (Y 6), wy, rfl, rfl, ⟨⟨E, O⟩, hk, hT', hw⟩, hb⟩)
    · subst h9
      exact clsW (J := [0, 1, 13]) (ic_split _ (by decide +kernel)) (fun sz => k_X7_put l dC dI cI cZ cS 40000 F.1 F.2.1 (F.2.2.2.2.2.1 7) (F.2.2.2.2.2.2 7) (F.2.2.1 0) (F.2.2.2.1 0) (F.2.2.2.2.1 0) sz Sh ik (wRef wy) ((T 7).1) ((T 7).2.1) ((T 7).2.2.1) ((T 7).2.2.2.1) ((T 7).2.2.2.2) x1 x2 x3 hd _ e1) hu (fun r v hv => ⟨hv, ik, nw, kp, md, updT T 7 (nums', (T 7).2.1, (T 7).2.2.1, (T 7).2.2.2.1, (T 7).2.2.2.2), updY Y 7 (Y 7), wy, rfl, rfl, ⟨⟨E, O⟩, hk, hT', hw⟩, hb⟩)
end CASES
