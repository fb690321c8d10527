/-! ===== calls, in the whole world ===== -/
section CASES
variable {l : Launch} {dC : Nat → ClassId} {dI : Nat → Nat → Nat} {cI cZ cS : ClassId} {F : FX} {Sh : Nat → Option Nat} {A : Nat → Nat} {R0 : va_W}
theorem elem_cls {sa1 sa2 aO : Nat} {cL : ClassId} {fo : Nat → Int64} (hst : l.stackTraces = false) (hSh : ∀ k, k < 8 → Sh k = some (F.2.2.2.2.2.1 k)) {x1 x2 : Int32} {b : Bool} {WX : va_W} (hI : Inv cI cZ cS F Sh A (outW aO cL fo) b WX) : ∃ (k : Nat) (v : Int32) (w : Int64) (g : Nat → Int32) (f : Nat → Nat → Int32), k ≤ 2 ∧ (k = 0 → w = v.toInt64) ∧ f_X8_element 40000 (f 5) (f 7) (f 8) (g 1) x1 x2 = some (w, nI k) ∧ ∀ sz, Met l yL_element wsL_element { frames := 8, cells := 1, slots := 6, locals := 160 } (va_Pc [.ref F.1, .int x1, .int x2, .ref aO] (fun U => preW (dC, dI) cI cZ cS WX sz U ∧ elS (dC, dI) cI cZ cS cL (va_A WX sz) sa1 sa2 U)) (va_Qi (fun r u => r = nI k ∧ ∃ fo' : Nat → Int64, (k = 0 → fo' 0 = v.toInt64) ∧ Mid cI cZ cS F Sh A (outW aO cL fo') g f (updG g 1 (nI k)) f b u) (fun u => qW (dC, dI) cI cZ cS (va_A WX sz) u) (va_A WX sz)) 1 6 (va_A WX sz) := by
  obtain ⟨ik, nw, kp, md, T, Y, wy, g, f, G, hu, hR, hb⟩ := hI
  have hR0 : ∀ z, Rel ik nw kp T Y wy (updG g 1 z) f := fun z => hR
  obtain ⟨⟨E, O⟩, hk, hT, hw⟩ := hR
  obtain ⟨dd, hd8, hd, hdu, hdx⟩ := pick hSh x1
  have hTd : ∀ e, e < 8 → x1 = nI e → ShN (T dd).1 (T dd).2.1 (T dd).2.2.2.1 (T dd).2.2.2.2 (f 5) (f 6) (f 7) (f 8) e := fun e he hx => by
    have := hdu e he hx
    subst this
    exact (hT e hd8).1
  obtain ⟨k, v, w, e1, e2, hk0, hk2⟩ := r_element (N := 40000) (th := g 1) (x2 := x2) hTd
  refine ⟨k, v, w, g, f, hk2, hk0, e2, ?_⟩
  clear hTd hdu hdx
  have h9 : dd = 0 ∨ dd = 1 ∨ dd = 2 ∨ dd = 3 ∨ dd = 4 ∨ dd = 5 ∨ dd = 6 ∨ dd = 7 := by omega
  rcases h9 with h9 | h9 | h9 | h9 | h9 | h9 | h9 | h9
  · subst h9
    exact clsE (J := [0, 1, 6]) (O1 := outW aO cL fo) (O2 := fun f9 : Nat → Int64 => outW aO cL f9) (X := fun A9 U => elS (dC, dI) cI cZ cS cL A9 sa1 sa2 U) (fun A B U h9 h8 => elS.narrow h9 h8) (ic_split _ (by decide +kernel)) (fun sz => k_L_element l hst dC dI cI cZ cS cL 40000 F.1 F.2.1 (F.2.2.2.2.2.1 0) (F.2.2.2.2.2.2 0) aO (F.2.2.1 0) (F.2.2.2.1 0) (F.2.2.2.2.1 0) sz Sh ik (wRef wy) (T 0).1 (T 0).2.1 (T 0).2.2.1 (T 0).2.2.2.1 (T 0).2.2.2.2 fo x1 x2 sa1 sa2 hd (k, v) hk2 e1) hu _ (fun r f9 hv u hu9 => ⟨hv.1, f9, hv.2, ik, nw, kp, md, T, Y, wy, G, hu9, hR0 _, hb⟩)
  · subst h9
    exact clsE (J := [0, 1, 7]) (O1 := outW aO cL fo) (O2 := fun f9 : Nat → Int64 => outW aO cL f9) (X := fun A9 U => elS (dC, dI) cI cZ cS cL A9 sa1 sa2 U) (fun A B U h9 h8 => elS.narrow h9 h8) (ic_split _ (by decide +kernel)) (fun sz => k_L_element l hst dC dI cI cZ cS cL 40000 F.1 F.2.1 (F.2.2.2.2.2.1 1) (F.2.2.2.2.2.2 1) aO (F.2.2.1 0) (F.2.2.2.1 0) (F.2.2.2.2.1 0) sz Sh ik (wRef wy) (T 1).1 (T 1).2.1 (T 1).2.2.1 (T 1).2.2.2.1 (T 1).2.2.2.2 fo x1 x2 sa1 sa2 hd (k, v) hk2 e1) hu _ (fun r f9 hv u hu9 => ⟨hv.1, f9, hv.2, ik, nw, kp, md, T, Y, wy, G, hu9, hR0 _, hb⟩)
  · subst h9
    exact clsE (J := [0, 1, 8]) (O1 := outW aO cL fo) (O2 := fun f9 : Nat → Int64 => outW aO cL f9) (X := fun A9 U => elS (dC, dI) cI cZ cS cL A9 sa1 sa2 U) (fun A B U h9 h8 => elS.narrow h9 h8) (ic_split _ (by decide +kernel)) (fun sz => k_L_element l hst dC dI cI cZ cS cL 40000 F.1 F.2.1 (F.2.2.2.2.2.1 2) (F.2.2.2.2.2.2 2) aO (F.2.2.1 0) (F.2.2.2.1 0) (F.2.2.2.2.1 0) sz Sh ik (wRef wy) (T 2).1 (T 2).2.1 (T 2).2.2.1 (T 2).2.2.2.1 (T 2).2.2.2.2 fo x1 x2 sa1 sa2 hd (k, v) hk2 e1) hu _ (fun r f9 hv u hu9 => ⟨hv.1, f9, hv.2, ik, nw, kp, md, T, Y, wy, G, hu9, hR0 _, hb⟩)
  · subst h9
    exact clsE (J := [0, 1, 9]) (O1 := outW aO cL fo) (O2 := fun f9 : Nat → Int64 => outW aO cL f9) (X := fun A9 U => elS (dC, dI) cI cZ cS cL A9 sa1 sa2 U) (fun A B U h9 h8 => elS.narrow h9 h8) (ic_split _ (by decide +kernel)) (fun sz => k_L_element l hst dC dI cI cZ cS cL 40000 F.1 F.2.1 (F.2.2.2.2.2.1 3) (F.2.2.2.2.2.2 3) aO (F.2.2.1 0) (F.2.2.2.1 0) (F.2.2.2.2.1 0) sz Sh ik (wRef wy) (T 3).1 (T 3).2.1 (T 3).2.2.1 (T 3).2.2.2.1 (T 3).2.2.2.2 fo x1 x2 sa1 sa2 hd (k, v) hk2 e1) hu _ (fun r f9 hv u hu9 => ⟨hv.1, f9, hv.2, ik, nw, kp, md, T, Y, wy, G, hu9, hR0 _, hb⟩)
  · subst h9
    exact clsE (J := [0, 1, 10]) (O1 := outW aO cL fo) (O2 := fun f9 : Nat → Int64 => outW aO cL f9) (X := fun A9 U => elS (dC, dI) cI cZ cS cL A9 sa1 sa2 U) (fun A B U h9 h8 => elS.narrow h9 h8) (ic_split _ (by decide +kernel)) (fun sz => k_L_element l hst dC dI cI cZ cS cL 40000 F.1 F.2.1 (F.2.2.2.2.2.1 4) (F.2.2.2.2.2.2 4) aO (F.2.2.1 0) (F.2.2.2.1 0) (F.2.2.2.2.1 0) sz Sh ik (wRef wy) (T 4).1 (T 4).2.1 (T 4).2.2.1 (T 4).2.2.2.1 (T 4).2.2.2.2 fo x1 x2 sa1 sa2 hd (k, v) hk2 e1) hu _ (fun r f9 hv u hu9 => ⟨hv.1, f9, hv.2, ik, nw, kp, md, T, Y, wy, G, hu9, hR0 _, hb⟩)
  · subst h9
    exact clsE (J := [0, 1, 11]) (O1 := outW aO cL fo) (O2 := fun f9 : Nat → Int64 => outW aO cL f9) (X := fun A9 U => elS (dC, dI) cI cZ cS cL A9 sa1 sa2 U) (fun A B U h9 h8 => elS.narrow h9 h8) (ic_split _ (by decide +kernel)) (fun sz => k_L_element l hst dC dI cI cZ cS cL 40000 F.1 F.2.1 (F.2.2.2.2.2.1 5) (F.2.2.2.2.2.2 5) aO (F.2.2.1 0) (F.2.2.2.1 0) (F.2.2.2.2.1 0) sz Sh ik (wRef wy) (T 5).1 (T 5).2.1 (T 5).2.2.1 (T 5).2.2.2.1 (T 5).2.2.2.2 fo x1 x2 sa1 sa2 hd (k, v) hk2 e1) hu _ (fun r f9 hv u hu9 => ⟨hv.1, f9, hv.2, ik, nw, kp, md, T, Y, wy, G, hu9, hR0 _, hb⟩)
  · subst h9
    exact clsE (J := [0, 1, 12]) (O1 := outW aO cL fo) (O2 := fun f9 : Nat → Int64 => outW aO cL f9) (X := fun A9 U => elS (dC, dI) cI cZ cS cL A9 sa1 sa2 U) (fun A B U h9 h8 => elS.narrow h9 h8) (ic_split _ (by decide +kernel)) (fun sz => k_L_element l hst dC dI cI cZ cS cL 40000 F.1 F.2.1 (F.2.2.2.2.2.1 6) (F.2.2.2.2.2.2 6) aO (F.2.2.1 0) (F.2.2.2.1 0) (F.2.2.2.2.1 0) sz Sh ik (wRef wy) (T 6).1 (T 6).2.1 (T 6).2.2.1 (T 6).2.2.2.1 (T 6).2.2.2.2 fo x1 x2 sa1 sa2 hd (k, v) hk2 e1) hu _ (fun r f9 hv u hu9 => ⟨hv.1, f9, hv.2, ik, nw, kp, md, T, Y, wy, G, hu9, hR0 _, hb⟩)
  · subst h9
    exact clsE (J := [0, 1, 13]) (O1 := outW aO cL fo) (O2 := fun f9 : Nat → Int64 => outW aO cL f9) (X := fun A9 U => elS (dC, dI) cI cZ cS cL A9 sa1 sa2 U) (fun A B U h9 h8 => elS.narrow h9 h8) (ic_split _ (by decide +kernel)) (fun sz => k_L_element l hst dC dI cI cZ cS cL 40000 F.1 F.2.1 (F.2.2.2.2.2.1 7) (F.2.2.2.2.2.2 7) aO (F.2.2.1 0) (F.2.2.2.1 0) (F.2.2.2.2.1 0) sz Sh ik (wRef wy) (T 7).1 (T 7).2.1 (T 7).2.2.1 (T 7).2.2.2.1 (T 7).2.2.2.2 fo x1 x2 sa1 sa2 hd (k, v) hk2 e1) hu _ (fun r f9 hv u hu9 => ⟨hv.1, f9, hv.2, ik, nw, kp, md, T, Y, wy, G, hu9, hR0 _, hb⟩)
end CASES
