/-! ===== a call of the class, a call of the reference, in the whole world ===== -/
def updG (g : Nat → Int32) (k : Nat) (v : Int32) : Nat → Int32 := fun j => if j = k then v else g j
def updF (f : Nat → Nat → Int32) (k : Nat) (v : Nat → Int32) : Nat → Nat → Int32 := fun j => if j = k then v else f j
def mFs (A : Nat → Nat) (g : Nat → Int32) : List Value := [.ref (A 1), .ref (A 2), .ref (A 3), .ref (A 4), .ref (A 5), .ref (A 6), .ref (A 7), .ref (A 8), .ref (A 9), .ref (A 10), .int (g 0), .int (g 1), .int (g 2), .int (g 3), .int (g 4), .int (g 5), .int (g 6), .ref (A 11), .ref (A 12), .ref (A 13), .ref (A 14), .int (g 7), .int (g 8), .int (g 9), .int (g 10), .int (g 11), .int (g 12), .int (g 13), .ref (A 15), .ref (A 16), .int (g 14), .int (g 15), .int (g 16), .int (g 17), .int (g 18), .int (g 19), .int (g 20)]
section WB
variable {l : Launch} {D : va_G} {cI cZ cS : ClassId} {F : FX} {Sh : Nat → Option Nat} {A : Nat → Nat} {R0 : va_W} {y : MethodName} {wsl : List Cond} {rm : Room} {As : List Value} {J : List Nat}
variable {g g' : Nat → Int32} {f f' : Nat → Nat → Int32} {a : Int32} {b b' : Bool} {u WX G : va_W} {ik : Int32} {nw kp md : R9} {T : Nat → T5} {Y : Nat → Option (Nat × Int32 × Int32)} {wy : Option (V9 × C13)}
theorem modW (hJ : IM.Perm (J ++ compl IM J)) (hM : ∀ sz, Met l y wsl rm (va_Pc As (preW D cI cZ cS (J.flatMap (mB cI cZ A g f)) sz)) (va_Qi (fun (r : Int32) (_ : Unit) => r = a) (fun _ => qW D cI cZ cS (va_A (J.flatMap (mB cI cZ A g f)) sz) (J.flatMap (mB cI cZ A g' f'))) (va_A (J.flatMap (mB cI cZ A g f)) sz)) rm.cells rm.slots (va_A (J.flatMap (mB cI cZ A g f)) sz)) (hK : (compl IM J).flatMap (mB cI cZ A g' f') = (compl IM J).flatMap (mB cI cZ A g f)) (hm : Mid cI cZ cS F Sh A R0 g f g' f' b u) : MetI l D cI cZ cS y wsl rm As u a (Inv cI cZ cS F Sh A R0 b) := by
  obtain ⟨ik, nw, kp, md, T, Y, wy, G, hu, hR, hb⟩ := hm
  intro sz
  refine mfi (hM sz) (wIn hJ (swapM hu)) _ (fun r v hv => ⟨hv, ik, nw, kp, md, T, Y, wy, g', f', G, ?_, hR, hb⟩)
  refine swapM ?_
  rw [← hK, ← List.append_assoc, ← List.flatMap_append]
  exact ((hJ.flatMap_right _).append_right _).symm
theorem modR (hJ : IM.Perm (J ++ compl IM J)) (hM : Met l y wsl rm (va_Pc As (wd D cI cZ cS (J.flatMap (mB cI cZ A g f)))) (vp_Si (fun r => r = a)) 0 0 (fun _ => False)) (hc : rm.cells = 0) (hs : rm.slots = 0) (hm : Mid cI cZ cS F Sh A R0 g f g f b u) : MetI l D cI cZ cS y wsl rm As u a (Inv cI cZ cS F Sh A R0 b) := by
  obtain ⟨ik, nw, kp, md, T, Y, wy, G, hu, hR, hb⟩ := hm
  intro sz
  rw [hc, hs]
  exact mfr hM (wIn hJ (swapM hu)) (fun r u => r = a ∧ Inv cI cZ cS F Sh A R0 b u) ⟨rfl, ik, nw, kp, md, T, Y, wy, g, f, G, hu, hR, hb⟩
theorem clsR (hJ : IC.Perm (J ++ compl IC J)) (hM : Met l y wsl rm (va_Pc As (wd D cI cZ cS (J.flatMap (bB cI cZ cS F Sh ik nw kp md T Y wy)))) (vp_Si (fun r => r = a)) 0 0 (fun _ => False)) (hc : rm.cells = 0) (hs : rm.slots = 0) (hu : WX.Perm (IC.flatMap (bB cI cZ cS F Sh ik nw kp md T Y wy) ++ (IM.flatMap (mB cI cZ A g f) ++ (G ++ R0)))) (hR : Rel ik nw kp T Y wy g' f') (hb : b = wy.isSome) : MetI l D cI cZ cS y wsl rm As WX a (Mid cI cZ cS F Sh A R0 g f g' f' b) := by
  intro sz
  rw [hc, hs]
  exact mfr hM (wIn hJ hu) (fun r u => r = a ∧ Mid cI cZ cS F Sh A R0 g f g' f' b u) ⟨rfl, ik, nw, kp, md, T, Y, wy, G, hu, hR, hb⟩
theorem clsW {S9 : Type} {post : Int32 → S9 → Prop} {w1 : S9 → va_W} (hJ : IC.Perm (J ++ compl IC J)) (hM : ∀ sz, Met l y wsl rm (va_Pc As (preW D cI cZ cS (J.flatMap (bB cI cZ cS F Sh ik nw kp md T Y wy)) sz)) (va_Qi post (fun v => qW D cI cZ cS (va_A (J.flatMap (bB cI cZ cS F Sh ik nw kp md T Y wy)) sz) (w1 v)) (va_A (J.flatMap (bB cI cZ cS F Sh ik nw kp md T Y wy)) sz)) rm.cells rm.slots (va_A (J.flatMap (bB cI cZ cS F Sh ik nw kp md T Y wy)) sz)) (hu : WX.Perm (IC.flatMap (bB cI cZ cS F Sh ik nw kp md T Y wy) ++ (IM.flatMap (mB cI cZ A g f) ++ (G ++ R0))))
    (hp : ∀ r v, post r v → r = a ∧ ∃ ik' nw' kp' md' T' Y' wy', w1 v = J.flatMap (bB cI cZ cS F Sh ik' nw' kp' md' T' Y' wy') ∧ (compl IC J).flatMap (bB cI cZ cS F Sh ik' nw' kp' md' T' Y' wy') = (compl IC J).flatMap (bB cI cZ cS F Sh ik nw kp md T Y wy) ∧ Rel ik' nw' kp' T' Y' wy' g' f' ∧ b' = wy'.isSome) : MetI l D cI cZ cS y wsl rm As WX a (Mid cI cZ cS F Sh A R0 g f g' f' b') := by
  intro sz
  refine mfi (hM sz) (wIn hJ hu) _ (fun r v hv => ?_)
  obtain ⟨hr, ik', nw', kp', md', T', Y', wy', h1, h2, hR, hb⟩ := hp r v hv
  refine ⟨hr, ik', nw', kp', md', T', Y', wy', G, ?_, hR, hb⟩
  rw [h1, ← h2, ← List.append_assoc, ← List.flatMap_append]
  exact ((hJ.flatMap_right _).append_right _).symm
theorem midR (hm : Mid cI cZ cS F Sh A R0 g f g' f' b u) : ∃ fs, ((A 0, .inr (7, fs)) : Nat × va_E) ∈ u := by
  obtain ⟨ik, nw, kp, md, T, Y, wy, G, hu, hR, hb⟩ := hm
  refine ⟨_, hu.mem_iff.mpr (List.mem_append_right _ (List.mem_append_left _ (List.mem_flatMap.mpr ⟨0, by decide, List.mem_cons_self⟩)))⟩
theorem invR (hm : Inv cI cZ cS F Sh A R0 b u) : ∃ fs, ((F.1, .inr (6, fs)) : Nat × va_E) ∈ u := by
  obtain ⟨ik, nw, kp, md, T, Y, wy, g, f, G, hu, hR, hb⟩ := hm
  refine ⟨_, hu.mem_iff.mpr (List.mem_append_left _ (List.mem_flatMap.mpr ⟨0, by decide, List.mem_cons_self⟩))⟩
end WB
theorem so_0 : SO (fun _ => 0) := fun _ _ => ⟨0, by omega, rfl⟩
