/-! ===== element in the whole world ===== -/
def outW (aO : Nat) (cL : ClassId) (f : Nat → Int64) : va_W := [(aO, .inl (cL, 1, .inr (.inl f)))]
theorem pE {X K M G O : va_W} : (X ++ (K ++ (M ++ (G ++ O)))).Perm ((X ++ O) ++ (K ++ (M ++ G))) := by
  rw [List.append_assoc X O]
  refine List.Perm.append_left X ?_
  rw [← List.append_assoc M G O, ← List.append_assoc K (M ++ G) O]
  exact List.perm_append_comm
theorem elS.narrow {D : va_G} {cI cZ cS cL : ClassId} {A B : Nat → Prop} {sa1 sa2 : Nat} {U : State} (hAB : ∀ q, B q → A q) (h : elS D cI cZ cS cL A sa1 sa2 U) : elS D cI cZ cS cL B sa1 sa2 U := ⟨⟨⟨h.1.1.1.narrow hAB, h.1.1.2.narrow hAB⟩, h.1.2⟩, h.2⟩
theorem elS.toH {D : va_G} {cI cZ cS cL : ClassId} {A B : Nat → Prop} {sa1 sa2 : Nat} {s U : State} {H : Heap} {locs : List Loc} (h : elS D cI cZ cS cL A sa1 sa2 s) (hS : va_S A s.heap H locs) (hU : U.heap = H) (hW : s.WarmedH U.vm) (hAB : ∀ q, B q → A q) : elS D cI cZ cS cL B sa1 sa2 U := ⟨h.1.toH hS hU hW hAB, vk_R.warm hW h.2.1, vk_R.warm hW h.2.2.1, va_Nc.moved hW.alike h.2.2.2.1, va_K.moved hW.alike h.2.2.2.2⟩
theorem elS.call {D : va_G} {cI cZ cS cL : ClassId} {A : Nat → Prop} {sa1 sa2 : Nat} {U : State} {g : JFrame} {mk : MethodId} {a : Array Value} (h : elS D cI cZ cS cL A sa1 sa2 U) : elS D cI cZ cS cL A sa1 sa2 (U.calling g mk a) := ⟨h.1.call, vk_R.same (u := U) (U := U.calling g mk a) rfl h.2.1, vk_R.same (u := U) (U := U.calling g mk a) rfl h.2.2.1, va_Nc.moved (u := U) (U := U.calling g mk a) (Vm.Alike.refl U.vm) h.2.2.2.1, va_K.moved (u := U) (U := U.calling g mk a) (Vm.Alike.refl U.vm) h.2.2.2.2⟩
section WE
variable {l : Launch} {D : va_G} {cI cZ cS : ClassId} {F : FX} {Sh : Nat → Option Nat} {A : Nat → Nat} {y : MethodName} {wsl : List Cond} {rm : Room} {As : List Value} {J : List Nat}
variable {g g' : Nat → Int32} {f f' : Nat → Nat → Int32} {b : Bool} {u WX G O1 : va_W} {ik : Int32} {nw kp md : R9} {T : Nat → T5} {Y : Nat → Option (Nat × Int32 × Int32)} {wy : Option (V9 × C13)}
theorem clsE {S9 : Type} {post : Int32 → S9 → Prop} {O2 : S9 → va_W} {mc ms : Nat} {X : (Nat → Prop) → State → Prop} (hXn : ∀ A B U, (∀ q, B q → A q) → X A U → X B U) (hJ : IC.Perm (J ++ compl IC J)) (hM : ∀ sz, Met l y wsl rm (va_Pc As (fun U => preW D cI cZ cS (J.flatMap (bB cI cZ cS F Sh ik nw kp md T Y wy) ++ O1) sz U ∧ X (va_A (J.flatMap (bB cI cZ cS F Sh ik nw kp md T Y wy) ++ O1) sz) U)) (va_Qi post (fun v => qW D cI cZ cS (va_A (J.flatMap (bB cI cZ cS F Sh ik nw kp md T Y wy) ++ O1) sz) (J.flatMap (bB cI cZ cS F Sh ik nw kp md T Y wy) ++ O2 v)) (va_A (J.flatMap (bB cI cZ cS F Sh ik nw kp md T Y wy) ++ O1) sz)) mc ms (va_A (J.flatMap (bB cI cZ cS F Sh ik nw kp md T Y wy) ++ O1) sz)) (hu : WX.Perm (IC.flatMap (bB cI cZ cS F Sh ik nw kp md T Y wy) ++ (IM.flatMap (mB cI cZ A g f) ++ (G ++ O1)))) (M : Int32 → va_W → Prop) (hM2 : ∀ r v, post r v → ∀ u : va_W, u.Perm (IC.flatMap (bB cI cZ cS F Sh ik nw kp md T Y wy) ++ (IM.flatMap (mB cI cZ A g f) ++ (G ++ O2 v))) → M r u) (sz : Nat) :
    Met l y wsl rm (va_Pc As (fun U => preW D cI cZ cS WX sz U ∧ X (va_A WX sz) U)) (va_Qi M (fun u => qW D cI cZ cS (va_A WX sz) u) (va_A WX sz)) mc ms (va_A WX sz) := by
  have hp := (wIn hJ hu).trans pE
  refine met_conseq (hM sz) (fun a s h => ⟨h.1, fr_pre hp h.2.1, hXn _ _ _ (fr_A hp) h.2.2⟩) (fun a9 s9 o t h _ h9 => ?_) (fr_A hp)
  obtain ⟨⟨r, v, h1, h2, h3⟩, hF⟩ := h9
  exact ⟨⟨r, _, h1, hM2 r v h2 _ (pE.symm.trans (wOut hJ (fun _ _ => rfl))), fr_post hp h.2.1 hF h3⟩, fr_F hp hF⟩
theorem modWl {R0 : va_W} {a : Int64} (hJ : IM.Perm (J ++ compl IM J)) (hM : ∀ sz, Met l y wsl rm (va_Pc As (preW D cI cZ cS (J.flatMap (mB cI cZ A g f)) sz)) (va_Ql (fun (r : Int64) (_ : Unit) => r = a) (fun _ => qW D cI cZ cS (va_A (J.flatMap (mB cI cZ A g f)) sz) (J.flatMap (mB cI cZ A g' f'))) (va_A (J.flatMap (mB cI cZ A g f)) sz)) 0 0 (va_A (J.flatMap (mB cI cZ A g f)) sz)) (hK : (compl IM J).flatMap (mB cI cZ A g' f') = (compl IM J).flatMap (mB cI cZ A g f)) (hm : Mid cI cZ cS F Sh A R0 g f g' f' b u) (sz : Nat) : Met l y wsl rm (va_Pc As (preW D cI cZ cS u sz)) (va_Ql (fun r u' => r = a ∧ Mid cI cZ cS F Sh A R0 g' f' g' f' b u') (fun u' => qW D cI cZ cS (va_A u sz) u') (va_A u sz)) 0 0 (va_A u sz) := by
  obtain ⟨ik, nw, kp, md, T, Y, wy, G, hu, hR, hb⟩ := hm
  refine mfl (hM sz) (wIn hJ (swapM hu)) _ (fun r v hv => ⟨hv, ik, nw, kp, md, T, Y, wy, G, ?_, hR, hb⟩)
  refine swapM ?_
  rw [← hK, ← List.append_assoc, ← List.flatMap_append]
  exact ((hJ.flatMap_right _).append_right _).symm
theorem midO {aO : Nat} {cL : ClassId} {fo : Nat → Int64} (hm : Inv cI cZ cS F Sh A (outW aO cL fo) b u) : ((aO, .inl (cL, 1, .inr (.inl fo))) : Nat × va_E) ∈ u := by
  obtain ⟨ik, nw, kp, md, T, Y, wy, g, f, G, hu, hR, hb⟩ := hm
  exact hu.mem_iff.mpr (List.mem_append_right _ (List.mem_append_right _ (List.mem_append_right _ List.mem_cons_self)))
end WE
