/-! ===== toss in the whole world ===== -/
def MetX (X : (Nat → Prop) → State → Prop) (l : Launch) (D : va_G) (cI cZ cS : ClassId) (y : MethodName) (wsl : List Cond) (rm : Room) (As : List Value) (WX : va_W) (a : Int32) (M : va_W → Prop) : Prop :=
  ∀ sz, Met l y wsl rm (va_Pc As (fun U => preW D cI cZ cS WX sz U ∧ X (va_A WX sz) U)) (va_Qi (fun r u => r = a ∧ M u) (fun u => qW D cI cZ cS (va_A WX sz) u) (va_A WX sz)) rm.cells rm.slots (va_A WX sz)
theorem tossS.narrow {A B : Nat → Prop} {sa1 sa2 sa3 : Nat} {U : State} (hAB : ∀ q, B q → A q) (h : tossS A sa1 sa2 sa3 U) : tossS B sa1 sa2 sa3 U := ⟨⟨⟨h.1.1.1.narrow hAB, h.1.1.2.narrow hAB⟩, h.1.2⟩, h.2⟩
theorem thrS.toH {A B : Nat → Prop} {s U : State} {H : Heap} {locs : List Loc} (h : thrS A s) (hS : va_S A s.heap H locs) (hU : U.heap = H) (hW : s.WarmedH U.vm) (hAB : ∀ q, B q → A q) : thrS B U := by
  unfold thrS
  rw [hU]
  exact ⟨⟨((vx_Zq.moved hW.alike h.1.1).kept hS.2.1).narrow hAB, ((vx_Zq.moved hW.alike h.1.2).kept hS.2.1).narrow hAB⟩, ngW_warm hW h.2⟩
theorem tossS.toH {A B : Nat → Prop} {sa1 sa2 sa3 : Nat} {s U : State} {H : Heap} {locs : List Loc} (h : tossS A sa1 sa2 sa3 s) (hS : va_S A s.heap H locs) (hU : U.heap = H) (hW : s.WarmedH U.vm) (hAB : ∀ q, B q → A q) : tossS B sa1 sa2 sa3 U := ⟨h.1.toH hS hU hW hAB, vk_R.warm hW h.2.1, vk_R.warm hW h.2.2.1, vk_R.warm hW h.2.2.2.1, va_Nc.moved hW.alike h.2.2.2.2.1, va_Nc.moved hW.alike h.2.2.2.2.2.1, va_Nc.moved hW.alike h.2.2.2.2.2.2⟩
theorem thrS.call {A : Nat → Prop} {U : State} {g : JFrame} {mk : MethodId} {a : Array Value} (h : thrS A U) : thrS A (U.calling g mk a) := ⟨⟨vx_Zq.moved (u := U) (U := U.calling g mk a) (Vm.Alike.refl U.vm) h.1.1, vx_Zq.moved (u := U) (U := U.calling g mk a) (Vm.Alike.refl U.vm) h.1.2⟩, fun w hw => va_Nw.same (u := U) (U := U.calling g mk a) (ngW_ot w hw) rfl (h.2 w hw)⟩
theorem tossS.call {A : Nat → Prop} {sa1 sa2 sa3 : Nat} {U : State} {g : JFrame} {mk : MethodId} {a : Array Value} (h : tossS A sa1 sa2 sa3 U) : tossS A sa1 sa2 sa3 (U.calling g mk a) := ⟨h.1.call, vk_R.same (u := U) (U := U.calling g mk a) rfl h.2.1, vk_R.same (u := U) (U := U.calling g mk a) rfl h.2.2.1, vk_R.same (u := U) (U := U.calling g mk a) rfl h.2.2.2.1, va_Nc.moved (u := U) (U := U.calling g mk a) (Vm.Alike.refl U.vm) h.2.2.2.2.1, va_Nc.moved (u := U) (U := U.calling g mk a) (Vm.Alike.refl U.vm) h.2.2.2.2.2.1, va_Nc.moved (u := U) (U := U.calling g mk a) (Vm.Alike.refl U.vm) h.2.2.2.2.2.2⟩
section WX
variable {l : Launch} {D : va_G} {cI cZ cS : ClassId} {F : FX} {Sh : Nat → Option Nat} {A : Nat → Nat} {R0 : va_W} {y : MethodName} {wsl : List Cond} {rm : Room} {As : List Value} {J : List Nat}
variable {g g' : Nat → Int32} {f f' : Nat → Nat → Int32} {a : Int32} {b : Bool} {WX G wc : va_W} {ik : Int32} {nw kp md : R9} {T : Nat → T5} {Y : Nat → Option (Nat × Int32 × Int32)} {wy : Option (V9 × C13)}
theorem clsX {X : (Nat → Prop) → State → Prop} (hXn : ∀ A B U, (∀ q, B q → A q) → X A U → X B U) (hJ : IC.Perm (J ++ compl IC J)) (hwc : J.flatMap (bB cI cZ cS F Sh ik nw kp md T Y wy) = wc) (hM : ∀ sz, Met l y wsl rm (va_Pc As (fun U => preW D cI cZ cS wc sz U ∧ X (va_A wc sz) U)) (va_Qi (fun (r : Int32) (_ : Unit) => r = a) (fun _ => qW D cI cZ cS (va_A wc sz) wc) (va_A wc sz)) rm.cells rm.slots (va_A wc sz)) (hu : WX.Perm (IC.flatMap (bB cI cZ cS F Sh ik nw kp md T Y wy) ++ (IM.flatMap (mB cI cZ A g f) ++ (G ++ R0)))) (hR : Rel ik nw kp T Y wy g' f') (hb : b = wy.isSome) : MetX X l D cI cZ cS y wsl rm As WX a (Mid cI cZ cS F Sh A R0 g f g' f' b) := by
  subst hwc
  intro sz
  have hp := wIn hJ hu
  refine met_conseq (hM sz) (fun a s h => ⟨h.1, fr_pre hp h.2.1, hXn _ _ _ (fr_A hp) h.2.2⟩) (fun a9 s9 o t h _ h9 => ?_) (fr_A hp)
  obtain ⟨⟨r, u, h1, h2, h3⟩, hF⟩ := h9
  exact ⟨⟨r, _, h1, ⟨h2, ik, nw, kp, md, T, Y, wy, G, wOut hJ (fun _ _ => rfl), hR, hb⟩, fr_post hp h.2.1 hF h3⟩, fr_F hp hF⟩
end WX
section LAWX
variable {p : Program} {l : Launch} {e : Env} {R : Room} {s : State} {m : MethodId} {args : Array Value} {below : List Frame} {meth : Method} {c : Code} {H0 H : Heap} {locs : List Loc} {cells slots : Nat} {Q : State → Prop}
variable {D : va_G} {cI cZ cS : ClassId} {y : MethodName} {wsl Ts : List Cond} {rm : Room} {As rest st0 : List Value} {WX : va_W} {a : Int32} {M : va_W → Prop} {cc bytes : ByteArray} {nL index maxL n pc b ci : Nat} {ret : Option FieldType} {own : String} {A : Nat → Prop} {ls : Array Slot} {qv : vw_C} {fs : List Value} {hh : List (Nat × Nat × Nat × Nat)}
theorem lawCallX {X : (Nat → Prop) → State → Prop} (S : CallFix p m c cc nL s args Ts own) (hM : MetX X l D cI cZ cS y wsl rm (.ref b :: As) WX a M) (cw : vx_CVW R s args own qv.1 index y bytes maxL ret hh wsl rm rm.cells rm.slots n) (hXb : ∀ A U (g : JFrame) mk a, X A U → X A (U.calling g mk a)) (hXs : (∀ q, va_A WX H.size q → A q) → ∀ U : State, U.heap = H → s.WarmedH U.vm → X (va_A WX H.size) U) (hP : va_P D vwCl WX H) (hD : va_D A WX) (hK : va_K D vwCl (tyL cI cZ cS) s) (hS : va_S A H0 H locs) (hA : ∀ q, H0.size ≤ q → A q)
    (hc : vwCl[ci]? = some qv) (he : ((b, .inr (ci, fs)) : Nat × va_E) ∈ WX) (hlen : As.length = n) (hsize : ls.size = nL) (hst : st0 = As.reverse ++ .ref b :: rest) (hW : (rest.map fun v => v.category).sum ≤ 8) (hdg : decode cc pc = .ok (.invokevirtual index, 3)) (hf : cells + rm.cells ≤ R.cells ∧ slots + rm.slots ≤ R.slots)
    (kk : ∀ (W1 : va_W) (H1 : Heap) (locs1 : List Loc), M W1 → va_P D vwCl W1 H1 → va_D A W1 → va_S A H0 H1 locs1 → W p l e R s m args below meth c H1 locs1 (cells + rm.cells) (slots + rm.slots) Q (F0 m (pc + 3) ls (.int a :: rest))) : W p l e R s m args below meth c H locs cells slots Q (F0 m pc ls st0) := by
  obtain ⟨k0, he⟩ := List.mem_iff_getElem?.mp he
  have hFc : ∀ q, va_A WX H.size q → A q := fun q h => by
    rcases h with ⟨k, e, h⟩ | h
    · exact hD.2 k (q, e) h
    · exact hA q (Nat.le_trans hS.1 h)
  refine va_calli (vx_runVW (g := F0 m pc ls st0) S (hM H.size) cw ⟨fun a U g mk q => ⟨(preW_blind a U g mk ⟨q.1, q.2.1⟩).1, (preW_blind a U g mk ⟨q.1, q.2.1⟩).2, hXb _ _ _ _ _ q.2.2⟩, va_recv hK hP hc he, fun U hU hW => ⟨rfl, ⟨by rw [hU], wd_of hP hD hK hU hW⟩, hXs hFc U hU hW⟩⟩ rfl hlen hsize hst (lv_room hW) hdg hf) hS (fun q _ h => hFc q h) hFc (fun r u t H1 locs1 ht hvm hw hB hz1 hk1 hS1 => ?_)
  obtain ⟨hP1, hK1, hD1⟩ := hB
  rw [ht] at hP1
  obtain ⟨rfl, hm⟩ := hw
  exact kk u H1 locs1 hm hP1 (hD1.weaken (fun k q hk h => hFc _ h)) hS1
end LAWX
