/-! ===== for the constructor of the whole ===== -/
def n7 (U : State) : Prop := va_Nw (.methodLinkNest RX7 9 yX3_init "SlateRows") U ∧ va_Nw (.methodLinkNest RX7 36 yX4_init "SlateRows") U ∧ va_AO "SlateRows$Shelf" U
theorem vp_in_lit {i : Int32} {n : Nat} (h : gi i n = true) : vp_in i n := gi_in h
section NEWS
variable {p : Program} {l : Launch} {e : Env} {R : Room} {s : State} {m : MethodId} {args : Array Value} {below : List Frame} {meth : Method} {c : Code} {H : Heap} {locs : List Loc} {cells slots : Nat} {Q : State → Prop}
variable {cc : ByteArray} {index : Nat} {own : String} {rest : List Value} {pc : Nat} {ls : Array Slot}
variable {D : va_G} {cI cZ cS : ClassId} {ws : va_W} {A : Nat → Prop} {H0 : Heap}
theorem newS {v : Int32} {N' : Nat} (hexec : p.tables.exec = Jvm.exec) (hb : c.code = cc) (hown : s.vm.findClass own = some m.cls) (hclink : (Cond.classLink own index "SlateRows$Shelf").before args s = true) (hover : va_AO "SlateRows$Shelf" s) (hK : va_K D vwCl (tyL cI cZ cS) s) (hP : va_P D vwCl ws H) (hD : va_D A ws) (hS : va_S A H0 H locs) (hA : ∀ q, H0.size ≤ q → A q)
    (hn : ¬ v < 0) (hN : v.toNatClampNeg = N') (hbytes : N' * 4 ≤ 536870912) (hcells : cells + 1 ≤ R.cells) (hslots : slots + N' ≤ R.slots) (hdg : decode cc pc = .ok (.anewarray index, 3))
    (kk : ∀ (q : Nat) (H1 : Heap), va_P D vwCl (ws ++ [(q, .inl (cS, N', .inr (.inr (.inr (.inr (fun _ => none))))))]) H1 → va_D A (ws ++ [(q, .inl (cS, N', .inr (.inr (.inr (.inr (fun _ => none))))))]) → va_S A H0 H1 locs →
      W p l e R s m args below meth c H1 locs (cells + 1) (slots + N') Q (F0 m (pc + 3) ls (.ref q :: rest))) : W p l e R s m args below meth c H locs cells slots Q (F0 m pc ls (.int v :: rest)) := by
  refine va_newq (C := "SlateRows$Shelf") hexec hb hown hclink hover hK hP hD hS hA hn hN hbytes hcells hslots hdg (fun q cA H1 hK1 hP1 hD1 hS1 => ?_)
  obtain ⟨_, _, _, _, _, e1⟩ := (hK1.2 3 (cA, .object "SlateRows$Shelf") rfl).2
  obtain ⟨_, _, _, _, _, e2⟩ := (hK.2 2 (cS, .object "SlateRows$Shelf") rfl).2
  have e3 : cA = cS := Option.some.inj (e1.symm.trans e2)
  subst e3
  exact kk q H1 hP1 hD1 hS1
end NEWS
