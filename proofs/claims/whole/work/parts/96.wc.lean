/-! ===== shelves ===== -/
def updT (T : Nat → T5) (k : Nat) (q : T5) : Nat → T5 := fun j => if j = k then q else T j
def updY (Y : Nat → Option (Nat × Int32 × Int32)) (k : Nat) (q : Option (Nat × Int32 × Int32)) : Nat → Option (Nat × Int32 × Int32) := fun j => if j = k then q else Y j
theorem pick {F : FX} {Sh : Nat → Option Nat} (hSh : ∀ k, k < 8 → Sh k = some (F.2.2.2.2.2.1 k)) (x1 : Int32) : ∃ dd, dd < 8 ∧ (gi x1 8 = true → Sh x1.toNatClampNeg = some (F.2.2.2.2.2.1 dd)) ∧ (∀ e, e < 8 → x1 = nI e → e = dd) ∧ (gi x1 8 = true → x1 = nI dd) := by
  by_cases h : gi x1 8 = true
  · have hb : inB x1 8 = true := by
      unfold inB
      have h0 : ¬ x1 < 0 := fun q => gi_in h (Or.inl q)
      have h1 : ¬ 8 ≤ x1.toNatClampNeg := fun q => gi_in h (Or.inr q)
      rw [decide_eq_true h0, decide_eq_true (show x1 < nI 8 by
        rw [Int32.lt_iff_toInt_lt, show (nI 8).toInt = 8 from rfl]
        have : x1.toInt.toNat = x1.toNatClampNeg := rfl
        omega)]
      rfl
    obtain ⟨r, hr, rfl⟩ := inB_t (by decide) hb
    refine ⟨r, hr, fun _ => ?_, fun e he q => ?_, fun _ => rfl⟩
    · rw [cl_nI (by omega)]
      exact hSh r hr
    · have := congrArg Int32.toNatClampNeg q
      rw [cl_nI (by omega), cl_nI (by omega)] at this
      exact this.symm
  · refine ⟨0, by omega, fun q => absurd q h, fun e he q => ?_, fun q => absurd q h⟩
    subst q
    exact absurd (giT he (by omega)) h
theorem shF {x1 : Int32} {f f' : Nat → Nat → Int32} {k : Nat} {q : T5} {y : Option (Nat × Int32 × Int32)} (hF : SFr x1 (f 5) (f 6) (f 7) (f 8) (f' 5) (f' 6) (f' 7) (f' 8)) (hk : k < 8) (hx : x1 ≠ nI k) (h9 : f' 9 k = f 9 k) (h10 : f' 10 k = f 10 k) (h : ShR q y f k) : ShR q y f' k := by
  obtain ⟨h1, h2, h3⟩ := h
  obtain ⟨a1, a2, a3, a4⟩ := hF k hk hx
  refine ⟨?_, ?_, h3⟩
  · obtain ⟨b1, b2, b3⟩ := h1
    refine ⟨a1.trans b1, b2, fun h => ?_⟩
    obtain ⟨c1, c2, ⟨n, c3, c4, c5⟩, c6⟩ := b3 h
    exact ⟨a2.trans c1, c2, ⟨n, c3, c4, a3.trans c5⟩, fun j hj => (a4 j hj).trans (c6 j hj)⟩
  · intro h
    obtain ⟨a, c, t, d1, d2, d3, d4, d5, d6⟩ := h2 h
    exact ⟨a, c, t, d1, d2, d3, d4, h9.trans d5, h10.trans d6⟩
theorem p3 {A K M X : va_W} : (A ++ (K ++ (M ++ X))).Perm (K ++ (M ++ (A ++ X))) := by
  rw [← List.append_assoc K M X, ← List.append_assoc K M (A ++ X), ← List.append_assoc A (K ++ M) X, ← List.append_assoc (K ++ M) A X]
  exact List.perm_append_comm.append_right X
section WC
variable {l : Launch} {D : va_G} {cI cZ cS : ClassId} {F : FX} {Sh : Nat → Option Nat} {A : Nat → Nat} {R0 : va_W} {y : MethodName} {wsl : List Cond} {rm : Room} {As : List Value} {J J1 : List Nat}
variable {g g' : Nat → Int32} {f f' : Nat → Nat → Int32} {a : Int32} {b b' : Bool} {u WX G wc : va_W} {ik : Int32} {nw kp md : R9} {T : Nat → T5} {Y : Nat → Option (Nat × Int32 × Int32)} {wy : Option (V9 × C13)}
theorem clsR' (hJ : IC.Perm (J ++ compl IC J)) (hwc : J.flatMap (bB cI cZ cS F Sh ik nw kp md T Y wy) = wc) (hM : Met l y wsl rm (va_Pc As (wd D cI cZ cS wc)) (vp_Si (fun r => r = a)) 0 0 (fun _ => False)) (hc : rm.cells = 0) (hs : rm.slots = 0) (hu : WX.Perm (IC.flatMap (bB cI cZ cS F Sh ik nw kp md T Y wy) ++ (IM.flatMap (mB cI cZ A g f) ++ (G ++ R0)))) (hR : Rel ik nw kp T Y wy g' f') (hb : b = wy.isSome) : MetI l D cI cZ cS y wsl rm As WX a (Mid cI cZ cS F Sh A R0 g f g' f' b) := by
  subst hwc
  exact clsR hJ hM hc hs hu hR hb
theorem clsW' {S9 : Type} {post : Int32 → S9 → Prop} {w1 : S9 → va_W} (hJ : IC.Perm (J ++ compl IC J)) (hwc : J.flatMap (bB cI cZ cS F Sh ik nw kp md T Y wy) = wc) (hM : ∀ sz, Met l y wsl rm (va_Pc As (preW D cI cZ cS wc sz)) (va_Qi post (fun v => qW D cI cZ cS (va_A wc sz) (w1 v)) (va_A wc sz)) rm.cells rm.slots (va_A wc sz)) (hu : WX.Perm (IC.flatMap (bB cI cZ cS F Sh ik nw kp md T Y wy) ++ (IM.flatMap (mB cI cZ A g f) ++ (G ++ R0))))
    (hp : ∀ r v, post r v → r = a ∧ ∃ ik' nw' kp' md' T' Y' wy', w1 v = J.flatMap (bB cI cZ cS F Sh ik' nw' kp' md' T' Y' wy') ∧ (compl IC J).flatMap (bB cI cZ cS F Sh ik' nw' kp' md' T' Y' wy') = (compl IC J).flatMap (bB cI cZ cS F Sh ik nw kp md T Y wy) ∧ Rel ik' nw' kp' T' Y' wy' g' f' ∧ b' = wy'.isSome) : MetI l D cI cZ cS y wsl rm As WX a (Mid cI cZ cS F Sh A R0 g f g' f' b') := by
  subst hwc
  exact clsW hJ hM hu hp
/-- as clsW, and the blocks J1 (which the call does not read) may be put aside for new ones -/
theorem clsK {S9 : Type} {post : Int32 → S9 → Prop} {w1 : S9 → va_W} (hJ : IC.Perm (J ++ compl IC J)) (hJ1 : (compl IC J).Perm (J1 ++ compl IC (J ++ J1))) (hM : ∀ sz, Met l y wsl rm (va_Pc As (preW D cI cZ cS (J.flatMap (bB cI cZ cS F Sh ik nw kp md T Y wy)) sz)) (va_Qi post (fun v => qW D cI cZ cS (va_A (J.flatMap (bB cI cZ cS F Sh ik nw kp md T Y wy)) sz) (w1 v)) (va_A (J.flatMap (bB cI cZ cS F Sh ik nw kp md T Y wy)) sz)) rm.cells rm.slots (va_A (J.flatMap (bB cI cZ cS F Sh ik nw kp md T Y wy)) sz)) (hu : WX.Perm (IC.flatMap (bB cI cZ cS F Sh ik nw kp md T Y wy) ++ (IM.flatMap (mB cI cZ A g f) ++ (G ++ R0))))
    (hp : ∀ r v, post r v → r = a ∧ ((∃ ik' nw' kp' md' T' Y' wy', w1 v = J.flatMap (bB cI cZ cS F Sh ik' nw' kp' md' T' Y' wy') ∧ (compl IC J).flatMap (bB cI cZ cS F Sh ik' nw' kp' md' T' Y' wy') = (compl IC J).flatMap (bB cI cZ cS F Sh ik nw kp md T Y wy) ∧ Rel ik' nw' kp' T' Y' wy' g' f' ∧ b' = wy'.isSome) ∨ (∃ ik' nw' kp' md' T' Y' wy', w1 v = (J ++ J1).flatMap (bB cI cZ cS F Sh ik' nw' kp' md' T' Y' wy') ∧ (compl IC (J ++ J1)).flatMap (bB cI cZ cS F Sh ik' nw' kp' md' T' Y' wy') = (compl IC (J ++ J1)).flatMap (bB cI cZ cS F Sh ik nw kp md T Y wy) ∧ Rel ik' nw' kp' T' Y' wy' g' f' ∧ b' = wy'.isSome))) : MetI l D cI cZ cS y wsl rm As WX a (Mid cI cZ cS F Sh A R0 g f g' f' b') := by
  intro sz
  refine mfi (hM sz) (wIn hJ hu) _ (fun r v hv => ?_)
  obtain ⟨hr, ⟨ik', nw', kp', md', T', Y', wy', h1, h2, hR, hb⟩ | ⟨ik', nw', kp', md', T', Y', wy', h1, h2, hR, hb⟩⟩ := hp r v hv
  · refine ⟨hr, ik', nw', kp', md', T', Y', wy', G, ?_, hR, hb⟩
    rw [h1, ← h2, ← List.append_assoc, ← List.flatMap_append]
    exact ((hJ.flatMap_right _).append_right _).symm
  · refine ⟨hr, ik', nw', kp', md', T', Y', wy', J1.flatMap (bB cI cZ cS F Sh ik nw kp md T Y wy) ++ G, ?_, hR, hb⟩
    rw [h1]
    have hJ2 : IC.Perm ((J ++ J1) ++ compl IC (J ++ J1)) := by
      rw [List.append_assoc]
      exact hJ.trans (hJ1.append_left J)
    have e1 := (hJ2.flatMap_right (bB cI cZ cS F Sh ik' nw' kp' md' T' Y' wy')).symm
    rw [List.flatMap_append, h2] at e1
    have e2 := hJ1.flatMap_right (bB cI cZ cS F Sh ik nw kp md T Y wy)
    rw [List.flatMap_append] at e2
    -- w1 ++ (compl J).B ++ (M ++ (G ++ R0))
    refine ((e2.append_right _).append_left _).trans ?_
    refine List.Perm.trans ?_ (e1.append_right _)
    rw [List.append_assoc, List.append_assoc, List.append_assoc]
    refine List.Perm.append_left _ ?_
    exact p3
end WC
