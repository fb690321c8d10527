/-! ===== my own base: worlds with fixed array kinds, checks of decompiled programs, call rows for readers and writers ===== -/
abbrev tyL (cI cZ cS : ClassId) : List (ClassId × FieldType) := [(cI, .int), (cZ, .boolean), (cS, .object "SlateRows$Shelf")]
def wd (D : va_G) (cI cZ cS : ClassId) (ws : va_W) (U : State) : Prop := va_P D vwCl ws U.heap ∧ va_K D vwCl (tyL cI cZ cS) U ∧ va_D (fun _ => True) ws
def preW (D : va_G) (cI cZ cS : ClassId) (ws : va_W) (sz : Nat) (U : State) : Prop := U.heap.size = sz ∧ wd D cI cZ cS ws U
def qW (D : va_G) (cI cZ cS : ClassId) (A : Nat → Prop) (ws1 : va_W) (t : State) : Prop := va_P D vwCl ws1 t.heap ∧ va_K D vwCl (tyL cI cZ cS) t ∧ va_D A ws1
theorem wd_calling {D : va_G} {cI cZ cS : ClassId} {ws : va_W} {U : State} {g : JFrame} {mk : MethodId} {a : Array Value} (h : wd D cI cZ cS ws U) : wd D cI cZ cS ws (U.calling g mk a) := ⟨h.1, va_K.moved (u := U) (U := U.calling g mk a) (Vm.Alike.refl U.vm) h.2.1, h.2.2⟩
theorem wd_blind {D : va_G} {cI cZ cS : ClassId} {ws : va_W} {av : List Value} : FrameBlind (va_Pc av (wd D cI cZ cS ws)) := fun _ _ _ _ q => ⟨q.1, wd_calling q.2⟩
theorem preW_blind {D : va_G} {cI cZ cS : ClassId} {ws : va_W} {av : List Value} {sz : Nat} : FrameBlind (va_Pc av (preW D cI cZ cS ws sz)) := fun _ _ _ _ q => ⟨q.1, q.2.1, wd_calling q.2.2⟩
def b2i : Bool → Int32
  | true => 1
  | false => 0
theorem b2i_t : b2i true = 1 := rfl
theorem b2i_f : b2i false = 0 := rfl
theorem b2i_nar (b : Bool) : narrow .boolean (.int (b2i b)) = .int (b2i b) := by cases b <;> decide
theorem b2i_fit (b : Bool) : fits .boolean (.int (b2i b)) = true := by cases b <;> decide
theorem b2i_vp (b : Bool) : vp_nar .boolean (b2i b) = b2i b := by cases b <;> decide
theorem b2i_0 {b : Bool} : b2i b = 0 ↔ b = false := by cases b <;> decide
theorem b2i_1 {b : Bool} : b2i b = 1 ↔ b = true := by cases b <;> decide
theorem b2i_n0 {b : Bool} : ¬ b2i b = 0 ↔ b = true := by cases b <;> decide
def gi (i : Int32) (n : Nat) : Bool := decide (¬ (i < 0 ∨ n ≤ i.toNatClampNeg))
theorem gi_in {i : Int32} {n : Nat} (h : gi i n = true) : vp_in i n := by
  unfold vp_in
  exact of_decide_eq_true h
def ck {α : Type} (b : Bool) (k : Option α) : Option α := if b = true then k else none
theorem ck_some {α : Type} {b : Bool} {k : Option α} {x : α} (h : ck b k = some x) : b = true ∧ k = some x := by
  unfold ck at h
  cases b with
  | false => simp at h
  | true => exact ⟨rfl, by simpa using h⟩
theorem it_p {c : Prop} {i : Decidable c} {α : Type} {a b x : α} (hc : c) (h : @ite α c i a b = x) : a = x := by
  rw [if_pos hc] at h
  exact h
theorem it_n {c : Prop} {i : Decidable c} {α : Type} {a b x : α} (hc : ¬ c) (h : @ite α c i a b = x) : b = x := by
  rw [if_neg hc] at h
  exact h
def nz (y : Int32) : Bool := decide (¬ y = 0)
theorem nz_ne {y : Int32} (h : nz y = true) : ¬ y = 0 := of_decide_eq_true h
def ab (x : Int32) : Int32 := if 0 ≤ x then x else 0 - x
def mx (x y : Int32) : Int32 := if x < y then y else x
def mn (x y : Int32) : Int32 := if y < x then y else x
theorem bd_some {α β : Type} {o : Option α} {k : α → Option β} {x : β} (h : o.bind k = some x) : ∃ a, o = some a ∧ k a = some x := by
  cases o with
  | none => cases h
  | some a => exact ⟨a, rfl, h⟩
def cpk (sp dp n : Int32) (n0 n1 : Nat) : Bool := decide (¬ sp < 0) && decide (¬ dp < 0) && decide (¬ n < 0) && decide (sp.toNatClampNeg + n.toNatClampNeg ≤ n0) && decide (dp.toNatClampNeg + n.toNatClampNeg ≤ n1)
theorem cpk_iff {sp dp n : Int32} {n0 n1 : Nat} : cpk sp dp n n0 n1 = true ↔ ((((¬ sp < 0) ∧ (¬ dp < 0)) ∧ (¬ n < 0)) ∧ sp.toNatClampNeg + n.toNatClampNeg ≤ n0) ∧ dp.toNatClampNeg + n.toNatClampNeg ≤ n1 := by
  simp only [cpk, Bool.and_eq_true, decide_eq_true_eq]
theorem cpk_1 {sp dp n : Int32} {n0 n1 : Nat} (h : cpk sp dp n n0 n1 = true) : ¬ sp < 0 := (cpk_iff.mp h).1.1.1.1
theorem cpk_2 {sp dp n : Int32} {n0 n1 : Nat} (h : cpk sp dp n n0 n1 = true) : ¬ dp < 0 := (cpk_iff.mp h).1.1.1.2
theorem cpk_3 {sp dp n : Int32} {n0 n1 : Nat} (h : cpk sp dp n n0 n1 = true) : ¬ n < 0 := (cpk_iff.mp h).1.1.2
theorem cpk_4 {sp dp n : Int32} {n0 n1 : Nat} (h : cpk sp dp n n0 n1 = true) : sp.toNatClampNeg + n.toNatClampNeg ≤ n0 := (cpk_iff.mp h).1.2
theorem cpk_5 {sp dp n : Int32} {n0 n1 : Nat} (h : cpk sp dp n n0 n1 = true) : dp.toNatClampNeg + n.toNatClampNeg ≤ n1 := (cpk_iff.mp h).2
section CALLS
variable {p : Program} {l : Launch} {e : Env} {R : Room} {s : State} {m : MethodId} {args : Array Value} {below : List Frame} {meth : Method} {c : Code} {H : Heap} {locs : List Loc} {cells slots : Nat} {Q : State → Prop}
variable {y : MethodName} {bytes cc : ByteArray} {maxL nL mc ms n index : Nat} {ret : Option FieldType} {wsl : List Cond} {rm : Room} {Ts : List Cond} {own C : String} {b : Addr} {As rest st0 : List Value} {pc : Nat} {ls : Array Slot}
variable {D : va_G} {cI cZ cS : ClassId} {ws wc : va_W} {A : Nat → Prop} {H0 : Heap}
theorem wd_of (hP : va_P D vwCl ws H) (hD : va_D A ws) (hK : va_K D vwCl (tyL cI cZ cS) s) {U : State} (hU : U.heap = H) (hW : s.WarmedH U.vm) : wd D cI cZ cS ws U := ⟨by rw [hU]; exact hP, va_K.moved hW.alike hK, hD.weaken (fun _ _ _ _ => trivial)⟩
theorem va_P.by_map (hP : va_P D vwCl ws H) (is : List Nat) (hs : is.map (fun i => ws[i]?) = wc.map some) : va_P D vwCl wc H := by
  intro k q hk
  have h1 : (is.map (fun i => ws[i]?))[k]? = some (some q) := by rw [hs, List.getElem?_map, hk]; rfl
  rw [List.getElem?_map] at h1
  cases hi : is[k]? with
  | none => rw [hi] at h1; cases h1
  | some i => rw [hi] at h1; exact hP i q (Option.some.inj h1)
/-- a call that reads, of a method of an object -/
theorem rdV {ci : Nat} {q : vw_C} {fs : List Value} {res : Int32} (S : CallFix p m c cc nL s args Ts own) (hM : Met l y wsl rm (va_Pc (.ref b :: As) (wd D cI cZ cS wc)) (vp_Si (fun r => r = res)) 0 0 (fun _ => False))
    (cw : CallW R s args own q.1 index y bytes maxL ret wsl rm 0 0 n) (hP : va_P D vwCl ws H) (hD : va_D A ws) (hK : va_K D vwCl (tyL cI cZ cS) s) (is : List Nat) (hn : va_nd is = true) (hs : is.map (fun i => ws[i]?) = wc.map some)
    (hc : vwCl[ci]? = some q) (he : wc[0]? = some (b, .inr (ci, fs))) (hlen : As.length = n) (hsize : ls.size = nL) (hst : st0 = As.reverse ++ .ref b :: rest) (hW : (rest.map fun v => v.category).sum ≤ 8) (hdg : decode cc pc = .ok (.invokevirtual index, 3)) (hf : cells ≤ R.cells ∧ slots ≤ R.slots)
    (kk : W p l e R s m args below meth c H locs cells slots Q (F0 m (pc + 3) ls (.int res :: rest))) : W p l e R s m args below meth c H locs cells slots Q (F0 m pc ls st0) := by
  have hPc := hP.by_map is hs
  have hDc := hD.sub is hn hs
  refine vp_callSi (W.runV (g := F0 m pc ls st0) S hM cw ⟨wd_blind, va_recv hK hPc hc he, fun U hU hW => ⟨rfl, wd_of hPc hDc hK hU hW⟩⟩ rfl hlen hsize hst (lv_room hW) hdg hf) (fun r hr => ?_)
  subst hr
  exact kk
/-- a call that reads, of a static method -/
theorem rdS {res : Int32} (S : CallFix p m c cc nL s args Ts own) (hM : Met l y wsl rm (va_Pc As (wd D cI cZ cS wc)) (vp_Si (fun r => r = res)) 0 0 (fun _ => False))
    (cw : CallB R s args own index y bytes maxL ret wsl rm 0 0 n ∧ (Cond.static y).before args s = true) (hP : va_P D vwCl ws H) (hD : va_D A ws) (hK : va_K D vwCl (tyL cI cZ cS) s) (is : List Nat) (hn : va_nd is = true) (hs : is.map (fun i => ws[i]?) = wc.map some)
    (hlen : As.length = n) (hsize : ls.size = nL) (hst : st0 = As.reverse ++ rest) (hW : (rest.map fun v => v.category).sum ≤ 8) (hdg : decode cc pc = .ok (.invokestatic index, 3)) (hf : cells ≤ R.cells ∧ slots ≤ R.slots)
    (kk : W p l e R s m args below meth c H locs cells slots Q (F0 m (pc + 3) ls (.int res :: rest))) : W p l e R s m args below meth c H locs cells slots Q (F0 m pc ls st0) := by
  have hPc := hP.by_map is hs
  have hDc := hD.sub is hn hs
  refine vp_callSi (W.runS (g := F0 m pc ls st0) S hM cw ⟨wd_blind, fun U hU hW => ⟨rfl, wd_of hPc hDc hK hU hW⟩⟩ rfl hlen hsize hst (lv_room hW) hdg hf) (fun r hr => ?_)
  subst hr
  exact kk
/-- a call that writes, of a method of an object; nothing is made -/
theorem mtVi {ci : Nat} {q : vw_C} {fs : List Value} {res : Int32} {w1 wr w2 : va_W} (S : CallFix p m c cc nL s args Ts own) (hM : Met l y wsl rm (va_Pc (.ref b :: As) (preW D cI cZ cS wc H.size)) (va_Qi (fun (r : Int32) (_ : Unit) => r = res) (fun _ => qW D cI cZ cS (va_A wc H.size) w1) (va_A wc H.size)) 0 0 (va_A wc H.size))
    (cw : CallW R s args own q.1 index y bytes maxL ret wsl rm 0 0 n) (hP : va_P D vwCl ws H) (hD : va_D A ws) (hK : va_K D vwCl (tyL cI cZ cS) s) (hS : va_S A H0 H locs) (hA : ∀ q, H0.size ≤ q → A q) (isC isR isF : List Nat) (hn : va_nd isC = true) (hnR : va_nd isR = true) (hnF : va_nd isF = true) (hdis : ∀ i ∈ isR, i ∉ isC)
    (hC : isC.map (fun i => ws[i]?) = wc.map some) (hR : isR.map (fun i => ws[i]?) = wr.map some) (hF : isF.map (fun i => (wr ++ w1)[i]?) = w2.map some)
    (hc : vwCl[ci]? = some q) (he : wc[0]? = some (b, .inr (ci, fs))) (hlen : As.length = n) (hsize : ls.size = nL) (hst : st0 = As.reverse ++ .ref b :: rest) (hW : (rest.map fun v => v.category).sum ≤ 8) (hdg : decode cc pc = .ok (.invokevirtual index, 3)) (hf : cells ≤ R.cells ∧ slots ≤ R.slots)
    (kk : ∀ (H1 : Heap) (locs1 : List Loc), va_P D vwCl w2 H1 → va_D A w2 → va_S A H0 H1 locs1 → W p l e R s m args below meth c H1 locs1 cells slots Q (F0 m (pc + 3) ls (.int res :: rest))) : W p l e R s m args below meth c H locs cells slots Q (F0 m pc ls st0) := by
  have hPc := hP.by_map isC hC
  have hDc := hD.sub isC hn hC
  have hFc := va_free (wc := wc) hD hS hA isC hC
  refine va_calli (va_runV (g := F0 m pc ls st0) S hM cw ⟨preW_blind, va_recv hK hPc hc he, fun U hU hW => ⟨rfl, by rw [hU], wd_of hPc hDc hK hU hW⟩⟩ rfl hlen hsize hst (lv_room hW) hdg hf) hS (fun q _ h => hFc q h) hFc (fun r u t H1 locs1 ht hvm hw hB hz1 hk1 hS1 => ?_)
  obtain ⟨hP1, hK1, hD1⟩ := hB
  rw [ht] at hP1
  obtain ⟨hP2, hD2⟩ := va_join (wr := wr) (w1 := w1) hP hD isC isR hC hR hnR hdis hk1 hFc hP1 hD1
  subst hw
  exact kk H1 locs1 (hP2.by_map isF hF) (hD2.sub isF hnF hF) hS1
theorem mtVv {ci : Nat} {q : vw_C} {fs : List Value} {w1 wr w2 : va_W} (S : CallFix p m c cc nL s args Ts own) (hM : Met l y wsl rm (va_Pc (.ref b :: As) (preW D cI cZ cS wc H.size)) (va_Qv (fun _ : Unit => True) (fun _ => qW D cI cZ cS (va_A wc H.size) w1) (va_A wc H.size)) 0 0 (va_A wc H.size))
    (cw : CallW R s args own q.1 index y bytes maxL ret wsl rm 0 0 n) (hP : va_P D vwCl ws H) (hD : va_D A ws) (hK : va_K D vwCl (tyL cI cZ cS) s) (hS : va_S A H0 H locs) (hA : ∀ q, H0.size ≤ q → A q) (isC isR isF : List Nat) (hn : va_nd isC = true) (hnR : va_nd isR = true) (hnF : va_nd isF = true) (hdis : ∀ i ∈ isR, i ∉ isC)
    (hC : isC.map (fun i => ws[i]?) = wc.map some) (hR : isR.map (fun i => ws[i]?) = wr.map some) (hF : isF.map (fun i => (wr ++ w1)[i]?) = w2.map some)
    (hc : vwCl[ci]? = some q) (he : wc[0]? = some (b, .inr (ci, fs))) (hlen : As.length = n) (hsize : ls.size = nL) (hst : st0 = As.reverse ++ .ref b :: rest) (hW : (rest.map fun v => v.category).sum ≤ 8) (hdg : decode cc pc = .ok (.invokevirtual index, 3)) (hf : cells ≤ R.cells ∧ slots ≤ R.slots)
    (kk : ∀ (H1 : Heap) (locs1 : List Loc), va_P D vwCl w2 H1 → va_D A w2 → va_S A H0 H1 locs1 → W p l e R s m args below meth c H1 locs1 cells slots Q (F0 m (pc + 3) ls rest)) : W p l e R s m args below meth c H locs cells slots Q (F0 m pc ls st0) := by
  have hPc := hP.by_map isC hC
  have hDc := hD.sub isC hn hC
  have hFc := va_free (wc := wc) hD hS hA isC hC
  refine va_callv (va_runV (g := F0 m pc ls st0) S hM cw ⟨preW_blind, va_recv hK hPc hc he, fun U hU hW => ⟨rfl, by rw [hU], wd_of hPc hDc hK hU hW⟩⟩ rfl hlen hsize hst (lv_room hW) hdg hf) hS (fun q _ h => hFc q h) hFc (fun u t H1 locs1 ht hvm hw hB hz1 hk1 hS1 => ?_)
  obtain ⟨hP1, hK1, hD1⟩ := hB
  rw [ht] at hP1
  obtain ⟨hP2, hD2⟩ := va_join (wr := wr) (w1 := w1) hP hD isC isR hC hR hnR hdis hk1 hFc hP1 hD1
  exact kk H1 locs1 (hP2.by_map isF hF) (hD2.sub isF hnF hF) hS1
end CALLS
