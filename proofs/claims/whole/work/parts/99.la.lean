/-! ===== a call out of the law ===== -/
section LAWC
variable {p : Program} {l : Launch} {e : Env} {R : Room} {s : State} {m : MethodId} {args : Array Value} {below : List Frame} {meth : Method} {c : Code} {H0 H : Heap} {locs : List Loc} {cells slots : Nat} {Q : State → Prop}
variable {D : va_G} {cI cZ cS : ClassId} {y : MethodName} {wsl Ts : List Cond} {rm : Room} {As rest st0 : List Value} {WX : va_W} {a : Int32} {M : va_W → Prop} {cc bytes : ByteArray} {nL index maxL n pc b ci : Nat} {ret : Option FieldType} {own : String} {A : Nat → Prop} {ls : Array Slot} {qv : vw_C} {fs : List Value}
theorem lawCall (S : CallFix p m c cc nL s args Ts own) (hM : MetI l D cI cZ cS y wsl rm (.ref b :: As) WX a M) (cw : CallW R s args own qv.1 index y bytes maxL ret wsl rm rm.cells rm.slots n) (hP : va_P D vwCl WX H) (hD : va_D A WX) (hK : va_K D vwCl (tyL cI cZ cS) s) (hS : va_S A H0 H locs) (hA : ∀ q, H0.size ≤ q → A q)
    (hc : vwCl[ci]? = some qv) (he : ((b, .inr (ci, fs)) : Nat × va_E) ∈ WX) (hlen : As.length = n) (hsize : ls.size = nL) (hst : st0 = As.reverse ++ .ref b :: rest) (hW : (rest.map fun v => v.category).sum ≤ 8) (hdg : decode cc pc = .ok (.invokevirtual index, 3)) (hf : cells + rm.cells ≤ R.cells ∧ slots + rm.slots ≤ R.slots)
    (kk : ∀ (W1 : va_W) (H1 : Heap) (locs1 : List Loc), M W1 → va_P D vwCl W1 H1 → va_D A W1 → va_S A H0 H1 locs1 → W p l e R s m args below meth c H1 locs1 (cells + rm.cells) (slots + rm.slots) Q (F0 m (pc + 3) ls (.int a :: rest))) : W p l e R s m args below meth c H locs cells slots Q (F0 m pc ls st0) := by
  obtain ⟨k0, he⟩ := List.mem_iff_getElem?.mp he
  have hFc : ∀ q, va_A WX H.size q → A q := fun q h => by
    rcases h with ⟨k, e, h⟩ | h
    · exact hD.2 k (q, e) h
    · exact hA q (Nat.le_trans hS.1 h)
  refine va_calli (va_runV (g := F0 m pc ls st0) S (hM H.size) cw ⟨preW_blind, va_recv hK hP hc he, fun U hU hW => ⟨rfl, by rw [hU], wd_of hP hD hK hU hW⟩⟩ rfl hlen hsize hst (lv_room hW) hdg hf) hS (fun q _ h => hFc q h) hFc (fun r u t H1 locs1 ht hvm hw hB hz1 hk1 hS1 => ?_)
  obtain ⟨hP1, hK1, hD1⟩ := hB
  rw [ht] at hP1
  obtain ⟨rfl, hm⟩ := hw
  exact kk u H1 locs1 hm hP1 (hD1.weaken (fun k q hk h => hFc _ h)) hS1
end LAWC
/-- what the law's walk stands on, all along -/
def LC (p : Program) (s : State) (m : MethodId) (c : Code) (b L : Nat) (xs : Nat → Int32) (D : va_G) (cI cZ cS : ClassId) : Prop :=
  p.tables.exec = Jvm.exec ∧ c.code = cL_law ∧ c.maxLocals = 8 ∧ s.vm.findClass RL = some m.cls ∧ (∀ w ∈ wsL_law, w.before #[Value.ref b] s = true) ∧ va_X b L xs s s.heap ∧ b < s.heap.size ∧ va_K D vwCl (tyL cI cZ cS) s
def bdC (k : Nat) (b : Bool) : Nat := 100 + 2 * k + (if b then 9 else 0)
def bdS (k : Nat) (b : Bool) : Nat := 70000 + 3640 * k + (if b then 17667 else 0)
/-- from a case's first instruction, where the calls so far (k) have kept the relation, if the law comes to its end from the next head of the loop -/
def LK (p : Program) (l : Launch) (e : Env) (s : State) (m : MethodId) (below : List Frame) (meth : Method) (c : Code) (b L : Nat) (xs : Nat → Int32) (Q : State → Prop) (D : va_G) (cI cZ cS : ClassId) (F : FX) (Sh : Nat → Option Nat) (A : Nat → Nat) (R0 : (Nat → Int64) → va_W) (aO : Nat) (pc : Nat) : Prop :=
  ∀ (o : Nat → Int64) (bb : Bool) (WX : va_W) (H : Heap) (locs : List Loc) (cells slots : Nat) (ls : Array Slot) (i k : Nat), i + 6 ≤ L → L ≤ 3072 → Inv cI cZ cS F Sh A (R0 o) bb WX → va_P D vwCl WX H → va_D (fun q : Nat => s.heap.size ≤ q) WX → va_S (fun q : Nat => s.heap.size ≤ q) s.heap H locs → lv_has ls 8 [(0, .ref b), (1, .ref F.1), (2, .ref (A 0)), (3, .ref aO), (4, .int (nI i))] → cells ≤ bdC k bb → slots ≤ bdS k bb → k < 512 →
    (∀ (o' : Nat → Int64) (b' : Bool) (W1 : va_W) (H1 : Heap) (locs1 : List Loc) (c1 s1 : Nat) (ls1 : Array Slot), Inv cI cZ cS F Sh A (R0 o') b' W1 → va_P D vwCl W1 H1 → va_D (fun q : Nat => s.heap.size ≤ q) W1 → va_S (fun q : Nat => s.heap.size ≤ q) s.heap H1 locs1 → lv_has ls1 8 [(0, .ref b), (1, .ref F.1), (2, .ref (A 0)), (3, .ref aO), (4, .int (nI i))] → c1 ≤ bdC (k + 1) b' → s1 ≤ bdS (k + 1) b' → W p l e room_1 s m #[Value.ref b] below meth c H1 locs1 c1 s1 Q (F0 m 1391 ls1 [])) →
    W p l e room_1 s m #[Value.ref b] below meth c H locs cells slots Q (F0 m pc ls [])
theorem vin_ {i L j : Nat} (h : i + j < L) (hL : L < 2 ^ 20) : vp_in (nI i + nI j) L := by
  rw [nI_add]
  exact vp_in_nI h (by omega)
section BUD
variable {rm : Room} {b b' : Bool} {cells slots k : Nat}
theorem rmF (h : rm.frames ≤ 8) (h2 : 9 ≤ room_1.frames) : rm.frames + 1 ≤ room_1.frames := by omega
theorem rmL {maxL : Nat} (h : rm.locals ≤ 140) (h2 : 8 + (maxL + 11) + 140 ≤ room_1.locals) : 8 + (maxL + 11) + rm.locals ≤ room_1.locals := by omega
theorem rm8F (h : rm.frames ≤ 22) (h2 : 23 ≤ room_1.frames) : rm.frames + 1 ≤ room_1.frames := by omega
theorem rm8L {maxL : Nat} (h : rm.locals ≤ 565) (h2 : 8 + (maxL + 11) + 565 ≤ room_1.locals) : 8 + (maxL + 11) + rm.locals ≤ room_1.locals := by omega
theorem lbud2 (h3 : rm.cells + (if b then 9 else 0) ≤ 2 + (if b' then 9 else 0)) (h4 : rm.slots + (if b then 17667 else 0) ≤ 3640 + (if b' then 17667 else 0)) (hc : cells ≤ bdC k b) (hs : slots ≤ bdS k b) : cells + rm.cells ≤ bdC (k + 1) b' ∧ slots + rm.slots ≤ bdS (k + 1) b' := by
  unfold bdC at *
  unfold bdS at *
  omega
theorem bd_le (hk : k ≤ 513) : bdC k b ≤ 601024 ∧ bdS k b ≤ 7293034 := by
  unfold bdC bdS
  cases b <;> simp <;> omega
theorem lbud (h3 : rm.cells + (if b then 9 else 0) ≤ 2 + (if b' then 9 else 0)) (h4 : rm.slots + (if b then 17667 else 0) ≤ 3640 + (if b' then 17667 else 0)) (hc : cells ≤ bdC k b) (hs : slots ≤ bdS k b) (hk : k < 512) : cells + rm.cells ≤ room_1.cells ∧ slots + rm.slots ≤ room_1.slots := by
  obtain ⟨h5, h6⟩ := lbud2 h3 h4 hc hs
  obtain ⟨h7, h8⟩ := bd_le (b := b') (k := k + 1) (by omega)
  exact ⟨Nat.le_trans h5 h7, Nat.le_trans h6 h8⟩
theorem lbud8 (h3 : rm.cells = 0) (h4 : rm.slots = 0) (hc : cells ≤ bdC (k + 1) b) (hs : slots ≤ bdS (k + 1) b) (hk : k < 512) : cells + rm.cells ≤ room_1.cells ∧ slots + rm.slots ≤ room_1.slots := by
  obtain ⟨h7, h8⟩ := bd_le (b := b) (k := k + 1) (by omega)
  rw [h3, h4]
  exact ⟨Nat.le_trans hc h7, Nat.le_trans hs h8⟩
end BUD
