/-! ===== worlds up to their order; a contract in a larger world ===== -/
theorem pP_mem {D : va_G} {cl : List vw_C} {ws : va_W} {H : Heap} : va_P D cl ws H ↔ ∀ q, q ∈ ws → va_at D cl q H := by
  refine ⟨fun h q hq => ?_, fun h k q hk => h q (List.mem_of_getElem? hk)⟩
  obtain ⟨k, hk⟩ := List.mem_iff_getElem?.mp hq
  exact h k q hk
theorem pP_perm {D : va_G} {cl : List vw_C} {ws ws' : va_W} {H : Heap} (hp : ws.Perm ws') (h : va_P D cl ws H) : va_P D cl ws' H := pP_mem.mpr fun q hq => pP_mem.mp h q (hp.mem_iff.mpr hq)
theorem pD_cons {A : Nat → Prop} {q : Nat × va_E} {ws : va_W} : va_D A (q :: ws) ↔ A q.1 ∧ (∀ p, p ∈ ws → p.1 ≠ q.1) ∧ va_D A ws := by
  constructor
  · rintro ⟨h1, h2⟩
    refine ⟨h2 0 q rfl, fun p hp e => ?_, fun i j p' q' hi hj he => ?_, fun k p hk => h2 (k + 1) p (by simpa using hk)⟩
    · obtain ⟨j, hj⟩ := List.mem_iff_getElem?.mp hp
      have := h1 (j + 1) 0 p q (by simpa using hj) rfl e
      omega
    · have := h1 (i + 1) (j + 1) p' q' (by simpa using hi) (by simpa using hj) he
      omega
  · rintro ⟨a, b, c1, c2⟩
    refine ⟨fun i j p' q' hi hj he => ?_, fun k p hk => ?_⟩
    · cases i with
      | zero =>
        cases j with
        | zero => rfl
        | succ j =>
          have e1 : q = p' := by simpa using hi
          have e2 : ws[j]? = some q' := by simpa using hj
          exact absurd (by rw [← he, e1]) (b q' (List.mem_of_getElem? e2))
      | succ i =>
        have e2 : ws[i]? = some p' := by simpa using hi
        cases j with
        | zero =>
          have e1 : q = q' := by simpa using hj
          exact absurd (by rw [he, e1]) (b p' (List.mem_of_getElem? e2))
        | succ j =>
          have e3 : ws[j]? = some q' := by simpa using hj
          rw [c1 i j p' q' e2 e3 he]
    · cases k with
      | zero =>
        have e1 : q = p := by simpa using hk
        rw [← e1]
        exact a
      | succ k => exact c2 k p (by simpa using hk)
theorem pD_nil {A : Nat → Prop} : va_D A [] := ⟨fun i j p q h => (by cases h), fun k q h => (by cases h)⟩
theorem pD_perm {A : Nat → Prop} {ws ws' : va_W} (hp : ws.Perm ws') : va_D A ws → va_D A ws' := by
  induction hp with
  | nil => exact id
  | cons x hp ih =>
    intro h
    obtain ⟨h1, h2, h3⟩ := pD_cons.mp h
    exact pD_cons.mpr ⟨h1, fun p hm => h2 p (hp.mem_iff.mpr hm), ih h3⟩
  | swap x y l =>
    intro h
    obtain ⟨h1, h2, h3⟩ := pD_cons.mp h
    obtain ⟨h4, h5, h6⟩ := pD_cons.mp h3
    refine pD_cons.mpr ⟨h4, fun p hm => ?_, pD_cons.mpr ⟨h1, fun p hm => h2 p (List.mem_cons_of_mem _ hm), h6⟩⟩
    rcases List.mem_cons.mp hm with e | e
    · subst e
      exact (h2 x List.mem_cons_self).symm
    · exact h5 p e
  | trans _ _ ih1 ih2 => exact fun h => ih2 (ih1 h)
theorem pD_app {A : Nat → Prop} : ∀ {w1 w2 : va_W}, va_D A (w1 ++ w2) ↔ va_D A w1 ∧ va_D A w2 ∧ ∀ p q, p ∈ w1 → q ∈ w2 → p.1 ≠ q.1
  | [], w2 => ⟨fun h => ⟨pD_nil, h, fun p q hp => by cases hp⟩, fun h => h.2.1⟩
  | x :: w1, w2 => by
    rw [List.cons_append, pD_cons, pD_cons, pD_app (w1 := w1)]
    constructor
    · rintro ⟨h1, h2, h3, h4, h5⟩
      refine ⟨⟨h1, fun p hp => h2 p (List.mem_append_left _ hp), h3⟩, h4, fun p q hp hq => ?_⟩
      rcases List.mem_cons.mp hp with e | e
      · subst e
        exact (h2 q (List.mem_append_right _ hq)).symm
      · exact h5 p q e hq
    · rintro ⟨⟨h1, h2, h3⟩, h4, h5⟩
      refine ⟨h1, fun p hp => ?_, h3, h4, fun p q hp hq => h5 p q (List.mem_cons_of_mem _ hp) hq⟩
      rcases List.mem_append.mp hp with e | e
      · exact h2 p e
      · exact (h5 x p List.mem_cons_self e).symm
theorem pA_mem {ws : va_W} {sz q : Nat} : va_A ws sz q ↔ (∃ e, (q, e) ∈ ws) ∨ sz ≤ q := by
  unfold va_A
  refine ⟨fun h => h.imp (fun ⟨k, e, hk⟩ => ⟨e, List.mem_of_getElem? hk⟩) id, fun h => h.imp (fun ⟨e, he⟩ => ?_) id⟩
  obtain ⟨k, hk⟩ := List.mem_iff_getElem?.mp he
  exact ⟨k, e, hk⟩
theorem pD_mem {A : Nat → Prop} {ws : va_W} (h : va_D A ws) {q : Nat × va_E} (hq : q ∈ ws) : A q.1 := by
  obtain ⟨k, hk⟩ := List.mem_iff_getElem?.mp hq
  exact h.2 k q hk
theorem pAt_lt {D : va_G} {cl : List vw_C} {q : Nat × va_E} {H : Heap} (h : va_at D cl q H) : q.1 < H.size := h.lt
theorem pAt_kept {D : va_G} {cl : List vw_C} {q : Nat × va_E} {H H1 : Heap} (h : va_at D cl q H) (hk : H1[q.1]? = H[q.1]?) : va_at D cl q H1 := h.kept hk
theorem met_conseq {l : Launch} {y : MethodName} {ws : List Cond} {rm : Room} {Pc Pc' : Array Value → State → Prop} {Qc Qc' : Array Value → State → Outcome → State → Prop} {mc ms : Nat} {free free' : Addr → Prop} (hM : Met l y ws rm Pc Qc mc ms free) (hp : ∀ a s, Pc' a s → Pc a s) (hq : ∀ a s o t, Pc' a s → s.WarmedH t.vm → Qc a s o t → Qc' a s o t) (hf : ∀ q, free q → free' q) : Met l y ws rm Pc' Qc' mc ms free' := by
  intro p e ha hc hk s m args below hfr hS hP hK
  obtain ⟨n, o, h1, h2, h3, h4, L, h5, h6⟩ := hM p e ha hc hk s m args below hfr hS (hp _ _ hP) hK
  exact ⟨n, o, h1, h2, h3, hq _ _ _ _ hP h5.2.1 h4, L, h5, fun q hq => hf _ (h6 q hq)⟩
section FRM
variable {l : Launch} {y : MethodName} {wsl : List Cond} {rm : Room} {As : List Value} {D : va_G} {cI cZ cS : ClassId} {wc wr WX : va_W} {sz mc ms : Nat}
theorem fr_pre (hp : WX.Perm (wc ++ wr)) {U : State} (h : preW D cI cZ cS WX sz U) : preW D cI cZ cS wc sz U :=
  ⟨h.1, pP_mem.mpr fun q hq => pP_mem.mp h.2.1 q (hp.mem_iff.mpr (List.mem_append_left _ hq)), h.2.2.1, (pD_app.mp (pD_perm hp h.2.2.2)).1⟩
theorem fr_post (hp : WX.Perm (wc ++ wr)) {st t : State} (h : preW D cI cZ cS WX sz st) (hF : va_F (va_A wc sz) st t) {w1 : va_W} (hq : qW D cI cZ cS (va_A wc sz) w1 t) : qW D cI cZ cS (va_A WX sz) (w1 ++ wr) t := by
  obtain ⟨hP1, hK1, hD1⟩ := hq
  obtain ⟨hs, hP, hK, hD⟩ := h
  obtain ⟨d1, d2, d3⟩ := pD_app.mp (pD_perm hp hD)
  have hsub : ∀ q, va_A wc sz q → va_A WX sz q := fun q hq => by
    rcases pA_mem.mp hq with ⟨e, he⟩ | he
    · exact pA_mem.mpr (Or.inl ⟨e, hp.mem_iff.mpr (List.mem_append_left _ he)⟩)
    · exact pA_mem.mpr (Or.inr he)
  have hwr : ∀ q, q ∈ wr → va_at D vwCl q st.heap := fun q hq => pP_mem.mp hP q (hp.mem_iff.mpr (List.mem_append_right _ hq))
  have hno : ∀ q, q ∈ wr → ¬ va_A wc sz q.1 := fun q hq hA => by
    rcases pA_mem.mp hA with ⟨e, he⟩ | he
    · exact d3 _ _ he hq rfl
    · have := pAt_lt (hwr q hq)
      omega
  refine ⟨pP_mem.mpr fun q hq => ?_, hK1, pD_app.mpr ⟨?_, ?_, fun p q hp1 hq1 e => ?_⟩⟩
  · rcases List.mem_append.mp hq with e | e
    · exact pP_mem.mp hP1 q e
    · exact pAt_kept (hwr q e) (hF.2 q.1 (pAt_lt (hwr q e)) (hno q e))
  · exact hD1.weaken (fun k q hk h => hsub _ h)
  · exact ⟨d2.1, fun k q hk => pA_mem.mpr (Or.inl ⟨q.2, hp.mem_iff.mpr (List.mem_append_right _ (List.mem_of_getElem? hk))⟩)⟩
  · exact hno q hq1 (by rw [← e]; exact pD_mem hD1 hp1)
theorem fr_F (hp : WX.Perm (wc ++ wr)) {st t : State} (hF : va_F (va_A wc sz) st t) : va_F (va_A WX sz) st t := by
  refine ⟨hF.1, fun q h1 h2 => hF.2 q h1 (fun h3 => h2 ?_)⟩
  rcases pA_mem.mp h3 with ⟨e, he⟩ | he
  · exact pA_mem.mpr (Or.inl ⟨e, hp.mem_iff.mpr (List.mem_append_left _ he)⟩)
  · exact pA_mem.mpr (Or.inr he)
theorem fr_A (hp : WX.Perm (wc ++ wr)) : ∀ q, va_A wc sz q → va_A WX sz q := fun q hq => by
  rcases pA_mem.mp hq with ⟨e, he⟩ | he
  · exact pA_mem.mpr (Or.inl ⟨e, hp.mem_iff.mpr (List.mem_append_left _ he)⟩)
  · exact pA_mem.mpr (Or.inr he)
/-- a contract that writes and answers an int, in a larger world -/
theorem mfi {S9 : Type} {post : Int32 → S9 → Prop} {w1 : S9 → va_W} (hM : Met l y wsl rm (va_Pc As (preW D cI cZ cS wc sz)) (va_Qi post (fun u => qW D cI cZ cS (va_A wc sz) (w1 u)) (va_A wc sz)) mc ms (va_A wc sz)) (hp : WX.Perm (wc ++ wr)) (M : Int32 → va_W → Prop) (hM2 : ∀ r v, post r v → M r (w1 v ++ wr)) :
    Met l y wsl rm (va_Pc As (preW D cI cZ cS WX sz)) (va_Qi M (fun u => qW D cI cZ cS (va_A WX sz) u) (va_A WX sz)) mc ms (va_A WX sz) :=
  met_conseq hM (fun a s h => ⟨h.1, fr_pre hp h.2⟩) (fun a s o t h _ ⟨⟨r, u, h1, h2, h3⟩, hF⟩ => ⟨⟨r, w1 u ++ wr, h1, hM2 r u h2, fr_post hp h.2 hF h3⟩, fr_F hp hF⟩) (fr_A hp)
/-- .. a long -/
theorem mfl {S9 : Type} {post : Int64 → S9 → Prop} {w1 : S9 → va_W} (hM : Met l y wsl rm (va_Pc As (preW D cI cZ cS wc sz)) (va_Ql post (fun u => qW D cI cZ cS (va_A wc sz) (w1 u)) (va_A wc sz)) mc ms (va_A wc sz)) (hp : WX.Perm (wc ++ wr)) (M : Int64 → va_W → Prop) (hM2 : ∀ r v, post r v → M r (w1 v ++ wr)) :
    Met l y wsl rm (va_Pc As (preW D cI cZ cS WX sz)) (va_Ql M (fun u => qW D cI cZ cS (va_A WX sz) u) (va_A WX sz)) mc ms (va_A WX sz) :=
  met_conseq hM (fun a s h => ⟨h.1, fr_pre hp h.2⟩) (fun a s o t h _ ⟨⟨r, u, h1, h2, h3⟩, hF⟩ => ⟨⟨r, w1 u ++ wr, h1, hM2 r u h2, fr_post hp h.2 hF h3⟩, fr_F hp hF⟩) (fr_A hp)
/-- a contract that reads -/
theorem mfr {res : Int32} (hM : Met l y wsl rm (va_Pc As (wd D cI cZ cS wc)) (vp_Si (fun r => r = res)) 0 0 (fun _ => False)) (hp : WX.Perm (wc ++ wr)) (M : Int32 → va_W → Prop) (hM2 : M res WX) :
    Met l y wsl rm (va_Pc As (preW D cI cZ cS WX sz)) (va_Qi M (fun u => qW D cI cZ cS (va_A WX sz) u) (va_A WX sz)) 0 0 (va_A WX sz) :=
  met_conseq hM (fun a s h => ⟨h.1, (fr_pre hp h.2).2⟩) (fun a s o t h hW ⟨r, h1, h2, h3⟩ => by
    subst h2
    refine ⟨⟨r, WX, h1, hM2, by rw [h3]; exact h.2.2.1, va_K.moved hW.alike h.2.2.2.1, h.2.2.2.2.self⟩, by rw [h3]; exact Nat.le_refl _, fun q _ _ => by rw [h3]⟩) (fun _ h => h.elim)
end FRM
