/-! ===== statements on both sides; what a statement does to a roof ===== -/
section STM
variable {N : Nat} {tx el : Nat → Int32} {n dd : Nat}
theorem c_stmt (hN : 5000 < N) (hn : n ≤ 100) {p : Nat} (hp : p < 500) {nb : Nat → Int32} {lt : Int32} : ∃ nb', f_X2_readStatement N nb lt (nI p) tx (nI n) = some ((PS tx n p).1, nb', chr tx n p, nI (PS tx n p).2.1) ∧ ((PS tx n p).1 = true → nb' 0 = nI (PS tx n p).2.2.1 ∧ (chr tx n p = 119 → nb' 1 = nI (PS tx n p).2.2.2.1 ∧ nb' 2 = nI (PS tx n p).2.2.2.2)) := by
  obtain ⟨f, hf⟩ : ∃ f, N = f + 5 := ⟨N - 5, by omega⟩
  unfold f_X2_readStatement PS
  rw [c_sign hn (by omega), bs, nI_1]
  by_cases c1 : chr tx n p = 119
  · rw [if_pos c1, if_pos c1, if_pos c1]
    have hfu : f_X2_readStatement_L64 N (chr tx n p) tx (nI n) 2 N 0 nb (nI (p + 1)) = f_X2_readStatement_L64 N (chr tx n p) tx (nI n) 2 (f + 5) (nI 0) nb (nI (p + 1)) := by rw [← hf]; rfl
    rw [hfu, f_X2_readStatement_L64, if_neg (show ¬ (2 : Int32) < nI 0 by decide), c_num hn (by omega) (by omega)]
    cases h1 : pnum tx n (p + 1) with
    | none =>
      dsimp only
      rw [bs, if_pos (show b2i false = 0 from rfl)]
      exact ⟨_, rfl, fun h => absurd h Bool.false_ne_true⟩
    | some a =>
      obtain ⟨a1, a2, a3⟩ := pnum_le h1
      dsimp only
      rw [bs, if_neg (show ¬ b2i true = 0 by decide), if_neg (show ¬ nI 0 = 2 by decide), c_sg hn (by omega)]
      by_cases c2 : chr tx n a.2 = 32
      · rw [if_pos c2, if_pos c2, bs, if_neg (show ¬ b2i true = 0 by decide), nI_1, f_X2_readStatement_L64, if_neg (show ¬ (2 : Int32) < nI (0 + 1) by decide), c_num hn (by omega) (by omega)]
        cases h2 : pnum tx n (a.2 + 1) with
        | none =>
          dsimp only
          rw [bs, if_pos (show b2i false = 0 from rfl)]
          exact ⟨_, rfl, fun h => absurd h Bool.false_ne_true⟩
        | some b =>
          obtain ⟨b1, b2, b3⟩ := pnum_le h2
          dsimp only
          rw [bs, if_neg (show ¬ b2i true = 0 by decide), if_neg (show ¬ nI (0 + 1) = 2 by decide), c_sg hn (by omega)]
          by_cases c3 : chr tx n b.2 = 32
          · rw [if_pos c3, if_pos c3, bs, if_neg (show ¬ b2i true = 0 by decide), nI_1, f_X2_readStatement_L64, if_neg (show ¬ (2 : Int32) < nI (0 + 1 + 1) by decide), c_num hn (by omega) (by omega)]
            cases h3 : pnum tx n (b.2 + 1) with
            | none =>
              dsimp only
              rw [bs, if_pos (show b2i false = 0 from rfl)]
              exact ⟨_, rfl, fun h => absurd h Bool.false_ne_true⟩
            | some c =>
              obtain ⟨d1, d2, d3⟩ := pnum_le h3
              dsimp only
              rw [bs, if_neg (show ¬ b2i true = 0 by decide), if_pos (show nI (0 + 1 + 1) = 2 by decide), c_sg hn (by omega)]
              by_cases c4 : chr tx n c.2 = 59
              · rw [if_pos c4, if_pos c4, bs, if_neg (show ¬ b2i true = 0 by decide), nI_1, f_X2_readStatement_L64, if_pos (show (2 : Int32) < nI (0 + 1 + 1 + 1) by decide)]
                refine ⟨_, rfl, fun _ => ⟨?_, fun _ => ⟨?_, ?_⟩⟩⟩
                · dsimp only
                  rw [pk_un (by omega), pk_un (by omega), pk_us]
                · dsimp only
                  rw [pk_un (by omega)]
                  exact pk_us
                · dsimp only
                  exact pk_us
              · rw [if_neg c4, if_neg c4, bs, if_pos (show b2i false = 0 from rfl)]
                exact ⟨_, rfl, fun h => absurd h Bool.false_ne_true⟩
          · rw [if_neg c3, if_neg c3, bs, if_pos (show b2i false = 0 from rfl)]
            exact ⟨_, rfl, fun h => absurd h Bool.false_ne_true⟩
      · rw [if_neg c2, if_neg c2, bs, if_pos (show b2i false = 0 from rfl)]
        exact ⟨_, rfl, fun h => absurd h Bool.false_ne_true⟩
  · have one : ∃ nb', f_X2_readStatement_L64 N (chr tx n p) tx (nI n) 0 N 0 nb (nI (p + 1)) = some ((match pnum tx n (p + 1) with
        | none => (false, p + 1, 0, 0, 0)
        | some a => if chr tx n a.2 = 59 then (true, a.2 + 1, a.1, 0, 0) else (false, a.2, 0, 0, 0) : Bool × Nat × Nat × Nat × Nat).1, nb', chr tx n p, nI (match pnum tx n (p + 1) with
        | none => (false, p + 1, 0, 0, 0)
        | some a => if chr tx n a.2 = 59 then (true, a.2 + 1, a.1, 0, 0) else (false, a.2, 0, 0, 0) : Bool × Nat × Nat × Nat × Nat).2.1) ∧ ((match pnum tx n (p + 1) with
        | none => (false, p + 1, 0, 0, 0)
        | some a => if chr tx n a.2 = 59 then (true, a.2 + 1, a.1, 0, 0) else (false, a.2, 0, 0, 0) : Bool × Nat × Nat × Nat × Nat).1 = true → nb' 0 = nI (match pnum tx n (p + 1) with
        | none => (false, p + 1, 0, 0, 0)
        | some a => if chr tx n a.2 = 59 then (true, a.2 + 1, a.1, 0, 0) else (false, a.2, 0, 0, 0) : Bool × Nat × Nat × Nat × Nat).2.2.1) := by
      have hfu : f_X2_readStatement_L64 N (chr tx n p) tx (nI n) 0 N 0 nb (nI (p + 1)) = f_X2_readStatement_L64 N (chr tx n p) tx (nI n) 0 (f + 5) (nI 0) nb (nI (p + 1)) := by rw [← hf]; rfl
      rw [hfu, f_X2_readStatement_L64, if_neg (show ¬ (0 : Int32) < nI 0 by decide), c_num hn (by omega) (by omega)]
      cases h1 : pnum tx n (p + 1) with
      | none =>
        dsimp only
        rw [bs, if_pos (show b2i false = 0 from rfl)]
        exact ⟨_, rfl, fun h => absurd h Bool.false_ne_true⟩
      | some a =>
        obtain ⟨a1, a2, a3⟩ := pnum_le h1
        dsimp only
        rw [bs, if_neg (show ¬ b2i true = 0 by decide), if_pos (show nI 0 = 0 from rfl), c_sg hn (by omega)]
        by_cases c4 : chr tx n a.2 = 59
        · rw [if_pos c4, if_pos c4, bs, if_neg (show ¬ b2i true = 0 by decide), nI_1, f_X2_readStatement_L64, if_pos (show (0 : Int32) < nI (0 + 1) by decide)]
          exact ⟨_, rfl, fun _ => by dsimp only; exact pk_us⟩
        · rw [if_neg c4, if_neg c4, bs, if_pos (show b2i false = 0 from rfl)]
          exact ⟨_, rfl, fun h => absurd h Bool.false_ne_true⟩
    rw [if_neg c1, if_neg c1, if_neg c1]
    obtain ⟨nb', o1, o2⟩ := one
    by_cases c2 : chr tx n p = 114
    · rw [if_pos c2, if_pos (Or.inl c2), o1]
      exact ⟨nb', rfl, fun h => ⟨o2 h, fun q => absurd q c1⟩⟩
    · rw [if_neg c2]
      by_cases c3 : chr tx n p = 108
      · rw [if_pos c3, if_pos (Or.inr c3), o1]
        exact ⟨nb', rfl, fun h => ⟨o2 h, fun q => absurd q c1⟩⟩
      · rw [if_neg c3, if_neg (fun q => q.elim c2 c3)]
        exact ⟨_, rfl, fun h => absurd h Bool.false_ne_true⟩
theorem e_stmt (hN : 5000 < N) (hn : n ≤ 100) (hd : dd < 8) (hel : ∀ k, k < 100 → el (100 * dd + k) = tx k) {p : Nat} (hp : p < 500) {nb : Nat → Int32} {num told : Int32} : ∃ num' told' nb', f_X8_readsStatement N el (nI p) (nI (100 * dd)) (nI n) num told nb = some ((PS tx n p).1, nI (PS tx n p).2.1, num', told', nb') ∧ ((PS tx n p).1 = true → nb' 0 = nI (PS tx n p).2.2.1 ∧ (chr tx n p = 119 → nb' 1 = nI (PS tx n p).2.2.2.1 ∧ nb' 2 = nI (PS tx n p).2.2.2.2)) := by
  obtain ⟨f, hf⟩ : ∃ f, N = f + 5 := ⟨N - 5, by omega⟩
  unfold f_X8_readsStatement PS
  rw [e_here hn hd hel (by omega), bs, nI_1]
  have q1 := here_eq (tx := tx) (n := n) (p := p) (c := 119) (by decide) (by decide)
  have q2 := here_eq (tx := tx) (n := n) (p := p) (c := 114) (by decide) (by decide)
  have q3 := here_eq (tx := tx) (n := n) (p := p) (c := 108) (by decide) (by decide)
  generalize (if p < n then tx p else -1000) = hc at q1 q2 q3
  obtain ⟨num1, e1⟩ := e_num (N := N) hn hd hel (p := p + 1) (j := 0) (by omega) (by omega) (nb := nb) (num := num)
  have e1' : f_X8_readsNumber N el (nI (p + 1)) (nI (100 * dd)) (nI n) num 0 nb = _ := e1
  rw [e1']
  by_cases c1 : chr tx n p = 119
  · have g1 := q1.mpr c1
    rw [if_pos g1, if_pos c1]
    cases h1 : pnum tx n (p + 1) with
    | none =>
      dsimp only
      rw [bs, if_pos (show b2i false = 0 from rfl)]
      exact ⟨_, _, _, rfl, fun h => absurd h Bool.false_ne_true⟩
    | some a =>
      obtain ⟨a1, a2, a3⟩ := pnum_le h1
      dsimp only
      have hfu : ∀ (a b c : Int32) (d : Nat → Int32), f_X8_readsStatement_L49 N el (nI (100 * dd)) (nI n) hc N a b c d = f_X8_readsStatement_L49 N el (nI (100 * dd)) (nI n) hc (f + 5) a b c d := fun a b c d => by rw [← hf]
      rw [bs, if_neg (show ¬ b2i true = 0 by decide), hfu, f_X8_readsStatement_L49, if_pos g1, if_neg (show ¬ (3 : Int32) ≤ nI (0 + 1) by decide), e_tk hn hd hel (by omega) (by decide) (by decide)]
      by_cases c2 : chr tx n a.2 = 32
      · obtain ⟨num2, e2⟩ := e_num (N := N) hn hd hel (p := a.2 + 1) (j := 0 + 1) (by omega) (by omega) (nb := upd nb 0 (nI a.1)) (num := num1)
        rw [if_pos c2, if_pos c2, bs, if_neg (show ¬ b2i true = 0 by decide)]
        dsimp only
        rw [e2]
        cases h2 : pnum tx n (a.2 + 1) with
        | none =>
          dsimp only
          rw [bs, if_pos (show b2i false = 0 from rfl)]
          exact ⟨_, _, _, rfl, fun h => absurd h Bool.false_ne_true⟩
        | some b =>
          obtain ⟨b1, b2, b3⟩ := pnum_le h2
          dsimp only
          rw [bs, if_neg (show ¬ b2i true = 0 by decide), f_X8_readsStatement_L49, if_pos g1, if_neg (show ¬ (3 : Int32) ≤ nI (0 + 1 + 1) by decide), e_tk hn hd hel (by omega) (by decide) (by decide)]
          by_cases c3 : chr tx n b.2 = 32
          · obtain ⟨num3, e3⟩ := e_num (N := N) hn hd hel (p := b.2 + 1) (j := 0 + 1 + 1) (by omega) (by omega) (nb := upd (upd nb 0 (nI a.1)) (0 + 1) (nI b.1)) (num := num2)
            rw [if_pos c3, if_pos c3, bs, if_neg (show ¬ b2i true = 0 by decide)]
            dsimp only
            rw [e3]
            cases h3 : pnum tx n (b.2 + 1) with
            | none =>
              dsimp only
              rw [bs, if_pos (show b2i false = 0 from rfl)]
              exact ⟨_, _, _, rfl, fun h => absurd h Bool.false_ne_true⟩
            | some c =>
              obtain ⟨d1, d2, d3⟩ := pnum_le h3
              dsimp only
              rw [bs, if_neg (show ¬ b2i true = 0 by decide), f_X8_readsStatement_L49, if_pos g1, if_pos (show (3 : Int32) ≤ nI (0 + 1 + 1 + 1) by decide), e_tk hn hd hel (by omega) (by decide) (by decide)]
              by_cases c4 : chr tx n c.2 = 59
              · rw [if_pos c4, if_pos c4, bs]
                refine ⟨_, _, _, rfl, fun _ => ⟨?_, fun _ => ⟨?_, ?_⟩⟩⟩
                · dsimp only
                  rw [pk_un (by omega), pk_un (by omega), pk_us]
                · dsimp only
                  rw [pk_un (by omega)]
                  exact pk_us
                · dsimp only
                  exact pk_us
              · rw [if_neg c4, if_neg c4, bs]
                exact ⟨_, _, _, rfl, fun h => absurd h Bool.false_ne_true⟩
          · rw [if_neg c3, if_neg c3, bs, if_pos (show b2i false = 0 from rfl)]
            exact ⟨_, _, _, rfl, fun h => absurd h Bool.false_ne_true⟩
      · rw [if_neg c2, if_neg c2, bs, if_pos (show b2i false = 0 from rfl)]
        exact ⟨_, _, _, rfl, fun h => absurd h Bool.false_ne_true⟩
  · have g1 : ¬ hc = 119 := fun q => c1 (q1.mp q)
    rw [if_neg g1, if_neg c1]
    by_cases c2 : chr tx n p = 114 ∨ chr tx n p = 108
    · rw [if_pos c2]
      have hboth : ∀ {α : Type} (A B : Option α), (if hc = 114 then A else if hc = 108 then A else B) = A := fun A B => by
        rcases c2 with c2 | c2
        · rw [if_pos (q2.mpr c2)]
        · by_cases e : hc = 114
          · rw [if_pos e]
          · rw [if_neg e, if_pos (q3.mpr c2)]
      rw [hboth]
      cases h1 : pnum tx n (p + 1) with
      | none =>
        dsimp only
        rw [bs, if_pos (show b2i false = 0 from rfl)]
        exact ⟨_, _, _, rfl, fun h => absurd h Bool.false_ne_true⟩
      | some a =>
        obtain ⟨a1, a2, a3⟩ := pnum_le h1
        dsimp only
        have hfu : ∀ (a b c : Int32) (d : Nat → Int32), f_X8_readsStatement_L49 N el (nI (100 * dd)) (nI n) hc N a b c d = f_X8_readsStatement_L49 N el (nI (100 * dd)) (nI n) hc (f + 5) a b c d := fun a b c d => by rw [← hf]
        rw [bs, if_neg (show ¬ b2i true = 0 by decide), hfu, f_X8_readsStatement_L49, if_neg g1, e_tk hn hd hel (by omega) (by decide) (by decide)]
        by_cases c4 : chr tx n a.2 = 59
        · rw [if_pos c4, if_pos c4, bs]
          exact ⟨_, _, _, rfl, fun _ => ⟨by dsimp only; exact pk_us, fun q => absurd q c1⟩⟩
        · rw [if_neg c4, if_neg c4, bs]
          exact ⟨_, _, _, rfl, fun h => absurd h Bool.false_ne_true⟩
    · rw [if_neg c2, if_neg (fun q => c2 (Or.inl (q2.mp q))), if_neg (fun q => c2 (Or.inr (q3.mp q)))]
      exact ⟨_, _, _, rfl, fun h => absurd h Bool.false_ne_true⟩
end STM
section ADD
variable {s : Nat → Int32}
/-- one row more -/
theorem Ok.addRow (O : Ok s) {v : Nat} (h1 : 10 ≤ v) (h2 : v ≤ 60) (hh : high s < 6) : Ok (upd (upd (upd s (15 + 14 * high s) (nI v)) (15 + 14 * high s + 1) (nI 0)) 2 (nI (high s + 1))) := by
  have hw := O.w4
  have S' : Sm (upd (upd (upd s (15 + 14 * high s) (nI v)) (15 + 14 * high s + 1) (nI 0)) 2 (nI (high s + 1))) := ((O.S.upd (by omega)).upd (by omega)).upd (by omega)
  have hne : ∀ k, k ≠ 15 + 14 * high s → k ≠ 15 + 14 * high s + 1 → k ≠ 2 → rN (upd (upd (upd s (15 + 14 * high s) (nI v)) (15 + 14 * high s + 1) (nI 0)) 2 (nI (high s + 1))) k = rN s k := fun k a b c => by
    rw [rN_ne c, rN_ne b, rN_ne a]
  generalize hs' : upd (upd (upd s (15 + 14 * high s) (nI v)) (15 + 14 * high s + 1) (nI 0)) 2 (nI (high s + 1)) = s' at S' hne
  have ei : ∀ v, v < 4 → inch s' v = inch s v := fun v hv => hne _ (by omega) (by omega) (by omega)
  have em : ∀ v, v < 4 → mny s' v = mny s v := fun v hv => hne _ (by omega) (by omega) (by omega)
  have ew : wide s' = wide s := hne _ (by omega) (by omega) (by omega)
  have eh : high s' = high s + 1 := by
    subst hs'
    exact rN_eq (by omega)
  have el : ∀ q, q < 6 → len s' q = if q = high s then v else len s q := fun q hq => by
    by_cases e : q = high s
    · rw [if_pos e]
      subst hs'
      show rN _ (15 + 14 * q) = v
      rw [e, rN_ne (by omega), rN_ne (by omega), rN_eq (by omega)]
    · rw [if_neg e]
      exact hne _ (by omega) (by omega) (by omega)
  have ed : ∀ q, q < 6 → ld s' q = if q = high s then 0 else ld s q := fun q hq => by
    by_cases e : q = high s
    · rw [if_pos e]
      subst hs'
      show rN _ (15 + 14 * q + 1) = 0
      rw [e, rN_ne (by omega), rN_eq (by omega)]
    · rw [if_neg e]
      exact hne _ (by omega) (by omega) (by omega)
  have es : ∀ q k, q < 6 → k < 12 → sl s' q k = sl s q k := fun q k hq hk => hne _ (by omega) (by omega) (by omega)
  refine ⟨⟨S', by rw [ew]; exact hw, fun v hv => ?_, fun q hq => ?_, fun q k hq hk => ?_⟩, fun v hv => ?_, fun v u hv hu he => ?_, fun v hv => ?_, by rw [eh]; omega, fun q hq => ?_, fun q k hq hk => ?_, fun q hq hl => ?_⟩
  · rw [ew] at hv
    rw [ei v (by omega)]
    exact O.i5 v hv
  · rw [ed q hq]
    have := O.l12 q hq
    split <;> omega
  · have hl := O.l12 q hq
    rw [ed q hq] at hk
    by_cases e : q = high s
    · rw [if_pos e] at hk
      omega
    · rw [if_neg e] at hk
      rw [es q k hq (by omega)]
      exact O.sl4 q k hq hk
  · rw [ew] at hv
    rw [ei v (by omega)]
    exact O.i30 v hv
  · rw [ew] at hv hu
    rw [ei v (by omega), ei u (by omega)] at he
    exact O.dist v u hv hu he
  · rw [em v hv]
    exact O.m12 v hv
  · rw [eh] at hq
    rw [el q (by omega)]
    by_cases e : q = high s
    · rw [if_pos e]
      exact ⟨h1, h2⟩
    · rw [if_neg e]
      exact O.ln q (by omega)
  · have hl := O.l12 q hq
    rw [ed q hq] at hk
    by_cases e : q = high s
    · rw [if_pos e] at hk
      omega
    · rw [if_neg e] at hk
      rw [es q k hq (by omega), ew]
      exact O.slw q k hq hk
  · rw [eh] at hq
    have hl12 := O.l12 q (by omega)
    rw [ed q (by omega)] at hl ⊢
    by_cases e : q = high s
    · rw [if_pos e] at hl
      omega
    · rw [if_neg e] at hl ⊢
      have hs : ∀ j, j ≤ ld s q → sumIn s' q j = sumIn s q j := fun j hj => sumIn_cong j (fun k hk => by
        have := O.sl4 q k (by omega) (by omega)
        rw [es q k (by omega) (by omega), ei _ this])
      rw [hs _ (by omega), hs _ (Nat.le_refl _), el q (by omega), if_neg e]
      exact O.sums q (by omega) hl
/-- one width more -/
theorem Ok.addWidth (O : Ok s) {a b c : Nat} (h1 : 5 ≤ a) (h2 : a ≤ 30) (h3 : b ≤ 12) (h4 : c ≤ 99) (hh : wide s < 4) (hn : ∀ u, u < wide s → inch s u ≠ a) : Ok (upd (upd (upd (upd s (3 + 3 * wide s) (nI a)) (3 + 3 * wide s + 1) (nI b)) (3 + 3 * wide s + 2) (nI c)) 1 (nI (wide s + 1))) := by
  have h6 := O.h6
  have S' : Sm (upd (upd (upd (upd s (3 + 3 * wide s) (nI a)) (3 + 3 * wide s + 1) (nI b)) (3 + 3 * wide s + 2) (nI c)) 1 (nI (wide s + 1))) := (((O.S.upd (by omega)).upd (by omega)).upd (by omega)).upd (by omega)
  have hne : ∀ k, k ≠ 3 + 3 * wide s → k ≠ 3 + 3 * wide s + 1 → k ≠ 3 + 3 * wide s + 2 → k ≠ 1 → rN (upd (upd (upd (upd s (3 + 3 * wide s) (nI a)) (3 + 3 * wide s + 1) (nI b)) (3 + 3 * wide s + 2) (nI c)) 1 (nI (wide s + 1))) k = rN s k := fun k q1 q2 q3 q4 => by
    rw [rN_ne q4, rN_ne q3, rN_ne q2, rN_ne q1]
  generalize hs' : upd (upd (upd (upd s (3 + 3 * wide s) (nI a)) (3 + 3 * wide s + 1) (nI b)) (3 + 3 * wide s + 2) (nI c)) 1 (nI (wide s + 1)) = s' at S' hne
  have ei : ∀ v, v < 4 → inch s' v = if v = wide s then a else inch s v := fun v hv => by
    by_cases e : v = wide s
    · rw [if_pos e]
      subst hs'
      show rN _ (3 + 3 * v) = a
      rw [e, rN_ne (by omega), rN_ne (by omega), rN_ne (by omega), rN_eq (by omega)]
    · rw [if_neg e]
      exact hne _ (by omega) (by omega) (by omega) (by omega)
  have em : ∀ v, v < 4 → mny s' v = if v = wide s then b else mny s v := fun v hv => by
    by_cases e : v = wide s
    · rw [if_pos e]
      subst hs'
      show rN _ (3 + 3 * v + 1) = b
      rw [e, rN_ne (by omega), rN_ne (by omega), rN_eq (by omega)]
    · rw [if_neg e]
      exact hne _ (by omega) (by omega) (by omega) (by omega)
  have ew : wide s' = wide s + 1 := by
    subst hs'
    exact rN_eq (by omega)
  have eh : high s' = high s := hne _ (by omega) (by omega) (by omega) (by omega)
  have el : ∀ q, q < 6 → len s' q = len s q := fun q hq => hne _ (by omega) (by omega) (by omega) (by omega)
  have ed : ∀ q, q < 6 → ld s' q = ld s q := fun q hq => hne _ (by omega) (by omega) (by omega) (by omega)
  have es : ∀ q k, q < 6 → k < 12 → sl s' q k = sl s q k := fun q k hq hk => hne _ (by omega) (by omega) (by omega) (by omega)
  refine ⟨⟨S', by rw [ew]; omega, fun v hv => ?_, fun q hq => ?_, fun q k hq hk => ?_⟩, fun v hv => ?_, fun v u hv hu he => ?_, fun v hv => ?_, by rw [eh]; exact h6, fun q hq => ?_, fun q k hq hk => ?_, fun q hq hl => ?_⟩
  · rw [ew] at hv
    rw [ei v (by omega)]
    by_cases e : v = wide s
    · rw [if_pos e]
      exact h1
    · rw [if_neg e]
      exact O.i5 v (by omega)
  · rw [ed q hq]
    exact O.l12 q hq
  · have hl := O.l12 q hq
    rw [ed q hq] at hk
    rw [es q k hq (by omega)]
    exact O.sl4 q k hq hk
  · rw [ew] at hv
    rw [ei v (by omega)]
    by_cases e : v = wide s
    · rw [if_pos e]
      exact h2
    · rw [if_neg e]
      exact O.i30 v (by omega)
  · rw [ew] at hv hu
    rw [ei v (by omega), ei u (by omega)] at he
    by_cases e1 : v = wide s
    · by_cases e2 : u = wide s
      · omega
      · rw [if_pos e1, if_neg e2] at he
        exact absurd he.symm (hn u (by omega))
    · by_cases e2 : u = wide s
      · rw [if_neg e1, if_pos e2] at he
        exact absurd he (hn v (by omega))
      · rw [if_neg e1, if_neg e2] at he
        exact O.dist v u (by omega) (by omega) he
  · rw [em v hv]
    have := O.m12 v hv
    split <;> omega
  · rw [eh] at hq
    rw [el q (by omega)]
    exact O.ln q hq
  · have hl := O.l12 q hq
    rw [ed q hq] at hk
    rw [es q k hq (by omega), ew]
    have := O.slw q k hq hk
    omega
  · rw [eh] at hq
    have hl12 := O.l12 q (by omega)
    rw [ed q (by omega)] at hl ⊢
    have hs : ∀ j, j ≤ ld s q → sumIn s' q j = sumIn s q j := fun j hj => sumIn_cong j (fun k hk => by
      have := O.slw q k (by omega) (by omega)
      rw [es q k (by omega) (by omega), ei _ (by omega), if_neg (by omega)])
    rw [hs _ (by omega), hs _ (Nat.le_refl _), el q (by omega)]
    exact O.sums q hq hl
end ADD
