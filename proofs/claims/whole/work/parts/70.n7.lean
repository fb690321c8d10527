/-! ===== told rows are looked at: judge; lay ===== -/
theorem csum_cong {ic c c' : Nat → Nat} : ∀ j, (∀ k, k < j → c k = c' k) → csum ic c j = csum ic c' j
  | 0, _ => rfl
  | j + 1, h => by
    show csum ic c j + ic (c j) = csum ic c' j + ic (c' j)
    rw [csum_cong j (fun k hk => h k (by omega)), h j (by omega)]
theorem giT {n k : Nat} (h : n < k) (hk : k < 2 ^ 31) : gi (nI n) k = true := by
  rw [gi_nI (by omega), decide_eq_true h]
section ENC8
variable {N : Nat} {i m w l d t : Nat → Int32} {x y z : Int32} {s : Nat → Int32}
theorem r_judgeOf (hN : 200 < N) (E : Enc i m w l d t x y z s) (O : Ok s) {r : Nat} (hr : r < high s) {nums sz el us : Nat → Int32} {dd n : Nat} (hd : dd < 8) (hn : n ≤ 100) (hs : sz dd = nI n) (hel : ∀ k, k < 100 → el (100 * dd + k) = nums k) :
    ∃ a us', f_X3_faultOf N i m l d t x z nums (nI n) (nI r) = some a ∧ f_X8_judgeOf N s sz el us (nI r) (nI dd) = some (a, us') ∧ (a = -4 → ∃ c, (∀ k, k < n → nums k = nI (c k)) ∧ LA s r c n) := by
  have h6 := O.h6
  have hw := O.w4
  obtain ⟨hl1, hl2⟩ := O.ln r hr
  have key : ∀ (f j : Nat) (c : Nat → Nat) (us : Nat → Int32), j ≤ n → n < j + f → (∀ v, v < 4 → us v = nI (usd c j v)) → (∀ k, k < j → nums k = nI (c k) ∧ c k < wide s) → (∀ v, v < 4 → usd c j v ≤ mny s v) → (j = 0 ∨ csum (inch s) c (j - 1) < len s r) →
      ∃ a us', f_X3_faultOf_L8 N i m l d t x z nums (nI n) (nI r) f (nI (csum (inch s) c j)) (nI (cod (usd c j))) (nI j) = some a ∧ f_X8_judgeOf_L25 N s sz el (nI r) (nI dd) f (nI (csum (inch s) c j)) (nI j) us = some (a, us') ∧ (a = -4 → ∃ c, (∀ k, k < n → nums k = nI (c k)) ∧ LA s r c n) := by
    intro f
    induction f with
    | zero => intro j c us h1 h2; omega
    | succ f ih =>
      intro j c us h1 h2 hus hc hu hj0
      have hcs : csum (inch s) c j < 100 := by
        rcases hj0 with e | e
        · rw [e]; show 0 < 100; omega
        · cases j with
          | zero => show 0 < 100; omega
          | succ j =>
            have := O.i30 (c j) (hc j (by omega)).2
            show csum (inch s) c j + inch s (c j) < 100
            have e2 : csum (inch s) c j < len s r := e
            omega
      have g3 : gi (nI r) 6 = true := giT (by omega) (by omega)
      have g4 : gi (nI dd) 8 = true := giT (by omega) (by omega)
      rw [f_X3_faultOf_L8, f_X8_judgeOf_L25]
      simp only [g3, g4, ck_t, cl_nI (show dd < 2 ^ 31 by omega), hs, e_lengthOf O.S (show r < 6 by omega), cl_nI (show r < 2 ^ 31 by omega), E.len O.S (show r < 6 by omega), bs]
      by_cases hj : j = n
      · subst hj
        rw [if_pos (nI_le (Nat.le_refl _) (by omega)), if_pos (nI_le (Nat.le_refl _) (by omega))]
        by_cases hp : len s r ≤ csum (inch s) c j
        · rw [if_pos (nI_le hp (by omega)), if_pos (nI_le hp (by omega))]
          refine ⟨_, _, rfl, rfl, fun _ => ⟨c, fun k hk => (hc k hk).1, ?_⟩⟩
          have hpos : 0 < j := by
            rcases Nat.eq_zero_or_pos j with e | e
            · subst e
              have : csum (inch s) c 0 = 0 := rfl
              omega
            · exact e
          have hlt : csum (inch s) c (j - 1) < len s r := by
            rcases hj0 with e | e
            · omega
            · exact e
          have h5 := csum5 (ic := inch s) (c := c) (n := 0) (j - 1) (fun k hk => O.i5 (c k) (hc k (by omega)).2)
          exact ⟨hpos, by omega, fun k hk => (hc k hk).2, hu, hlt, hp⟩
        · rw [if_neg (nI_ge (by omega) (by omega)), if_neg (nI_ge (by omega) (by omega))]
          refine ⟨_, _, rfl, rfl, fun e => ?_⟩
          have z1 : ¬ nI j < 0 := nI_pos (by omega)
          rw [e] at z1
          exact absurd (show (-4 : Int32) < 0 by decide) z1
      · have hno : ∀ us' : Nat → Int32, ∃ a us'', some (nI j) = some a ∧ some (nI j, us') = some (a, us'') ∧ (a = -4 → ∃ c, (∀ k, k < n → nums k = nI (c k)) ∧ LA s r c n) := fun us' => ⟨_, _, rfl, rfl, fun e => by
          have z1 : ¬ nI j < 0 := nI_pos (by omega)
          rw [e] at z1
          exact absurd (show (-4 : Int32) < 0 by decide) z1⟩
        rw [if_neg (nI_ge (by omega) (by omega)), if_neg (nI_ge (by omega) (by omega)), show (100 : Int32) = nI 100 from rfl, pk_mul, nI_add]
        have g1 : gi (nI j) 100 = true := giT (by omega) (by omega)
        have g2 : gi (nI (100 * dd + j)) 800 = true := giT (by omega) (by omega)
        simp only [g1, g2, ck_t, cl_nI (show j < 2 ^ 31 by omega), cl_nI (show 100 * dd + j < 2 ^ 31 by omega), hel j (by omega), e_isWidth O.S, bs]
        cases hb : inB (nums j) (wide s) with
        | false =>
          rw [if_pos (show b2i false = 0 from rfl)]
          have e1 : (if nI (len s r) ≤ nI (csum (inch s) c j) then some (nI j, us) else some (nI j, us)) = some (nI j, us) := by split <;> rfl
          rw [e1]
          have hb2 : nums j < 0 ∨ x ≤ nums j := by
            rcases pk_ix (nums j) (n := wide s) (by omega) with q | q | ⟨v, q1, q2⟩
            · exact Or.inl q
            · exact Or.inr (by rw [E.wide O.S]; exact q)
            · rw [q2, inB_i (by omega) q1] at hb
              cases hb
          rcases hb2 with q | q
          · rw [if_pos q]
            exact hno us
          · by_cases q0 : nums j < 0
            · rw [if_pos q0]
              exact hno us
            · rw [if_neg q0, if_pos q]
              exact hno us
        | true =>
          obtain ⟨v, hv, hnv⟩ := inB_t (by omega) hb
          have hub := hu v (by omega)
          have hm12 := O.m12 v (by omega)
          have hi30 := O.i30 v hv
          have g5 : gi (nI v) 4 = true := giT (by omega) (by omega)
          rw [if_neg (show ¬ b2i true = 0 by decide), hnv, if_neg (nI_pos (by omega)), E.wide O.S, if_neg (nI_ge hv (by omega)), c_of (fun u hu4 => by have := hu u hu4; have := O.m12 u hu4; omega) (by omega)]
          simp only [g5, ck_t, bs, cl_nI (show v < 2 ^ 31 by omega), E.mny O.S (show v < 4 by omega), e_many O.S (show v < 31 by omega), hus v (by omega)]
          by_cases hp : len s r ≤ csum (inch s) c j
          · rw [if_pos (nI_le hp (by omega))]
            by_cases hm : mny s v ≤ usd c j v
            · rw [if_pos (nI_le hm (by omega))]
              exact hno us
            · rw [if_neg (nI_ge (by omega) (by omega)), if_neg (nI_nlt (by omega) (by omega))]
              exact hno us
          · rw [if_neg (nI_ge (a := csum (inch s) c j) (b := len s r) (by omega) (by omega)), if_pos (nI_lt (a := csum (inch s) c j) (b := len s r) (by omega) (by omega))]
            by_cases hm : mny s v ≤ usd c j v
            · rw [if_pos (nI_le hm (by omega)), if_pos (show nI (usd c j v) = nI (mny s v) by rw [show usd c j v = mny s v by omega])]
              exact hno us
            · rw [if_neg (nI_ge (by omega) (by omega)), if_neg (fun q => by have := (nI_eq (by omega) (by omega)).mp q; omega)]
              simp only [c_more (N := N) (τ := usd c j) (show v < 4 by omega), bs, E.inch O.S (show v < 4 by omega), e_inches (N := N) O.S (show v < 32 by omega), nI_add, nI_1]
              -- the widths told so far, and this one
              have hc' : ∀ k, k < j + 1 → nums k = nI ((fun q => if q = j then v else c q) k) ∧ (fun q => if q = j then v else c q) k < wide s := fun k hk => by
                by_cases e : k = j
                · subst e
                  try dsimp only
                  rw [if_pos rfl]
                  exact ⟨hnv, hv⟩
                · try dsimp only
                  rw [if_neg e]
                  exact hc k (by omega)
              have eu : ∀ q, q ≤ j → usd (fun q => if q = j then v else c q) q = usd c q := by
                intro q
                induction q with
                | zero => intro _; rfl
                | succ q ihq =>
                  intro hq
                  show inc (usd _ q) (if q = j then v else c q) = inc (usd c q) (c q)
                  rw [ihq (by omega), if_neg (by omega)]
              have eu1 : usd (fun q => if q = j then v else c q) (j + 1) = inc (usd c j) v := by
                show inc (usd _ j) (if j = j then v else c j) = _
                rw [eu j (Nat.le_refl _), if_pos rfl]
              have ec : csum (inch s) (fun q => if q = j then v else c q) j = csum (inch s) c j := csum_cong j (fun k hk => if_neg (by omega))
              have ec1 : csum (inch s) (fun q => if q = j then v else c q) (j + 1) = csum (inch s) c j + inch s v := by
                show csum (inch s) _ j + inch s (if j = j then v else c j) = _
                rw [ec, if_pos rfl]
              have hnext := ih (j + 1) (fun q => if q = j then v else c q) (upd us v (nI (usd c j v + 1))) (by omega) (by omega) (fun u hu4 => by
                rw [eu1]
                unfold inc
                by_cases e : u = v
                · subst e
                  rw [pk_us, if_pos rfl]
                · rw [pk_un e, if_neg e]
                  exact hus u hu4) hc' (fun u hu4 => by
                rw [eu1]
                unfold inc
                have := hu u hu4
                by_cases e : u = v
                · subst e
                  rw [if_pos rfl]
                  omega
                · rw [if_neg e]
                  omega) (Or.inr (by
                show csum (inch s) _ j < _
                rw [ec]
                omega))
              rw [eu1, ec1] at hnext
              by_cases hp2 : len s r ≤ csum (inch s) c j + inch s v
              · rw [if_pos (nI_le hp2 (by omega)), if_pos (nI_le hp2 (by omega)), ← E.wide O.S]
                exact hnext
              · rw [if_neg (nI_ge (by omega) (by omega)), if_neg (nI_ge (by omega) (by omega)), c_allowsJoint E O.S (by omega) (by omega) O.l12 O.sl4 (by omega), e_mayBe O.S (by omega) (by omega) O.l12 O.sl32 (by omega), bs, bs]
                cases mayB s r (csum (inch s) c j + inch s v) with
                | false =>
                  rw [if_pos (show b2i false = 0 from rfl), if_pos (show b2i false = 0 from rfl)]
                  exact hno _
                | true =>
                  rw [if_neg (show ¬ b2i true = 0 by decide), if_neg (show ¬ b2i true = 0 by decide), ← E.wide O.S]
                  exact hnext
  unfold f_X3_faultOf f_X8_judgeOf
  have k0 : ∀ (f j : Nat) (us : Nat → Int32), j ≤ 4 → 4 < j + f → (∀ v, v < j → us v = 0) → ∃ us', (∀ v, v < 4 → us' v = 0) ∧ f_X8_judgeOf_L2 N s sz el (nI r) (nI dd) f (nI j) us = f_X8_judgeOf_L25 N s sz el (nI r) (nI dd) N 0 0 us' := by
    intro f
    induction f with
    | zero => intro j us h1 h2; omega
    | succ f ih =>
      intro j us h1 h2 h3
      rw [f_X8_judgeOf_L2, l4]
      by_cases hj : j = 4
      · subst hj
        rw [if_pos (nI_le (Nat.le_refl _) (by omega))]
        exact ⟨us, h3, rfl⟩
      · rw [if_neg (nI_ge (by omega) (by omega)), ck_nI (by omega) (by omega), cl_nI (by omega), nI_1]
        exact ih (j + 1) (upd us j 0) (by omega) (by omega) (fun v hv => by
          by_cases e : v = j
          · subst e
            rw [pk_us]
          · rw [pk_un e]
            exact h3 v (by omega))
  obtain ⟨us', q1, q2⟩ := k0 N 0 us (by omega) (by omega) (fun v hv => by omega)
  rw [show (0 : Int32) = nI 0 from rfl] at q2 ⊢
  rw [q2]
  exact key N 0 (fun _ => 0) us' (by omega) (by omega) (fun v hv => q1 v hv) (fun k hk => by omega) (fun v hv => Nat.zero_le _) (Or.inl rfl)
end ENC8
