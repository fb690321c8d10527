/-! ===== putDown and the reference's laying ===== -/
section ENC7
variable {N : Nat} {i m w l d t : Nat → Int32} {x y z : Int32} {s : Nat → Int32}
theorem Enc.setSl (E : Enc i m w l d t x y z s) {r j : Nat} {v : Int32} (hr : r < 6) (hj : j < 12) : Enc i m w l d (upd t (12 * r + j) v) x y z (upd s (15 + 14 * r + 2 + j) v) := by
  obtain ⟨e1, e2, e3, e4, e5⟩ := E
  refine ⟨by rw [e1, pk_un (by omega)], by rw [e2, pk_un (by omega)], by rw [e3, pk_un (by omega)], fun k hk => ?_, fun q hq => ?_⟩
  · rw [pk_un (by omega), pk_un (by omega), pk_un (by omega)]
    exact e4 k hk
  · rw [pk_un (by omega), pk_un (by omega)]
    refine ⟨(e5 q hq).1, (e5 q hq).2.1, fun k hk => ?_⟩
    by_cases e : q = r ∧ k = j
    · obtain ⟨e6, e7⟩ := e
      subst e6
      subst e7
      rw [pk_us, pk_us]
    · rw [pk_un (by omega), pk_un (by omega)]
      exact (e5 q hq).2.2 k hk
theorem Enc.setLd (E : Enc i m w l d t x y z s) {r : Nat} {v : Int32} (hr : r < 6) : Enc i m w l (upd d r v) t x y z (upd s (15 + 14 * r + 1) v) := by
  obtain ⟨e1, e2, e3, e4, e5⟩ := E
  refine ⟨by rw [e1, pk_un (by omega)], by rw [e2, pk_un (by omega)], by rw [e3, pk_un (by omega)], fun k hk => ?_, fun q hq => ?_⟩
  · rw [pk_un (by omega), pk_un (by omega), pk_un (by omega)]
    exact e4 k hk
  · rw [pk_un (show 15 + 14 * q ≠ 15 + 14 * r + 1 by omega)]
    refine ⟨(e5 q hq).1, ?_, fun k hk => ?_⟩
    · by_cases e6 : q = r
      · subst e6
        rw [pk_us, pk_us]
      · rw [pk_un e6, pk_un (by omega)]
        exact (e5 q hq).2.1
    · rw [pk_un (by omega)]
      exact (e5 q hq).2.2 k hk
theorem layJ_pos {r : Nat} {c : Nat → Nat} (h : Sm s) (hr : r < 6) {n : Nat} (hn : n ≤ 12) (hc : ∀ k, k < n → c k < 4) (hu : ∀ v, v < 4 → usd c n v ≤ mny s v) {j : Nat} (hj : j < n) : mny (upd (layJ s r c j) (15 + 14 * r + 2 + j) (nI (c j))) (c j) ≠ 0 ∧ Sm (upd (layJ s r c j) (15 + 14 * r + 2 + j) (nI (c j))) ∧ mny (layJ s r c j) (c j) = mny (upd (layJ s r c j) (15 + 14 * r + 2 + j) (nI (c j))) (c j) := by
  have hcj := hc j hj
  obtain ⟨i1, i2, i3, i4⟩ := layJ_all h hr hn hc hu j (by omega)
  have e : mny (upd (layJ s r c j) (15 + 14 * r + 2 + j) (nI (c j))) (c j) = mny (layJ s r c j) (c j) := rN_ne (by omega)
  have hub := usd_lt (c := c) (n := n) (j := j) hj
  have huc := hu (c j) hcj
  refine ⟨?_, i1.upd (by omega), e.symm⟩
  rw [e, i3 _ hcj]
  omega
theorem c_putDown (hN : 20 < N) (E : Enc i m w l d t x y z s) (h : Sm s) {r : Nat} {c : Nat → Nat} (hr : r < 6) {n nU : Nat} (hn : n ≤ 12) (hnU : n ≤ nU) (hU2 : nU ≤ 1000) (hc : ∀ k, k < n → c k < 4) (hu : ∀ v, v < 4 → usd c n v ≤ mny s v) {U : Nat → Int32} (hU : ∀ k, k < n → U k = nI (c k)) :
    ∃ m' d' t', f_X3_putDown N nU m d t U (nI r) (nI n) = some (m', d', t') ∧ Enc i m' w l d' t' x y z (layS s r c n) := by
  unfold f_X3_putDown
  have e0 : mn (nI n) 12 = nI n := by
    show mn (nI n) (nI 12) = nI n
    rw [mn_nI (by omega) (by omega), show min n 12 = n by omega]
  rw [e0]
  have key : ∀ (f j : Nat) (mj tj : Nat → Int32), j ≤ n → n < j + f → Enc i mj w l d tj x y z (layJ s r c j) → ∃ m' d' t', f_X3_putDown_L11 N nU d U (nI r) (nI n) f (nI j) mj tj = some (m', d', t') ∧ Enc i m' w l d' t' x y z (layS s r c n) := by
    intro f
    induction f with
    | zero => intro j mj tj h1 h2; omega
    | succ f ih =>
      intro j mj tj h1 h2 Ej
      rw [f_X3_putDown_L11]
      by_cases hj : j = n
      · subst hj
        rw [if_pos (nI_le (Nat.le_refl _) (by omega)), ck_nI (by omega) (by omega), cl_nI (by omega)]
        exact ⟨_, _, _, rfl, Ej.setLd hr⟩
      · have hcj := hc j (by omega)
        obtain ⟨p1, p2, p3⟩ := layJ_pos h hr hn hc hu (j := j) (by omega)
        obtain ⟨i1, i2, i3, i4⟩ := layJ_all h hr hn hc hu j (by omega)
        rw [if_neg (nI_ge (by omega) (by omega)), ck_nI (by omega) (by omega), l12, pk_mul, nI_add, ck_nI (by omega) (by omega), ck_nI (by omega) (by omega), cl_nI (show j < 2 ^ 31 by omega), hU j (by omega), ck_nI (by omega) (by omega), ck_nI (by omega) (by omega), cl_nI (by omega), cl_nI (by omega), nI_1, Ej.mny i1 hcj, l1, pk_sub (by omega), Nat.mul_comm r 12]
        refine ih (j + 1) _ _ (by omega) (by omega) ?_
        have E2 := Ej.setSl (r := r) (j := j) (v := nI (c j)) hr (by omega)
        have E3 := E2.set (v := c j) (n := mny (layJ s r c j) (c j) - 1) hcj
        rw [p3] at E3 ⊢
        exact E3
  exact key N 0 m t (by omega) (by omega) E
theorem e_lay_L (hN : 20 < N) (h : Sm s) {r : Nat} {c : Nat → Nat} (hr : r < 6) {n : Nat} (hn : n ≤ 12) (hc : ∀ k, k < n → c k < 4) (hu : ∀ v, v < 4 → usd c n v ≤ mny s v) {kp so sz el us : Nat → Int32} {dd : Nat} (hd : dd < 8) (hs : sz dd = nI n) (hel : ∀ k, k < n → el (100 * dd + k) = nI (c k)) :
    f_X8_lay_L41 N kp so sz el us (nI r) (nI dd) N 0 s = (f_X8_cutOf N (layS s r c n) (nI r)).bind fun q => some (q, layS s r c n, us) := by
  have key : ∀ (f j : Nat), j ≤ n → n < j + f → f_X8_lay_L41 N kp so sz el us (nI r) (nI dd) f (nI j) (layJ s r c j) = (f_X8_cutOf N (layS s r c n) (nI r)).bind fun q => some (q, layS s r c n, us) := by
    intro f
    induction f with
    | zero => intro j h1 h2; omega
    | succ f ih =>
      intro j h1 h2
      rw [f_X8_lay_L41, ck_nI (by omega) (by omega), ck_nI (by omega) (by omega), cl_nI (show dd < 2 ^ 31 by omega), hs, l15, l14, l1, l2, show (100 : Int32) = nI 100 from rfl, pk_mul, pk_mul, nI_add, nI_add, nI_add, nI_add, ck_nI (by omega) (by omega), cl_nI (by omega)]
      by_cases hj : j = n
      · subst hj
        rw [if_pos (nI_le (Nat.le_refl _) (by omega))]
        rfl
      · have hcj := hc j (by omega)
        obtain ⟨p1, p2, p3⟩ := layJ_pos h hr hn hc hu (j := j) (by omega)
        rw [if_neg (nI_ge (by omega) (by omega)), nI_add, ck_nI (by omega) (by omega), ck_nI (by omega) (by omega), cl_nI (by omega), cl_nI (by omega), hel j (by omega)]
        have := e_leaves1 (N := N) p2 (w := c j) (by omega) p1
        rw [l1] at this
        rw [this, bs, nI_add]
        exact ih (j + 1) (by omega) (by omega)
  exact key N 0 (by omega) (by omega)
end ENC7
