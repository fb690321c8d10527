/-! ===== how many slots, how many takes ===== -/
theorem cap4 {a b c d : Nat} (ha : 5 ≤ a) (hb : a < b) (hc : b < c) (hd : c < d) : 60 / a + 1 ≤ 13 ∧ 60 / b + 1 ≤ 11 ∧ 60 / c + 1 ≤ 9 ∧ 60 / d + 1 ≤ 8 := by
  have h1 : 60 / a ≤ 60 / 5 := Nat.div_le_div_left ha (by omega)
  have h2 : 60 / b ≤ 60 / 6 := Nat.div_le_div_left (by omega) (by omega)
  have h3 : 60 / c ≤ 60 / 7 := Nat.div_le_div_left (by omega) (by omega)
  have h4 : 60 / d ≤ 60 / 8 := Nat.div_le_div_left (by omega) (by omega)
  omega
theorem mul4 {a b c d p q r s : Nat} (h1 : a ≤ p) (h2 : b ≤ q) (h3 : c ≤ r) (h4 : d ≤ s) : a * b * c * d ≤ p * q * r * s := Nat.mul_le_mul (Nat.mul_le_mul (Nat.mul_le_mul h1 h2) h3) h4
theorem prod4 {a b c d : Nat} (ha : 5 ≤ a) (hb : 5 ≤ b) (hc : 5 ≤ c) (hd : 5 ≤ d) (ab : a ≠ b) (ac : a ≠ c) (ad : a ≠ d) (bc : b ≠ c) (bd : b ≠ d) (cd : c ≠ d) : (60 / a + 1) * (60 / b + 1) * (60 / c + 1) * (60 / d + 1) ≤ 10296 := by
  rcases Nat.lt_or_gt_of_ne ab with x1 | x1 <;> rcases Nat.lt_or_gt_of_ne ac with x2 | x2 <;> rcases Nat.lt_or_gt_of_ne ad with x3 | x3 <;> rcases Nat.lt_or_gt_of_ne bc with x4 | x4 <;> rcases Nat.lt_or_gt_of_ne bd with x5 | x5 <;> rcases Nat.lt_or_gt_of_ne cd with x6 | x6 <;>
  first
  | omega
  | (obtain ⟨q1, q2, q3, q4⟩ := cap4 ha x1 x4 x6; exact Nat.le_trans (mul4 q1 q2 q3 q4) (by decide))
  | (obtain ⟨q1, q2, q3, q4⟩ := cap4 ha x1 x5 x6; exact Nat.le_trans (mul4 q1 q2 q4 q3) (by decide))
  | (obtain ⟨q1, q2, q3, q4⟩ := cap4 ha x2 x4 x5; exact Nat.le_trans (mul4 q1 q3 q2 q4) (by decide))
  | (obtain ⟨q1, q2, q3, q4⟩ := cap4 ha x2 x6 x5; exact Nat.le_trans (mul4 q1 q4 q2 q3) (by decide))
  | (obtain ⟨q1, q2, q3, q4⟩ := cap4 ha x3 x5 x4; exact Nat.le_trans (mul4 q1 q3 q4 q2) (by decide))
  | (obtain ⟨q1, q2, q3, q4⟩ := cap4 ha x3 x6 x4; exact Nat.le_trans (mul4 q1 q4 q3 q2) (by decide))
  | (obtain ⟨q1, q2, q3, q4⟩ := cap4 hb x1 x2 x6; exact Nat.le_trans (mul4 q2 q1 q3 q4) (by decide))
  | (obtain ⟨q1, q2, q3, q4⟩ := cap4 hb x1 x3 x6; exact Nat.le_trans (mul4 q2 q1 q4 q3) (by decide))
  | (obtain ⟨q1, q2, q3, q4⟩ := cap4 hb x4 x2 x3; exact Nat.le_trans (mul4 q3 q1 q2 q4) (by decide))
  | (obtain ⟨q1, q2, q3, q4⟩ := cap4 hb x4 x6 x3; exact Nat.le_trans (mul4 q4 q1 q2 q3) (by decide))
  | (obtain ⟨q1, q2, q3, q4⟩ := cap4 hb x5 x3 x2; exact Nat.le_trans (mul4 q3 q1 q4 q2) (by decide))
  | (obtain ⟨q1, q2, q3, q4⟩ := cap4 hb x5 x6 x2; exact Nat.le_trans (mul4 q4 q1 q3 q2) (by decide))
  | (obtain ⟨q1, q2, q3, q4⟩ := cap4 hc x2 x1 x5; exact Nat.le_trans (mul4 q2 q3 q1 q4) (by decide))
  | (obtain ⟨q1, q2, q3, q4⟩ := cap4 hc x2 x3 x5; exact Nat.le_trans (mul4 q2 q4 q1 q3) (by decide))
  | (obtain ⟨q1, q2, q3, q4⟩ := cap4 hc x4 x1 x3; exact Nat.le_trans (mul4 q3 q2 q1 q4) (by decide))
  | (obtain ⟨q1, q2, q3, q4⟩ := cap4 hc x4 x5 x3; exact Nat.le_trans (mul4 q4 q2 q1 q3) (by decide))
  | (obtain ⟨q1, q2, q3, q4⟩ := cap4 hc x6 x3 x1; exact Nat.le_trans (mul4 q3 q4 q1 q2) (by decide))
  | (obtain ⟨q1, q2, q3, q4⟩ := cap4 hc x6 x5 x1; exact Nat.le_trans (mul4 q4 q3 q1 q2) (by decide))
  | (obtain ⟨q1, q2, q3, q4⟩ := cap4 hd x3 x1 x4; exact Nat.le_trans (mul4 q2 q3 q4 q1) (by decide))
  | (obtain ⟨q1, q2, q3, q4⟩ := cap4 hd x3 x2 x4; exact Nat.le_trans (mul4 q2 q4 q3 q1) (by decide))
  | (obtain ⟨q1, q2, q3, q4⟩ := cap4 hd x5 x1 x2; exact Nat.le_trans (mul4 q3 q2 q4 q1) (by decide))
  | (obtain ⟨q1, q2, q3, q4⟩ := cap4 hd x5 x4 x2; exact Nat.le_trans (mul4 q4 q2 q3 q1) (by decide))
  | (obtain ⟨q1, q2, q3, q4⟩ := cap4 hd x6 x2 x1; exact Nat.le_trans (mul4 q3 q4 q2 q1) (by decide))
  | (obtain ⟨q1, q2, q3, q4⟩ := cap4 hd x6 x4 x1; exact Nat.le_trans (mul4 q4 q3 q2 q1) (by decide))
/-- all takes of 12 slates at most, by their codes -/
def allT : List Nat := (List.range 13).flatMap fun a => (List.range (13 - a)).flatMap fun b => (List.range (13 - a - b)).flatMap fun c => (List.range (13 - a - b - c)).map fun d => a + 16 * b + 256 * c + 4096 * d
theorem allT_len : allT.length = 1820 := by decide +kernel
theorem allT_mem {τ : Nat → Nat} (h : τ 0 + τ 1 + τ 2 + τ 3 ≤ 12) : cod τ ∈ allT := by
  unfold allT cod
  refine List.mem_flatMap.mpr ⟨τ 0, List.mem_range.mpr (by omega), List.mem_flatMap.mpr ⟨τ 1, List.mem_range.mpr (by omega), List.mem_flatMap.mpr ⟨τ 2, List.mem_range.mpr (by omega), List.mem_map.mpr ⟨τ 3, List.mem_range.mpr (by omega), rfl⟩⟩⟩⟩
theorem nodup_len : ∀ (l l' : List Nat), l.Nodup → (∀ a, a ∈ l → a ∈ l') → l.length ≤ l'.length
  | [], _, _, _ => Nat.zero_le _
  | a :: l, l', hn, hs => by
    have ha : a ∈ l' := hs a (List.mem_cons_self)
    have h1 : (l'.erase a).length + 1 = l'.length := by
      rw [List.length_erase_of_mem ha]
      have := List.length_pos_of_mem ha
      omega
    have hn2 := List.nodup_cons.mp hn
    have h2 := nodup_len l (l'.erase a) hn2.2 (fun b hb => by
      have hne : b ≠ a := fun e => hn2.1 (e ▸ hb)
      exact (List.mem_erase_of_ne hne).mpr (hs b (List.mem_cons_of_mem _ hb)))
    show l.length + 1 ≤ _
    omega
/-- takes of at most 12 slates, no two alike by their codes: at most 1820 -/
theorem few_takes (T : Nat → Nat → Nat) (n : Nat) (h : ∀ k, k < n → T k 0 + T k 1 + T k 2 + T k 3 ≤ 12) (hi : ∀ j k, j < n → k < n → cod (T j) = cod (T k) → j = k) : n ≤ 1820 := by
  have h1 := nodup_len ((List.range n).map (fun k => cod (T k))) allT (by
    rw [List.nodup_iff_pairwise_ne, List.pairwise_map]
    refine List.Pairwise.imp_of_mem ?_ (List.nodup_iff_pairwise_ne.mp List.nodup_range)
    intro a b ha hb hab e
    exact hab (hi a b (List.mem_range.mp ha) (List.mem_range.mp hb) e)) (by
    intro a ha
    obtain ⟨k, hk, rfl⟩ := List.mem_map.mp ha
    exact allT_mem (h k (List.mem_range.mp hk)))
  rw [List.length_map, List.length_range, allT_len] at h1
  exact h1
