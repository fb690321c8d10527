/-! ===== the relation at the start ===== -/
def s00 : Nat → Int32 := upd (fun _ => 0) (0 : Int32).toNatClampNeg 3
def r00 : R9 := (fun _ => 0, fun _ => 0, fun _ => 0, fun _ => 0, fun _ => 0, fun _ => 0, 0, 0, 3)
theorem s00_0 : s00 0 = 3 := rfl
theorem s00_n {k : Nat} (h : k ≠ 0) : s00 k = 0 := pk_un h
theorem ok00 : Ok s00 := by
  have hw : wide s00 = 0 := by decide +kernel
  have hh : high s00 = 0 := by decide +kernel
  have hl : ∀ q, q < 6 → ld s00 q = 0 := by decide +kernel
  refine ⟨⟨by unfold Sm; decide +kernel, by omega, fun w h => by omega, fun q hq => by rw [hl q hq]; omega, fun q k hq hk => by rw [hl q hq] at hk; omega⟩, fun v h => by omega, fun v u h => by omega, by decide +kernel, by omega, fun r h => by omega, fun q k hq hk => by rw [hl q hq] at hk; omega, fun r h => by omega⟩
theorem rel00 : RelN r00 s00 := by
  refine ⟨⟨rfl, (s00_n (by omega)).symm, (s00_n (by omega)).symm, fun k hk => ⟨(s00_n (by omega)).symm, (s00_n (by omega)).symm, (s00_n (by omega)).symm⟩, fun r hr => ⟨(s00_n (by omega)).symm, (s00_n (by omega)).symm, fun j hj => (s00_n (by omega)).symm⟩⟩, ok00⟩
def t00 : T5 := (fun _ => 0, 0, none, 0, 0)
def f00 : Nat → Nat → Int32 := fun j => if j = 1 then s00 else fun _ => 0
theorem relS00 : Rel 0 r00 r00 (fun _ => t00) (fun _ => none) none (fun _ => 0) f00 :=
  ⟨rel00, Or.inl ⟨rfl, rfl⟩, fun k hk => ⟨⟨rfl, Or.inl rfl, fun q => absurd q (show ¬ (0 : Int32) = 2 by decide)⟩, fun q => absurd q (show ¬ (0 : Int32) = 1 by decide), fun _ => ⟨rfl, rfl⟩⟩, fun v h => (by cases h)⟩
