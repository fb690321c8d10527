section LAWK
variable {p : Program} {l : Launch} {e : Env} {s : State} {m : MethodId} {below : List Frame} {meth : Method} {c : Code} {b L : Nat} {xs : Nat → Int32} {Q : State → Prop}
variable {dC : Nat → ClassId} {dI : Nat → Nat → Nat} {cI cZ cS : ClassId} {F : FX} {Sh : Nat → Option Nat} {A : Nat → Nat} {R0 : (Nat → Int64) → va_W} {aO : Nat}
theorem lsub {i L : Nat} (hi : i < 2 ^ 20) (hL : L < 2 ^ 20) (h : ¬ (Int32.ofNat L - 6) < nI i) : i + 6 ≤ L := by
  have e1 : (nI i).toInt = (i : Int) := nI_toInt (by omega)
  rw [Int32.lt_iff_toInt_lt, e1] at h
  by_cases h6 : 6 ≤ L
  · have e2 : (Int32.ofNat L - 6) = nI (L - 6) := pk_sub (a := L) (b := 6) h6
    rw [e2, nI_toInt (by omega)] at h
    omega
  · exfalso
    have : L = 0 ∨ L = 1 ∨ L = 2 ∨ L = 3 ∨ L = 4 ∨ L = 5 := by omega
    rcases this with rfl | rfl | rfl | rfl | rfl | rfl
    · rw [show (Int32.ofNat 0 - 6).toInt = -6 from by decide] at h; omega
    · rw [show (Int32.ofNat 1 - 6).toInt = -5 from by decide] at h; omega
    · rw [show (Int32.ofNat 2 - 6).toInt = -4 from by decide] at h; omega
    · rw [show (Int32.ofNat 3 - 6).toInt = -3 from by decide] at h; omega
    · rw [show (Int32.ofNat 4 - 6).toInt = -2 from by decide] at h; omega
    · rw [show (Int32.ofNat 5 - 6).toInt = -1 from by decide] at h; omega
theorem law_loop (hC : LC p s m c b L xs (dC, dI) cI cZ cS) (hr : meth.sig.returnType = ret) (hlocks : meth.locks = false) (hSh : ∀ k, k < 8 → Sh k = some (F.2.2.2.2.2.1 k)) (hL : L ≤ 3072)
    (hEl : LK p l e s m below meth c b L xs (lw_Z below #[Value.ref b] s) (dC, dI) cI cZ cS F Sh A R0 aO 1201) (hTo : LK p l e s m below meth c b L xs (lw_Z below #[Value.ref b] s) (dC, dI) cI cZ cS F Sh A R0 aO 1366) :
    ∀ (n k : Nat) (o : Nat → Int64) (bb : Bool) (WX : va_W) (H : Heap) (locs : List Loc) (cells slots : Nat) (ls : Array Slot), 6 * k ≤ L → L < 6 * (k + n) → Inv cI cZ cS F Sh A (R0 o) bb WX → va_P (dC, dI) vwCl WX H → va_D (fun q : Nat => s.heap.size ≤ q) WX → va_S (fun q : Nat => s.heap.size ≤ q) s.heap H locs → lv_has ls 8 [(0, .ref b), (1, .ref F.1), (2, .ref (A 0)), (3, .ref aO), (4, .int (nI (6 * k)))] → cells ≤ bdC k bb → slots ≤ bdS k bb → W p l e room_1 s m #[Value.ref b] below meth c H locs cells slots (lw_Z below #[Value.ref b] s) (F0 m 23 ls []) := by
  intro n
  induction n with
  | zero => intro k o bb WX H locs cells slots ls h1 h2; exact absurd h2 (by omega)
  | succ n ih =>
    intro k o bb WX H locs cells slots ls h1 h2 hI hP hD hS hl hcl hsl
    obtain ⟨hx, hb, hml, hown, hts, hX, hbl, hK⟩ := id hC
    have hA : ∀ q : Nat, s.heap.size ≤ q → (fun q : Nat => s.heap.size ≤ q) q := fun _ h => h
    have hbA : ¬ (fun q : Nat => s.heap.size ≤ q) b := Nat.not_le.mpr hbl
    refine lv_iload hx hb dL_law_23 (lv_at hl 4 rfl) ?_
    refine lv_aload_n hx hb dL_law_25 rfl (lv_at hl 0 rfl) ?_
    refine va_slen hx hb hX hbl hbA hS dL_law_26 ?_
    refine lv_bipush (v := 6) hx hb dL_law_27 (by decide) ?_
    refine lv_isub hx hb dL_law_29 ?_
    refine lv_icmp_gt (tgt := 1397) hx hb dL_law_30 (by decide) (fun c9 => ?_) (fun c9 => ?_)
    · refine lv_iconst (v := 1) hx hb dL_law_1397 (by decide) ?_
      refine va_forget (fun q hq => hS.2.2 q hq) ?_
      obtain ⟨h7, h8⟩ := bd_le (b := bb) (k := k) (by omega)
      refine W.widen (k := 601024) (n := 7293034) (Nat.le_trans hcl h7) (Nat.le_trans hsl h8) ?_
      exact lw_ret hx hb hr hlocks dL_law_1398
    · have hi : 6 * k + 6 ≤ L := lsub (by omega) (by omega) c9
      have next : ∀ (o' : Nat → Int64) (b' : Bool) (W1 : va_W) (H1 : Heap) (locs1 : List Loc) (c1 s1 : Nat) (ls1 : Array Slot), Inv cI cZ cS F Sh A (R0 o') b' W1 → va_P (dC, dI) vwCl W1 H1 → va_D (fun q : Nat => s.heap.size ≤ q) W1 → va_S (fun q : Nat => s.heap.size ≤ q) s.heap H1 locs1 → lv_has ls1 8 [(0, .ref b), (1, .ref F.1), (2, .ref (A 0)), (3, .ref aO), (4, .int (nI (6 * k)))] → c1 ≤ bdC (k + 1) b' → s1 ≤ bdS (k + 1) b' → W p l e room_1 s m #[Value.ref b] below meth c H1 locs1 c1 s1 (lw_Z below #[Value.ref b] s) (F0 m 1391 ls1 []) := by
        intro o' b' W1 H1 locs1 c1 s1 ls1 g1 g2 g3 g4 g5 g6 g7
        refine lv_iinc (v := nI (6 * (k + 1))) (lv' := [(4, .int (nI (6 * (k + 1)))), (0, .ref b), (1, .ref F.1), (2, .ref (A 0)), (3, .ref aO)]) hx hb dL_law_1391 g5 (k := 4) rfl (show nI (6 * k) + nI 6 = _ by rw [nI_add, show 6 * k + 6 = 6 * (k + 1) by omega]) (by decide) rfl (fun ls2 hl2 => ?_)
        refine lv_goto (tgt := 23) hx hb dL_law_1394 (by decide) ?_
        exact ih (k + 1) o' b' W1 H1 locs1 c1 s1 ls2 (by omega) (by omega) g1 g2 g3 g4 (lv_sub hl2 [1, 2, 3, 4, 0] rfl) g6 g7
      refine lv_aload_n hx hb dL_law_33 rfl (lv_at hl 0 rfl) ?_
      refine lv_iload hx hb dL_law_34 (lv_at hl 4 rfl) ?_
      refine va_sld hx hb hX hbl hbA hS (vp_in_nI (by omega) (by omega)) dL_law_36 ?_
      refine lv_bipush (v := 63) hx hb dL_law_37 (by decide) ?_
      refine lv_iand hx hb dL_law_39 ?_
      generalize xs (nI (6 * k)).toNatClampNeg &&& 63 = x9
      by_cases ho : x9.toInt < 0 ∨ 32 < x9.toInt
      · refine lv_tableOut (tgt := 1391) hx hb dL_law_40 ho (by decide) ?_
        refine next o bb WX H locs cells slots ls hI hP hD hS hl ?_ ?_
        · unfold bdC at *; omega
        · unfold bdS at *; omega
      · have h9 : x9.toInt = 0 ∨ x9.toInt = 1 ∨ x9.toInt = 2 ∨ x9.toInt = 3 ∨ x9.toInt = 4 ∨ x9.toInt = 5 ∨ x9.toInt = 6 ∨ x9.toInt = 7 ∨ x9.toInt = 8 ∨ x9.toInt = 9 ∨ x9.toInt = 10 ∨ x9.toInt = 11 ∨ x9.toInt = 12 ∨ x9.toInt = 13 ∨ x9.toInt = 14 ∨ x9.toInt = 15 ∨ x9.toInt = 16 ∨ x9.toInt = 17 ∨ x9.toInt = 18 ∨ x9.toInt = 19 ∨ x9.toInt = 20 ∨ x9.toInt = 21 ∨ x9.toInt = 22 ∨ x9.toInt = 23 ∨ x9.toInt = 24 ∨ x9.toInt = 25 ∨ x9.toInt = 26 ∨ x9.toInt = 27 ∨ x9.toInt = 28 ∨ x9.toInt = 29 ∨ x9.toInt = 30 ∨ x9.toInt = 31 ∨ x9.toInt = 32 := by omega
        rcases h9 with h9 | h9 | h9 | h9 | h9 | h9 | h9 | h9 | h9 | h9 | h9 | h9 | h9 | h9 | h9 | h9 | h9 | h9 | h9 | h9 | h9 | h9 | h9 | h9 | h9 | h9 | h9 | h9 | h9 | h9 | h9 | h9 | h9
        · refine lv_tableIn (off := 148) (tgt := 188) hx hb dL_law_40 (by omega) (by omega) (by rw [h9]; rfl) (by decide) ?_
          exact law_roof hC hSh o bb WX H locs cells slots ls (6 * k) k hi hL hI hP hD hS hl hcl hsl (by omega) next
        · refine lv_tableIn (off := 173) (tgt := 213) hx hb dL_law_40 (by omega) (by omega) (by rw [h9]; rfl) (by decide) ?_
          exact law_width hC o bb WX H locs cells slots ls (6 * k) k hi hL hI hP hD hS hl hcl hsl (by omega) next
        · refine lv_tableIn (off := 210) (tgt := 250) hx hb dL_law_40 (by omega) (by omega) (by rw [h9]; rfl) (by decide) ?_
          exact law_heap hC o bb WX H locs cells slots ls (6 * k) k hi hL hI hP hD hS hl hcl hsl (by omega) next
        · refine lv_tableIn (off := 247) (tgt := 287) hx hb dL_law_40 (by omega) (by omega) (by rw [h9]; rfl) (by decide) ?_
          exact law_lap hC o bb WX H locs cells slots ls (6 * k) k hi hL hI hP hD hS hl hcl hsl (by omega) next
        · refine lv_tableIn (off := 272) (tgt := 312) hx hb dL_law_40 (by omega) (by omega) (by rw [h9]; rfl) (by decide) ?_
          exact law_rowOf hC o bb WX H locs cells slots ls (6 * k) k hi hL hI hP hD hS hl hcl hsl (by omega) next
        · refine lv_tableIn (off := 309) (tgt := 349) hx hb dL_law_40 (by omega) (by omega) (by rw [h9]; rfl) (by decide) ?_
          exact law_slate hC o bb WX H locs cells slots ls (6 * k) k hi hL hI hP hD hS hl hcl hsl (by omega) next
        · refine lv_tableIn (off := 346) (tgt := 386) hx hb dL_law_40 (by omega) (by omega) (by rw [h9]; rfl) (by decide) ?_
          exact law_joint hC o bb WX H locs cells slots ls (6 * k) k hi hL hI hP hD hS hl hcl hsl (by omega) next
        · refine lv_tableIn (off := 383) (tgt := 423) hx hb dL_law_40 (by omega) (by omega) (by rw [h9]; rfl) (by decide) ?_
          exact law_may hC o bb WX H locs cells slots ls (6 * k) k hi hL hI hP hD hS hl hcl hsl (by omega) next
        · refine lv_tableIn (off := 420) (tgt := 460) hx hb dL_law_40 (by omega) (by omega) (by rw [h9]; rfl) (by decide) ?_
          exact law_judge hC hSh o bb WX H locs cells slots ls (6 * k) k hi hL hI hP hD hS hl hcl hsl (by omega) next
        · refine lv_tableIn (off := 457) (tgt := 497) hx hb dL_law_40 (by omega) (by omega) (by rw [h9]; rfl) (by decide) ?_
          exact law_lay hC hSh o bb WX H locs cells slots ls (6 * k) k hi hL hI hP hD hS hl hcl hsl (by omega) next
        · refine lv_tableIn (off := 494) (tgt := 534) hx hb dL_law_40 (by omega) (by omega) (by rw [h9]; rfl) (by decide) ?_
          exact law_takeUp hC o bb WX H locs cells slots ls (6 * k) k hi hL hI hP hD hS hl hcl hsl (by omega) next
        · refine lv_tableIn (off := 519) (tgt := 559) hx hb dL_law_40 (by omega) (by omega) (by rw [h9]; rfl) (by decide) ?_
          exact law_fills hC o bb WX H locs cells slots ls (6 * k) k hi hL hI hP hD hS hl hcl hsl (by omega) next
        · refine lv_tableIn (off := 544) (tgt := 584) hx hb dL_law_40 (by omega) (by omega) (by rw [h9]; rfl) (by decide) ?_
          exact law_first hC o bb WX H locs cells slots ls (6 * k) k hi hL hI hP hD hS hl hcl hsl (by omega) next
        · refine lv_tableIn (off := 581) (tgt := 621) hx hb dL_law_40 (by omega) (by omega) (by rw [h9]; rfl) (by decide) ?_
          exact law_best hC o bb WX H locs cells slots ls (6 * k) k hi hL hI hP hD hS hl hcl hsl (by omega) next
        · refine lv_tableIn (off := 618) (tgt := 658) hx hb dL_law_40 (by omega) (by omega) (by rw [h9]; rfl) (by decide) ?_
          exact law_cuts hC o bb WX H locs cells slots ls (6 * k) k hi hL hI hP hD hS hl hcl hsl (by omega) next
        · refine lv_tableIn (off := 655) (tgt := 695) hx hb dL_law_40 (by omega) (by omega) (by rw [h9]; rfl) (by decide) ?_
          exact law_uses hC o bb WX H locs cells slots ls (6 * k) k hi hL hI hP hD hS hl hcl hsl (by omega) next
        · refine lv_tableIn (off := 692) (tgt := 732) hx hb dL_law_40 (by omega) (by omega) (by rw [h9]; rfl) (by decide) ?_
          exact law_needs hC o bb WX H locs cells slots ls (6 * k) k hi hL hI hP hD hS hl hcl hsl (by omega) next
        · refine lv_tableIn (off := 729) (tgt := 769) hx hb dL_law_40 (by omega) (by omega) (by rw [h9]; rfl) (by decide) ?_
          exact law_ends hC o bb WX H locs cells slots ls (6 * k) k hi hL hI hP hD hS hl hcl hsl (by omega) next
        · refine lv_tableIn (off := 766) (tgt := 806) hx hb dL_law_40 (by omega) (by omega) (by rw [h9]; rfl) (by decide) ?_
          exact law_gaps hC o bb WX H locs cells slots ls (6 * k) k hi hL hI hP hD hS hl hcl hsl (by omega) next
        · refine lv_tableIn (off := 791) (tgt := 831) hx hb dL_law_40 (by omega) (by omega) (by rw [h9]; rfl) (by decide) ?_
          exact law_two hC o bb WX H locs cells slots ls (6 * k) k hi hL hI hP hD hS hl hcl hsl (by omega) next
        · refine lv_tableIn (off := 828) (tgt := 868) hx hb dL_law_40 (by omega) (by omega) (by rw [h9]; rfl) (by decide) ?_
          exact law_all hC o bb WX H locs cells slots ls (6 * k) k hi hL hI hP hD hS hl hcl hsl (by omega) next
        · refine lv_tableIn (off := 853) (tgt := 893) hx hb dL_law_40 (by omega) (by omega) (by rw [h9]; rfl) (by decide) ?_
          exact law_broken hC o bb WX H locs cells slots ls (6 * k) k hi hL hI hP hD hS hl hcl hsl (by omega) next
        · refine lv_tableIn (off := 890) (tgt := 930) hx hb dL_law_40 (by omega) (by omega) (by rw [h9]; rfl) (by decide) ?_
          exact law_by hC hSh o bb WX H locs cells slots ls (6 * k) k hi hL hI hP hD hS hl hcl hsl (by omega) next
        · refine lv_tableIn (off := 951) (tgt := 991) hx hb dL_law_40 (by omega) (by omega) (by rw [h9]; rfl) (by decide) ?_
          exact law_image hC o bb WX H locs cells slots ls (6 * k) k hi hL hI hP hD hS hl hcl hsl (by omega) next
        · refine lv_tableIn (off := 964) (tgt := 1004) hx hb dL_law_40 (by omega) (by omega) (by rw [h9]; rfl) (by decide) ?_
          exact law_restore hC o bb WX H locs cells slots ls (6 * k) k hi hL hI hP hD hS hl hcl hsl (by omega) next
        · refine lv_tableIn (off := 977) (tgt := 1017) hx hb dL_law_40 (by omega) (by omega) (by rw [h9]; rfl) (by decide) ?_
          exact law_count hC o bb WX H locs cells slots ls (6 * k) k hi hL hI hP hD hS hl hcl hsl (by omega) next
        · refine lv_tableIn (off := 1002) (tgt := 1042) hx hb dL_law_40 (by omega) (by omega) (by rw [h9]; rfl) (by decide) ?_
          exact law_keep hC hSh o bb WX H locs cells slots ls (6 * k) k hi hL hI hP hD hS hl hcl hsl (by omega) next
        · refine lv_tableIn (off := 1063) (tgt := 1103) hx hb dL_law_40 (by omega) (by omega) (by rw [h9]; rfl) (by decide) ?_
          exact law_row hC hSh o bb WX H locs cells slots ls (6 * k) k hi hL hI hP hD hS hl hcl hsl (by omega) next
        · refine lv_tableIn (off := 1112) (tgt := 1152) hx hb dL_law_40 (by omega) (by omega) (by rw [h9]; rfl) (by decide) ?_
          exact law_put hC hSh o bb WX H locs cells slots ls (6 * k) k hi hL hI hP hD hS hl hcl hsl (by omega) next
        · refine lv_tableIn (off := 1161) (tgt := 1201) hx hb dL_law_40 (by omega) (by omega) (by rw [h9]; rfl) (by decide) ?_
          exact hEl o bb WX H locs cells slots ls (6 * k) k hi hL hI hP hD hS hl hcl hsl (by omega) next
        · refine lv_tableIn (off := 1228) (tgt := 1268) hx hb dL_law_40 (by omega) (by omega) (by rw [h9]; rfl) (by decide) ?_
          exact law_copy hC hSh o bb WX H locs cells slots ls (6 * k) k hi hL hI hP hD hS hl hcl hsl (by omega) next
        · refine lv_tableIn (off := 1301) (tgt := 1341) hx hb dL_law_40 (by omega) (by omega) (by rw [h9]; rfl) (by decide) ?_
          exact law_toil hC hSh o bb WX H locs cells slots ls (6 * k) k hi hL hI hP hD hS hl hcl hsl (by omega) next
        · refine lv_tableIn (off := 1326) (tgt := 1366) hx hb dL_law_40 (by omega) (by omega) (by rw [h9]; rfl) (by decide) ?_
          exact hTo o bb WX H locs cells slots ls (6 * k) k hi hL hI hP hD hS hl hcl hsl (by omega) next
end LAWK
