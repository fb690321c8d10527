/-! ===== the world of the law: the class's blocks, the reference's cells, what is left ===== -/
abbrev R9 : Type := (Nat → Int32) × (Nat → Int32) × (Nat → Int32) × (Nat → Int32) × (Nat → Int32) × (Nat → Int32) × Int32 × Int32 × Int32
abbrev T5 : Type := (Nat → Int32) × Int32 × Option Nat × Int32 × Int32
abbrev V9 : Type := Nat × Nat × Nat × Nat × Nat × Nat × Nat × Nat × Nat × Option Nat
abbrev C13 : Type := (Nat → Int32) × (Nat → Int32) × (Nat → Int32) × (Nat → Int32) × (Nat → Int32) × (Nat → Int32) × (Nat → Int32) × Int32 × Int32 × Int32 × Int32 × (Nat → Int32) × Int32
def bR (cI : ClassId) (A : Nat → Nat) (r : R9) : va_W := [(A 0, .inr (3, [.ref (A 1), .ref (A 2), .ref (A 3), .ref (A 4), .ref (A 5), .ref (A 6), .int r.2.2.2.2.2.2.1, .int r.2.2.2.2.2.2.2.1, .int r.2.2.2.2.2.2.2.2])), (A 1, .inl (cI, 4, .inl r.1)), (A 2, .inl (cI, 4, .inl r.2.1)), (A 3, .inl (cI, 4, .inl r.2.2.1)), (A 4, .inl (cI, 6, .inl r.2.2.2.1)), (A 5, .inl (cI, 6, .inl r.2.2.2.2.1)), (A 6, .inl (cI, 72, .inl r.2.2.2.2.2.1))]
def bT (cI : ClassId) (a an : Nat) (q : T5) : va_W := [(a, .inr (4, [.ref an, .int q.2.1, va_rf q.2.2.1, .int q.2.2.2.1, .int q.2.2.2.2])), (an, .inl (cI, 100, .inl q.1))]
def bY (o : Option (Nat × Int32 × Int32)) : va_W :=
  match o with
  | none => []
  | some v => [(v.1, .inr (1, [.int v.2.1, .int v.2.2]))]
def bW (cI cZ : ClassId) (o : Option (V9 × C13)) : va_W :=
  match o with
  | none => []
  | some (v, c) => [(v.1, .inr (5, [.ref v.2.1, .ref v.2.2.1, .ref v.2.2.2.1, .ref v.2.2.2.2.1, .ref v.2.2.2.2.2.1, .ref v.2.2.2.2.2.2.1, .ref v.2.2.2.2.2.2.2.1, .int c.2.2.2.2.2.2.2.1, va_rf v.2.2.2.2.2.2.2.2.2, .int c.2.2.2.2.2.2.2.2.1, .int c.2.2.2.2.2.2.2.2.2.1, .int c.2.2.2.2.2.2.2.2.2.2.1, .ref v.2.2.2.2.2.2.2.2.1, .int c.2.2.2.2.2.2.2.2.2.2.2.2])), (v.2.1, .inl (cZ, 61, .inl c.1)), (v.2.2.1, .inl (cI, 4, .inl c.2.1)), (v.2.2.2.1, .inl (cI, 10296, .inl c.2.2.1)), (v.2.2.2.2.1, .inl (cI, 1820, .inl c.2.2.2.1)), (v.2.2.2.2.2.1, .inl (cI, 1820, .inl c.2.2.2.2.1)), (v.2.2.2.2.2.2.1, .inl (cI, 1820, .inl c.2.2.2.2.2.1)), (v.2.2.2.2.2.2.2.1, .inl (cI, 1820, .inl c.2.2.2.2.2.2.1)), (v.2.2.2.2.2.2.2.2.1, .inl (cI, 12, .inl c.2.2.2.2.2.2.2.2.2.2.2.1))]
/-- addresses of the class's fixed cells: the object, the array of shelves, now, kept, mind, the shelves and their numbers -/
abbrev FX : Type := Nat × Nat × (Nat → Nat) × (Nat → Nat) × (Nat → Nat) × (Nat → Nat) × (Nat → Nat)
def wRef (wy : Option (V9 × C13)) : Option Nat :=
  match wy with
  | none => none
  | some v => some v.1.1
def bB (cI cZ cS : ClassId) (F : FX) (Sh : Nat → Option Nat) (ik : Int32) (nw kp md : R9) (T : Nat → T5) (Y : Nat → Option (Nat × Int32 × Int32)) (wy : Option (V9 × C13)) : Nat → va_W
  | 0 => [(F.1, .inr (6, [.ref (F.2.2.1 0), .ref (F.2.2.2.1 0), .ref (F.2.2.2.2.1 0), .ref F.2.1, .int ik, va_rf (wRef wy)]))]
  | 1 => [(F.2.1, .inl (cS, 8, .inr (.inr (.inr (.inr Sh)))))]
  | 2 => bR cI F.2.2.1 nw
  | 3 => bR cI F.2.2.2.1 kp
  | 4 => bR cI F.2.2.2.2.1 md
  | 5 => bW cI cZ wy
  | n + 6 => if n < 8 then bT cI (F.2.2.2.2.2.1 n) (F.2.2.2.2.2.2 n) (T n) else bY (Y (n - 8))
def IC : List Nat := List.range 22
/-- the reference: its ints g (in the order of its fields), its arrays f (1 s, 2 image, 3 read, 4 saved, 5 kept, 6 sort, 7 size, 8 element, 9 keptKind, 10 keptFigure, 11 numbers, 12 used, 13 way, 14 found, 15 isOne, 16 isTwo) -/
def mB (cI cZ : ClassId) (A : Nat → Nat) (g : Nat → Int32) (f : Nat → Nat → Int32) : Nat → va_W
  | 0 => [(A 0, .inr (7, [.ref (A 1), .ref (A 2), .ref (A 3), .ref (A 4), .ref (A 5), .ref (A 6), .ref (A 7), .ref (A 8), .ref (A 9), .ref (A 10), .int (g 0), .int (g 1), .int (g 2), .int (g 3), .int (g 4), .int (g 5), .int (g 6), .ref (A 11), .ref (A 12), .ref (A 13), .ref (A 14), .int (g 7), .int (g 8), .int (g 9), .int (g 10), .int (g 11), .int (g 12), .int (g 13), .ref (A 15), .ref (A 16), .int (g 14), .int (g 15), .int (g 16), .int (g 17), .int (g 18), .int (g 19), .int (g 20)]))]
  | 1 => [(A 1, .inl (cI, 99, .inl (f 1)))]
  | 2 => [(A 2, .inl (cI, 99, .inl (f 2)))]
  | 3 => [(A 3, .inl (cI, 99, .inl (f 3)))]
  | 4 => [(A 4, .inl (cI, 99, .inl (f 4)))]
  | 5 => [(A 5, .inl (cI, 8, .inl (f 5)))]
  | 6 => [(A 6, .inl (cI, 8, .inl (f 6)))]
  | 7 => [(A 7, .inl (cI, 8, .inl (f 7)))]
  | 8 => [(A 8, .inl (cI, 800, .inl (f 8)))]
  | 9 => [(A 9, .inl (cI, 8, .inl (f 9)))]
  | 10 => [(A 10, .inl (cI, 8, .inl (f 10)))]
  | 11 => [(A 11, .inl (cI, 3, .inl (f 11)))]
  | 12 => [(A 12, .inl (cI, 4, .inl (f 12)))]
  | 13 => [(A 13, .inl (cI, 16, .inl (f 13)))]
  | 14 => [(A 14, .inl (cI, 16, .inl (f 14)))]
  | 15 => [(A 15, .inl (cZ, 28561, .inl (f 15)))]
  | 16 => [(A 16, .inl (cZ, 28561, .inl (f 16)))]
  | _ + 17 => []
def IM : List Nat := List.range 17
theorem wIn {IX J K : List Nat} {B : Nat → va_W} {u R : va_W} (hp : IX.Perm (J ++ K)) (hu : u.Perm (IX.flatMap B ++ R)) : u.Perm (J.flatMap B ++ (K.flatMap B ++ R)) := by
  rw [← List.append_assoc, ← List.flatMap_append]
  exact hu.trans ((hp.flatMap_right B).append_right R)
theorem fm_congr {B B' : Nat → va_W} : ∀ {K : List Nat}, (∀ n, n ∈ K → B' n = B n) → K.flatMap B' = K.flatMap B
  | [], _ => rfl
  | a :: K, h => by rw [List.flatMap_cons, List.flatMap_cons, h a List.mem_cons_self, fm_congr (fun n hn => h n (List.mem_cons_of_mem _ hn))]
theorem wOut {IX J K : List Nat} {B B' : Nat → va_W} {R : va_W} (hp : IX.Perm (J ++ K)) (hK : ∀ n, n ∈ K → B' n = B n) : (J.flatMap B' ++ (K.flatMap B ++ R)).Perm (IX.flatMap B' ++ R) := by
  rw [← fm_congr hK, ← List.append_assoc, ← List.flatMap_append]
  exact ((hp.flatMap_right B').append_right R).symm
def compl (IX J : List Nat) : List Nat := IX.filter (fun k => !(J.contains k))
def RelN (r : R9) (s : Nat → Int32) : Prop := Enc r.1 r.2.1 r.2.2.1 r.2.2.2.1 r.2.2.2.2.1 r.2.2.2.2.2.1 r.2.2.2.2.2.2.1 r.2.2.2.2.2.2.2.1 r.2.2.2.2.2.2.2.2 s ∧ Ok s
def ShR (q : T5) (y : Option (Nat × Int32 × Int32)) (f : Nat → Nat → Int32) (k : Nat) : Prop := ShN q.1 q.2.1 q.2.2.2.1 q.2.2.2.2 (f 5) (f 6) (f 7) (f 8) k ∧ (q.2.1 = 1 → ∃ a c h, c ≤ 6 ∧ h ≤ 9 ∧ q.2.2.1 = some a ∧ y = some (a, nI c, nI h) ∧ f 9 k = nI c ∧ f 10 k = nI h) ∧ (¬ q.2.1 = 1 → q.2.2.1 = none ∧ y = none)
def Rel (ik : Int32) (nw kp : R9) (T : Nat → T5) (Y : Nat → Option (Nat × Int32 × Int32)) (wy : Option (V9 × C13)) (g : Nat → Int32) (f : Nat → Nat → Int32) : Prop :=
  RelN nw (f 1) ∧ ((ik = 0 ∧ g 0 = 0) ∨ (ik = 1 ∧ g 0 = 1 ∧ RelN kp (f 2))) ∧ (∀ k, k < 8 → ShR (T k) (Y k) f k) ∧ (∀ v, wy = some v → SO v.2.2.2.1)
/-- what holds between two calls; b: the ways are there; R0: what no call touches -/
def Inv (cI cZ cS : ClassId) (F : FX) (Sh : Nat → Option Nat) (A : Nat → Nat) (R0 : va_W) (b : Bool) (u : va_W) : Prop :=
  ∃ ik nw kp md T Y wy g f G, u.Perm (IC.flatMap (bB cI cZ cS F Sh ik nw kp md T Y wy) ++ (IM.flatMap (mB cI cZ A g f) ++ (G ++ R0))) ∧ Rel ik nw kp T Y wy g f ∧ b = wy.isSome
/-- the class has made its move; the reference has still its old cells (g, f), and g', f' are those that it will have -/
def Mid (cI cZ cS : ClassId) (F : FX) (Sh : Nat → Option Nat) (A : Nat → Nat) (R0 : va_W) (g : Nat → Int32) (f : Nat → Nat → Int32) (g' : Nat → Int32) (f' : Nat → Nat → Int32) (b : Bool) (u : va_W) : Prop :=
  ∃ ik nw kp md T Y wy G, u.Perm (IC.flatMap (bB cI cZ cS F Sh ik nw kp md T Y wy) ++ (IM.flatMap (mB cI cZ A g f) ++ (G ++ R0))) ∧ Rel ik nw kp T Y wy g' f' ∧ b = wy.isSome
def Rm (rm : Room) (b b' : Bool) : Prop := rm.frames ≤ 8 ∧ rm.locals ≤ 140 ∧ rm.cells + (if b then 9 else 0) ≤ 2 + (if b' then 9 else 0) ∧ rm.slots + (if b then 17667 else 0) ≤ 3640 + (if b' then 17667 else 0)
def Rm8 (rm : Room) : Prop := rm.frames ≤ 22 ∧ rm.locals ≤ 565 ∧ rm.cells = 0 ∧ rm.slots = 0
/-- the contract of a call in the whole world -/
def MetI (l : Launch) (D : va_G) (cI cZ cS : ClassId) (y : MethodName) (wsl : List Cond) (rm : Room) (As : List Value) (WX : va_W) (a : Int32) (M : va_W → Prop) : Prop :=
  ∀ sz, Met l y wsl rm (va_Pc As (preW D cI cZ cS WX sz)) (va_Qi (fun r u => r = a ∧ M u) (fun u => qW D cI cZ cS (va_A WX sz) u) (va_A WX sz)) rm.cells rm.slots (va_A WX sz)
def CASE (l : Launch) (D : va_G) (cI cZ cS : ClassId) (F : FX) (Sh : Nat → Option Nat) (A : Nat → Nat) (R0 : va_W) (y7 y8 : MethodName) (ws7 ws8 : List Cond) (As : List Value) : Prop :=
  ∀ b WX, Inv cI cZ cS F Sh A R0 b WX → ∃ a M b' rm7 rm8, Rm rm7 b b' ∧ Rm8 rm8 ∧ MetI l D cI cZ cS y7 ws7 rm7 (.ref F.1 :: As) WX a M ∧ ∀ u, M u → (∃ fs, ((A 0, .inr (7, fs)) : Nat × va_E) ∈ u) ∧ MetI l D cI cZ cS y8 ws8 rm8 (.ref (A 0) :: As) u a (Inv cI cZ cS F Sh A R0 b')
theorem ic_split (J : List Nat) (h : (IC.isPerm (J ++ compl IC J)) = true) : IC.Perm (J ++ compl IC J) := List.isPerm_iff.mp h
theorem im_split (J : List Nat) (h : (IM.isPerm (J ++ compl IM J)) = true) : IM.Perm (J ++ compl IM J) := List.isPerm_iff.mp h
theorem ic_split_d {d : Nat} (hd : d < 8) : IC.Perm ([0, 1, d + 6] ++ compl IC [0, 1, d + 6]) := by
  refine ic_split _ ?_
  revert hd
  revert d
  decide +kernel
theorem mem_compl {IX J : List Nat} {n : Nat} (h : n ∈ compl IX J) : n ∉ J ∧ n ∈ IX := by
  unfold compl at h
  obtain ⟨h1, h2⟩ := List.mem_filter.mp h
  refine ⟨fun q => ?_, h1⟩
  rw [List.contains_iff_mem.mpr q] at h2
  cases h2
theorem swapM {u P M G : va_W} (h : u.Perm (P ++ (M ++ G))) : u.Perm (M ++ (P ++ G)) := h.trans (by
  rw [← List.append_assoc, ← List.append_assoc]
  exact List.perm_append_comm.append_right G)
