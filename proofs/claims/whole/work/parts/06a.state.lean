/-! ===== the two worlds beside each other ===== -/
def mkE (A : Nat → Nat → Int32) (lk bed rk gh gs : Int32) (f : Nat → Int32) : Nat → Nat → Int32 := fun k j => match k with
  | 0 => (match j with
    | 0 => lk
    | 1 => bed
    | 2 => rk
    | 3 => A 0 3
    | 4 => A 0 4
    | 5 => gh
    | 6 => gs
    | _ => 0)
  | 1 => A 1 j
  | 2 => A 2 j
  | 3 => A 3 j
  | 4 => A 4 j
  | 5 => A 5 j
  | 6 => f j
  | _ => 0
/-- cells that hold nothing between calls -/
def qM (k j : Nat) : Bool := (Nat.ble 4 k && Nat.ble k 22) || (Nat.ble 53 k && Nat.ble k 67) || Nat.beq k 69 || Nat.beq k 71 || Nat.beq k 73 || Nat.beq k 75 || (Nat.ble 78 k && Nat.ble k 88) || Nat.beq k 92 || Nat.beq k 94 || Nat.beq k 97 || Nat.beq k 98 || Nat.beq k 99 || (Nat.ble 104 k && Nat.ble k 107) ||
  (Nat.beq k 76 && (Nat.beq j 0 || Nat.beq j 3 || Nat.beq j 4 || Nat.beq j 5 || Nat.beq j 14 || (Nat.ble 19 j && Nat.ble j 23) || Nat.beq j 34 || Nat.beq j 44))
def msk (I : sm_MI) : sm_MI := fun k j => if qM k j = true then 0 else I k j
def mskL (L : sm_ML) : sm_ML := fun k j => if Nat.beq k 53 = true then 0 else L k j
theorem msk_fr {I I' : sm_MI} (h : Fr qM I I') : msk I' = msk I := by
  funext k j
  unfold msk
  by_cases q : qM k j = true
  · rw [if_pos q, if_pos q]
  · rw [if_neg q, if_neg q]; exact h k j (Bool.eq_false_iff.mpr q)
theorem mskL_u {L : sm_ML} {v : Int64} : mskL (sm_uL L 53 3 v) = mskL L := by
  funext k j
  unfold mskL
  by_cases q : Nat.beq k 53 = true
  · rw [if_pos q, if_pos q]
  · rw [if_neg q, if_neg q, sm_uL_ne (fun e => q (by rw [e]; rfl))]
/-- each thing in one of the houses -/
def gR (H N : Nat) (u : Nat → Int32) : Prop := ∀ t, t < N → ∃ k, k < H ∧ u t = nI k
def gS (A : Nat → Nat → Int32) (H S N : Nat) (I : sm_MI) : Prop :=
  (I 24 0 = nI H ∧ I 24 1 = nI S ∧ I 24 2 = nI N ∧ I 24 4 = A 0 3 ∧ I 24 5 = A 0 4) ∧
  (∀ w, w < S → I 26 w = A 1 w ∧ I 28 w = A 2 w ∧ I 30 w = A 3 w ∧ I 32 w = A 4 w ∧ I 34 w = A 5 w) ∧
  (I 76 26 = nI H ∧ I 76 27 = nI S ∧ I 76 28 = nI N ∧ I 76 29 = A 0 3 ∧ I 76 30 = A 0 4) ∧
  (∀ w, w < S → I 89 (4 * w) = A 1 w ∧ I 89 (4 * w + 1) = A 2 w ∧ I 89 (4 * w + 2) = A 3 w ∧ I 89 (4 * w + 3) = A 4 w ∧ I 91 w = A 5 w) ∧
  cU N (I 24 3) = mU N (I 90) ∧ gR H N (mU N (I 90))
def gV (A : Nat → Nat → Int32) (H S N R : Nat) : Prop :=
  ((H = 0 ∧ S = 0 ∧ N = 0) ∨ (2 ≤ H ∧ 0 < S ∧ 0 < N)) ∧ H ≤ 8 ∧ S ≤ 5 ∧ N ≤ 8 ∧ R ≤ 5 ∧
  (∀ w, w < S → (∃ k, k < H ∧ A 1 w = nI k) ∧ (A 5 w = -1 ∨ ∃ i, i < R ∧ A 5 w = nI i)) ∧ (∃ p, p < 10 ∧ A 0 3 = nI p) ∧ (∃ p, p < 10 ∧ A 0 4 = nI p)
def qDw (a b : Int32) : Int64 := ((Int32.toInt64 a) <<< (Int32.toInt64 32 &&& 63)) ||| ((Int32.toInt64 b) &&& 4294967295)
def gT (I : sm_MI) : Prop := ∃ len : Nat, len ≤ 160 ∧ I 1 1 = nI len ∧ I 76 2 = nI len ∧ ∀ j, j < len → I 3 j = I 77 j ∧ ∃ c, 0 < c ∧ c < 256 ∧ I 3 j = nI c
def gI (H N b : Nat) (I : sm_MI) (L : sm_ML) : Prop := ∃ hi : Bool, I 0 7 = sm_z hi ∧ I 76 60 = sm_z hi ∧ (hi = true → 0 < H ∧ cU N (I 36 0) = mU N (I 108) ∧ gR H N (cU N (I 36 0)) ∧ (∃ m, m ≤ b ∧ I 36 1 = nI m ∧ I 76 58 = nI m) ∧ (∃ l, l < 256 ∧ I 36 2 = nI l ∧ I 76 57 = nI l) ∧ L 36 3 = L 76 59)
def gP (H N ν : Nat) (I : sm_MI) (L : sm_ML) : Prop := ∃ nx ct : Nat, nx < 60 ∧ ct ≤ 60 ∧ ct ≤ ν ∧ I 37 3 = nI nx ∧ I 37 4 = nI ct ∧ I 76 42 = nI ct ∧ ∀ i, i < ct → cU N (I 39 ((nx + 60 - ct + i) % 60)) = mU N (fun t => I 95 (8 * i + t)) ∧ gR H N (cU N (I 39 ((nx + 60 - ct + i) % 60))) ∧ qDw (I 41 ((nx + 60 - ct + i) % 60)) (I 43 ((nx + 60 - ct + i) % 60)) = L 96 i
def gE (H N : Nat) (I : sm_MI) : Prop := ∃ sc lt : Nat, sc ≤ 20 ∧ lt ≤ 30 ∧ I 44 4 = nI sc ∧ I 76 51 = nI sc ∧ I 44 5 = nI lt ∧ ∀ k, k < sc → (∃ t, t < N ∧ I 46 k = nI t ∧ I 100 k = nI t) ∧ (∃ m, 1 ≤ m ∧ m ≤ lt ∧ I 48 k = nI m ∧ I 101 k = nI m) ∧ (∃ h, h < H ∧ I 50 k = nI h ∧ I 102 k = nI h) ∧ (∃ q : Bool, I 52 k = sm_z q ∧ I 103 k = sm_z q)
def gC (A : Nat → Nat → Int32) (H S N R ν lb b : Nat) (I : sm_MI) (L : sm_ML) : Prop :=
  gS A H S N I ∧ gV A H S N R ∧ (ν ≤ b ∧ lb < 256 ∧ I 35 1 = nI ν ∧ I 35 2 = nI lb ∧ I 76 33 = nI lb ∧ L 35 3 = L 76 36 ∧ gR H N (cU N (I 35 0))) ∧
  gT I ∧ gI H N b I L ∧ gP H N ν I L ∧ gE H N I ∧ (∃ r, r ≤ 100 ∧ I 0 11 = nI r ∧ I 76 35 = nI r) ∧ (I 23 2 = nI R ∧ I 76 13 = nI R ∧ I 76 39 = -1 ∧ ∀ w, w < 5 → I 93 w = -1)
def RR (A : Nat → Nat → Int32) (W : Nat → (Nat → Int32) → Int32) (H S N R ν lb b : Nat) (T : List sm_Sh) (I : sm_MI) (L : sm_ML) : Prop :=
  sm_Bs T ∧ b < 2 ^ 29 ∧ gC A H S N R ν lb b (msk I) (mskL L) ∧ cU N (I 35 0) = mU N (I 92) ∧ I 76 34 = nI ν ∧ Cok (mkE A 0 0 0 0 0 (fun _ => 0)) W S I ∧ sRL T W R I ∧ mRL T W R I
