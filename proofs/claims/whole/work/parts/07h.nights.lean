/-! ===== nights that go by: draws, plain sequence ===== -/
theorem q64_s32u : ((Int32.toInt64 32).toUInt64 &&& Int64.toUInt64 63).toBitVec % 64 = 32#64 := by decide +kernel
theorem q64_s33u : ((Int32.toInt64 33).toUInt64 &&& Int64.toUInt64 63).toBitVec % 64 = 33#64 := by decide +kernel
theorem q64_s32 : ((Int32.toInt64 32) &&& 63).toBitVec.smod 64 = 32#64 := by decide +kernel
def bt6 (x : Int64) (i : Nat) : Bool := x.toBitVec.getLsbD i
theorem b6_ushr32 (D : Int64) (i : Nat) : bt6 ((Int64.toUInt64 D >>> ((Int32.toInt64 32).toUInt64 &&& Int64.toUInt64 63)).toInt64) i = bt6 D (32 + i) := by
  show (Int64.toUInt64 D >>> ((Int32.toInt64 32).toUInt64 &&& Int64.toUInt64 63)).toBitVec.getLsbD i = D.toUInt64.toBitVec.getLsbD (32 + i)
  rw [UInt64.toBitVec_shiftRight, q64_s32u]
  simp
theorem b6_shl32 (x : Int64) {i : Nat} (hi : i < 64) : bt6 (x <<< (Int32.toInt64 32 &&& 63)) i = (decide (32 ≤ i) && bt6 x (i - 32)) := by
  unfold bt6
  rw [Int64.toBitVec_shiftLeft, q64_s32]
  rcases Nat.lt_or_ge i 32 with h | h
  · simp [h, Nat.not_le.mpr h]
  · simp [hi, h, Nat.not_lt.mpr h]
    exact (BitVec.getLsbD_eq_getElem (by omega)).symm
theorem b6_mask (i : Nat) : bt6 4294967295 i = decide (i < 32) := by
  rcases Nat.lt_or_ge i 64 with h | h
  · exact (by decide +kernel : ∀ i, i < 64 → bt6 4294967295 i = decide (i < 32)) i h
  · unfold bt6
    rw [BitVec.getLsbD_of_ge _ _ h, decide_eq_false (by omega)]
theorem b6_wide (x : Int32) {i : Nat} (hi : i < 32) : bt6 (Int32.toInt64 x) i = bt x i := by
  unfold bt6 bt
  rw [Int32.toBitVec_toInt64, BitVec.getLsbD_signExtend]
  have : i < 64 := by omega
  simp [hi, this]
theorem b6_cut (x : Int64) {i : Nat} (hi : i < 32) : bt (Int64.toInt32 x) i = bt6 x i := by
  unfold bt6 bt
  rw [Int64.toBitVec_toInt32, BitVec.getLsbD_signExtend]
  have : i < 64 := by omega
  simp [hi, this]
/-- a draw kept in two halves -/
theorem qDw_halves (D : Int64) : qDw (Int64.toInt32 ((Int64.toUInt64 D >>> ((Int32.toInt64 32).toUInt64 &&& Int64.toUInt64 63)).toInt64)) (Int64.toInt32 D) = D := by
  apply Int64.toBitVec_inj.mp
  apply BitVec.eq_of_getLsbD_eq
  intro i hi
  show bt6 (qDw _ _) i = bt6 D i
  have hor : ∀ x y : Int64, bt6 (x ||| y) i = (bt6 x i || bt6 y i) := fun x y => by unfold bt6; rw [Int64.toBitVec_or, BitVec.getLsbD_or]
  have hand : ∀ x y : Int64, bt6 (x &&& y) i = (bt6 x i && bt6 y i) := fun x y => by unfold bt6; rw [Int64.toBitVec_and, BitVec.getLsbD_and]
  unfold qDw
  rw [hor, hand, b6_shl32 _ hi, b6_mask]
  rcases Nat.lt_or_ge i 32 with h | h
  · rw [b6_wide _ h, b6_cut _ h]
    simp [h, Nat.not_le.mpr h]
  · rw [b6_wide _ (by omega), b6_cut _ (by omega), b6_ushr32, show 32 + (i - 32) = i by omega]
    simp [h, Nat.not_lt.mpr h]
/-- a draw of 100 -/
theorem qDr_nat (D : Int64) : ∃ m : Nat, m < 100 ∧ (qDr D).toInt = m := by
  have hx : ∃ k : Nat, k < 2 ^ 31 ∧ ((Int64.toUInt64 D >>> ((Int32.toInt64 33).toUInt64 &&& Int64.toUInt64 63)).toInt64).toInt = k := by
    refine ⟨D.toBitVec.toNat >>> 33, ?_, ?_⟩
    · rw [Nat.shiftRight_eq_div_pow]
      have := D.toBitVec.isLt
      omega
    · show ((Int64.toUInt64 D >>> ((Int32.toInt64 33).toUInt64 &&& Int64.toUInt64 63)).toBitVec).toInt = _
      rw [UInt64.toBitVec_shiftRight, q64_s33u]
      have e : (D.toUInt64.toBitVec >>> 33#64).toNat = D.toBitVec.toNat >>> 33 := by simp
      rw [BitVec.toInt_eq_toNat_of_lt, e]
      rw [e, Nat.shiftRight_eq_div_pow]
      have := D.toBitVec.isLt
      omega
  obtain ⟨k, hk, ek⟩ := hx
  unfold qDr
  generalize (Int64.toUInt64 D >>> ((Int32.toInt64 33).toUInt64 &&& Int64.toUInt64 63)).toInt64 = x at ek ⊢
  have h100 : (100 : Int64).toInt = 100 := by decide
  have hd : (x / 100).toInt = ((k / 100 : Nat) : Int) := by
    rw [Int64.toInt_div_of_ne_right _ _ (by decide), ek, h100]
    exact Int.ofNat_tdiv k 100
  have hm : (x / 100 * 100).toInt = ((k / 100 * 100 : Nat) : Int) := by
    rw [Int64.toInt_mul, hd, h100]
    rw [show ((k / 100 : Nat) : Int) * 100 = ((k / 100 * 100 : Nat) : Int) by omega]
    apply Int.bmod_eq_of_le <;> omega
  refine ⟨k % 100, Nat.mod_lt _ (by decide), ?_⟩
  rw [Int64.toInt_sub, hm, ek, show (k : Int) - ((k / 100 * 100 : Nat) : Int) = ((k % 100 : Nat) : Int) by omega]
  apply Int.bmod_eq_of_le <;> omega
theorem lg_ge (x y : Int64) : 0 ≤ lg_cmp x y ↔ y.toInt ≤ x.toInt := by
  unfold lg_cmp
  by_cases h : x > y
  · rw [if_pos h]
    have := (fa_lt64 y x).mp h
    exact ⟨fun _ => by omega, fun _ => by decide⟩
  · rw [if_neg h]
    have h' : ¬ y.toInt < x.toInt := fun g => h ((fa_lt64 y x).mpr g)
    by_cases e : x = y
    · rw [if_pos e, e]
      exact ⟨fun _ => Int.le_refl _, fun _ => by decide⟩
    · rw [if_neg e]
      have e' : x.toInt ≠ y.toInt := fun g => e (Int64.toInt_inj.mp g)
      exact ⟨fun g => absurd g (by decide), fun g => by omega⟩
theorem qFv_iff (D : Int64) {r : Nat} (hr : r ≤ 100) : nI r ≤ Int64.toInt32 (qDr D) ↔ qFv D (nI r) = false := by
  obtain ⟨m, hm, e⟩ := qDr_nat D
  unfold qFv
  rw [decide_eq_false_iff_not, Classical.not_not, lg_ge, Int32.toInt_toInt64, nI_toInt (by omega), e, fa_le, nI_toInt (by omega), Int64.toInt_toInt32, e]
  rw [show ((m : Int)).bmod (2 ^ 32) = m by apply Int.bmod_eq_of_le <;> omega]
section
variable {n : Nat} {T : List sm_Sh} {I I' I1 : sm_MI} {L L' : sm_ML} {A : Nat → Nat → Int32} {H S N R ν lb b ν' lb' b' : Nat} {W : Nat → (Nat → Int32) → Int32} {f u : Nat → Int32} {g g' : Int32} {r : Nat}
abbrev Er (A : Nat → Nat → Int32) (lb r : Nat) (g : Int32) : Nat → Nat → Int32 := mkE A (nI lb) (-1) (nI r) (-1) g (fun _ => -1)
theorem strE_r {w : Nat} {fv : Bool} {s : Int32} : strE (Er A lb r g) W N ν w fv s u = strE (Er A lb r g') W N ν w fv s u := by
  unfold strE ownE ownR
  rw [ltE_mk (A := A) (gs := g) (lk' := nI lb) (bed' := -1) (rk' := nI r) (gh' := -1) (gs' := g') (f' := fun _ => -1)]
  rfl
theorem strE_s {E : Nat → Nat → Int32} {w : Nat} {fv : Bool} {s s' : Int32} (h : w = 0 ∨ s = s') : strE E W N ν w fv s u = strE E W N ν w fv s' u := by
  unfold strE
  rcases h with h | h
  · subst h
    simp
  · rw [h]
/-- lies and draws hang on lies and draws alone -/
theorem nst_cD {z z' : w_St} (hu : z.1 = z'.1) (hd : z.2.2.1 = z'.2.2.1) : ∀ w, (nst (Er A lb r g) W H N ν w z).1 = (nst (Er A lb r g') W H N ν w z').1 ∧ (nst (Er A lb r g) W H N ν w z).2.2.1 = (nst (Er A lb r g') W H N ν w z').2.2.1 ∧ (0 < w → (nst (Er A lb r g) W H N ν w z).2.1 = (nst (Er A lb r g') W H N ν w z').2.1)
  | 0 => ⟨hu, hd, fun q => absurd q (by decide)⟩
  | w + 1 => by
    obtain ⟨h1, h2, h3⟩ := nst_cD hu hd w
    have hf : fvB (Er A lb r g) w (nst (Er A lb r g) W H N ν w z).2.2.1 = fvB (Er A lb r g') w (nst (Er A lb r g') W H N ν w z').2.2.1 := by rw [h2]; rfl
    have hs : strE (Er A lb r g) W N ν w (fvB (Er A lb r g) w (nst (Er A lb r g) W H N ν w z).2.2.1) (nst (Er A lb r g) W H N ν w z).2.1 (nst (Er A lb r g) W H N ν w z).1 = strE (Er A lb r g') W N ν w (fvB (Er A lb r g') w (nst (Er A lb r g') W H N ν w z').2.2.1) (nst (Er A lb r g') W H N ν w z').2.1 (nst (Er A lb r g') W H N ν w z').1 := by
      rw [hf, h1, strE_r (g' := g')]
      apply strE_s
      rcases Nat.eq_zero_or_pos w with q | q
      · exact Or.inl q
      · exact Or.inr (h3 q)
    refine ⟨?_, ?_, fun _ => hs⟩
    · show crU (nst (Er A lb r g) W H N ν w z).1 (w_o (Er A lb r g) H N w _ _) (w_b (Er A lb r g) H w _) = crU (nst (Er A lb r g') W H N ν w z').1 (w_o (Er A lb r g') H N w _ _) (w_b (Er A lb r g') H w _)
      rw [hs, h1]
      rfl
    · show fvD (Er A lb r g) w (nst (Er A lb r g) W H N ν w z).2.2.1 = fvD (Er A lb r g') w (nst (Er A lb r g') W H N ν w z').2.2.1
      rw [h2]; rfl
abbrev uD : Type := (Nat → Int32) × Int64
def zD (q : uD) : w_St := (q.1, 0, q.2, fun _ => 0, fun _ => 0)
/-- a night: lies and draws -/
def ngF (A : Nat → Nat → Int32) (W : Nat → (Nat → Int32) → Int32) (H S N lb r ν : Nat) (q : uD) : uD := ((nst (Er A lb r 0) W H N ν S (zD q)).1, (nst (Er A lb r 0) W H N ν S (zD q)).2.2.1)
def nSq (A : Nat → Nat → Int32) (W : Nat → (Nat → Int32) → Int32) (H S N lb r ν : Nat) (q : uD) : Nat → uD
  | 0 => q
  | i + 1 => ngF A W H S N lb r (ν + i) (nSq A W H S N lb r ν q i)
theorem ngF_eq {z : w_St} {q : uD} (hu : z.1 = q.1) (hd : z.2.2.1 = q.2) : (nst (Er A lb r g) W H N ν S z).1 = (ngF A W H S N lb r ν q).1 ∧ (nst (Er A lb r g) W H N ν S z).2.2.1 = (ngF A W H S N lb r ν q).2 :=
  ⟨(nst_cD (z' := zD q) hu hd S).1, (nst_cD (z' := zD q) hu hd S).2.1⟩
/-- lies stay within the houses -/
theorem gR_nst {E : Nat → Nat → Int32} (hV : vE E H S N R) {z : w_St} (hz : gR H N z.1) : ∀ w, w ≤ S → gR H N (nst E W H N ν w z).1
  | 0, _ => hz
  | w + 1, hw => by
    have ih := gR_nst hV (z := z) hz w (by omega)
    obtain ⟨v1, v2, v3, v4, v5, v6⟩ := hV
    intro t ht
    show ∃ k, k < H ∧ crU (nst E W H N ν w z).1 (w_o E H N w (strE E W N ν w (fvB E w (nst E W H N ν w z).2.2.1) (nst E W H N ν w z).2.1 (nst E W H N ν w z).1) (nst E W H N ν w z).1) (w_b E H w (strE E W N ν w (fvB E w (nst E W H N ν w z).2.2.1) (nst E W H N ν w z).2.1 (nst E W H N ν w z).1)) t = nI k
    generalize strE E W N ν w (fvB E w (nst E W H N ν w z).2.2.1) (nst E W H N ν w z).2.1 (nst E W H N ν w z).1 = st
    cases w_o E H N w st (nst E W H N ν w z).1 with
    | none => exact ih t ht
    | some s =>
      show ∃ k, k < H ∧ upd (nst E W H N ν w z).1 s (w_b E H w st) t = nI k
      by_cases e : t = s
      · rw [e, pk_us]
        unfold w_b
        by_cases q : E 3 w = 4
        · rw [if_pos q]
          obtain ⟨k, hk, e1⟩ := (v6 w (by omega)).1
          exact ⟨k, hk, e1⟩
        · rw [if_neg q]; exact ⟨_, fmN_lt v1, rfl⟩
      · rw [pk_un e]; exact ih t ht
theorem gR_nSq (hV : ∀ r, vE (Er A lb r 0) H S N R) {q : uD} (hq : gR H N q.1) : ∀ i, gR H N (nSq A W H S N lb r ν q i).1
  | 0 => hq
  | i + 1 => gR_nst (hV r) (z := zD (nSq A W H S N lb r ν q i)) (gR_nSq hV hq i) S (Nat.le_refl _)
end
