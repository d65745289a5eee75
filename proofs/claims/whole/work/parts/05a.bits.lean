/-! ===== Int32 by its bits: bt x i ===== -/
def bt (x : Int32) (i : Nat) : Bool := x.toBitVec.getLsbD i
theorem b_ext {x y : Int32} (h : ∀ i, i < 32 → bt x i = bt y i) : x = y := Int32.toBitVec_inj.mp (BitVec.eq_of_getLsbD_eq (fun i hi => h i hi))
theorem b_or (x y : Int32) (i : Nat) : bt (x ||| y) i = (bt x i || bt y i) := by unfold bt; rw [Int32.toBitVec_or, BitVec.getLsbD_or]
theorem b_and (x y : Int32) (i : Nat) : bt (x &&& y) i = (bt x i && bt y i) := by unfold bt; rw [Int32.toBitVec_and, BitVec.getLsbD_and]
theorem b_xor (x y : Int32) (i : Nat) : bt (x ^^^ y) i = (bt x i ^^ bt y i) := by unfold bt; rw [Int32.toBitVec_xor, BitVec.getLsbD_xor]
theorem b_big {x : Int32} {i : Nat} (h : 32 ≤ i) : bt x i = false := BitVec.getLsbD_of_ge _ _ h
theorem b_255 (i : Nat) : bt 255 i = decide (i < 8) := by
  rcases Nat.lt_or_ge i 32 with h | h
  · exact (by decide +kernel : ∀ i, i < 32 → bt 255 i = decide (i < 8)) i h
  · rw [b_big h, decide_eq_false (by omega)]
theorem b_65535 (i : Nat) : bt 65535 i = decide (i < 16) := by
  rcases Nat.lt_or_ge i 32 with h | h
  · exact (by decide +kernel : ∀ i, i < 32 → bt 65535 i = decide (i < 16)) i h
  · rw [b_big h, decide_eq_false (by omega)]
theorem b_m1 : ∀ i, i < 32 → bt (-1) i = true := by decide +kernel
theorem b_0 (i : Nat) : bt 0 i = false := BitVec.getLsbD_zero
theorem s_l : ∀ n, n < 32 → ((nI n &&& 31).toBitVec.smod 32).toNat = n := by decide +kernel
theorem s_u : ∀ n, n < 32 → (((nI n).toUInt32 &&& Int32.toUInt32 31).toBitVec % 32).toNat = n := by decide +kernel
theorem b_shl (n : Nat) (hn : n < 32) (x : Int32) {i : Nat} (hi : i < 32) : bt (x <<< (nI n &&& 31)) i = (decide (n ≤ i) && bt x (i - n)) := by
  unfold bt
  rw [Int32.toBitVec_shiftLeft]
  show (x.toBitVec <<< ((nI n &&& 31).toBitVec.smod 32).toNat).getLsbD i = _
  rw [s_l n hn, BitVec.getLsbD_shiftLeft]
  rcases Nat.lt_or_ge i n with h | h
  · simp [h, Nat.not_le.mpr h]
  · simp [hi, h, Nat.not_lt.mpr h]
theorem b_ushr (n : Nat) (hn : n < 32) (x : Int32) (i : Nat) : bt ((x.toUInt32 >>> ((nI n).toUInt32 &&& Int32.toUInt32 31)).toInt32) i = bt x (n + i) := by
  show (x.toUInt32 >>> ((nI n).toUInt32 &&& Int32.toUInt32 31)).toBitVec.getLsbD i = x.toUInt32.toBitVec.getLsbD (n + i)
  rw [UInt32.toBitVec_shiftRight]
  show (x.toUInt32.toBitVec >>> (((nI n).toUInt32 &&& Int32.toUInt32 31).toBitVec % 32).toNat).getLsbD i = _
  rw [s_u n hn, BitVec.getLsbD_ushiftRight]
theorem b_sshr (n : Nat) (hn : n < 32) (x : Int32) {i : Nat} (hi : i < 32) : bt (x >>> (nI n &&& 31)) i = if n + i < 32 then bt x (n + i) else bt x 31 := by
  unfold bt
  rw [Int32.toBitVec_shiftRight]
  show (x.toBitVec.sshiftRight ((nI n &&& 31).toBitVec.smod 32).toNat).getLsbD i = _
  rw [s_l n hn, BitVec.getLsbD_sshiftRight, BitVec.msb_eq_getLsbD_last]
  simp [hi]
theorem b_shl8 (x : Int32) {i : Nat} (hi : i < 32) : bt (x <<< ((8 : Int32) &&& 31)) i = (decide (8 ≤ i) && bt x (i - 8)) := b_shl 8 (by omega) x hi
theorem b_shl16 (x : Int32) {i : Nat} (hi : i < 32) : bt (x <<< ((16 : Int32) &&& 31)) i = (decide (16 ≤ i) && bt x (i - 16)) := b_shl 16 (by omega) x hi
theorem b_shl24 (x : Int32) {i : Nat} (hi : i < 32) : bt (x <<< ((24 : Int32) &&& 31)) i = (decide (24 ≤ i) && bt x (i - 24)) := b_shl 24 (by omega) x hi
theorem b_sshr8 (x : Int32) {i : Nat} (hi : i < 32) : bt (x >>> ((8 : Int32) &&& 31)) i = if 8 + i < 32 then bt x (8 + i) else bt x 31 := b_sshr 8 (by omega) x hi
theorem nx_and (a b : Nat) : nI a &&& nI b = nI (a &&& b) := by
  apply Int32.toBitVec_inj.1
  show BitVec.ofNat 32 a &&& BitVec.ofNat 32 b = BitVec.ofNat 32 (a &&& b)
  apply BitVec.eq_of_getLsbD_eq
  intro i hi
  simp [hi]
/-! ===== order of ints, in all its forms, and through longs ===== -/
theorem fa_lt (a b : Int32) : a < b ↔ a.toInt < b.toInt := Int32.lt_iff_toInt_lt
theorem fa_le (a b : Int32) : a ≤ b ↔ a.toInt ≤ b.toInt := Int32.le_iff_toInt_le
theorem fa_eq (a b : Int32) : a = b ↔ a.toInt = b.toInt := Int32.toInt_inj.symm
theorem fa_lt64 (a b : Int64) : a < b ↔ a.toInt < b.toInt := Int64.lt_iff_toInt_lt
theorem fa_le64 (a b : Int64) : a ≤ b ↔ a.toInt ≤ b.toInt := Int64.le_iff_toInt_le
theorem fa_eq64 (a b : Int64) : a = b ↔ a.toInt = b.toInt := Int64.toInt_inj.symm
/-- a comparison of two ints taken as longs -/
theorem fa_wide_lt (a b : Int32) : a.toInt64 < b.toInt64 ↔ a < b := by rw [fa_lt64, fa_lt, Int32.toInt_toInt64, Int32.toInt_toInt64]
theorem fa_wide_le (a b : Int32) : a.toInt64 ≤ b.toInt64 ↔ a ≤ b := by rw [fa_le64, fa_le, Int32.toInt_toInt64, Int32.toInt_toInt64]
theorem fa_wide_eq (a b : Int32) : a.toInt64 = b.toInt64 ↔ a = b := by rw [fa_eq64, fa_eq, Int32.toInt_toInt64, Int32.toInt_toInt64]
/-- one strict comparison gives all the others -/
theorem fa_of_lt {a b : Int32} (h : a < b) : a ≤ b ∧ ¬ b ≤ a ∧ ¬ b < a ∧ a ≠ b ∧ b ≠ a := by
  rw [fa_lt] at h
  refine ⟨?_, ?_, ?_, ?_, ?_⟩
  · rw [fa_le]; omega
  · rw [fa_le]; omega
  · rw [fa_lt]; omega
  · intro e; rw [fa_eq] at e; omega
  · intro e; rw [fa_eq] at e; omega
theorem fa_of_nlt {a b : Int32} (h : ¬ a < b) : b ≤ a := by
  rw [fa_lt] at h
  rw [fa_le]
  omega
theorem fa_of_nle {a b : Int32} (h : ¬ a ≤ b) : b < a := by
  rw [fa_le] at h
  rw [fa_lt]
  omega
theorem fa_le_ne {a b : Int32} (h : a ≤ b) (h2 : a ≠ b) : a < b := by
  rw [fa_le] at h
  rw [fa_lt]
  have h3 : a.toInt ≠ b.toInt := fun e => h2 ((fa_eq a b).mpr e)
  omega
theorem fa_three (a b : Int32) : a < b ∨ a = b ∨ b < a := by
  rw [fa_lt, fa_lt, fa_eq]
  omega
theorem fa_trans {a b c : Int32} (h : a < b) (h2 : b ≤ c) : a < c := by
  rw [fa_lt] at *
  rw [fa_le] at h2
  omega
theorem fa_or (a b : Nat) : nI a ||| nI b = nI (a ||| b) := by
  apply Int32.toBitVec_inj.1
  show BitVec.ofNat 32 a ||| BitVec.ofNat 32 b = BitVec.ofNat 32 (a ||| b)
  apply BitVec.eq_of_getLsbD_eq
  intro i hi
  simp [hi]
/-! ===== JDK functions as plain functions ===== -/
abbrev q_s (x : Int32) (k : Int32) : Int32 := ((Int32.toUInt32 x) >>> ((Int32.toUInt32 k) &&& Int32.toUInt32 31)).toInt32
def q_B1 (a : Int32) : Int32 := a - ((q_s a 1) &&& 1431655765)
def q_B2 (v : Int32) : Int32 := (v &&& 858993459) + ((q_s v 2) &&& 858993459)
def q_B3 (v : Int32) : Int32 := (v + (q_s v 4)) &&& 252645135
def q_B4 (v : Int32) : Int32 := v + (q_s v 8)
def q_B5 (v : Int32) : Int32 := v + (q_s v 16)
def qBC (a : Int32) : Int32 := (q_B5 (q_B4 (q_B3 (q_B2 (q_B1 a))))) &&& 63
def q_L48 (a0 a1 : Int32) : Int32 := if a0 < 16 then (if a0 < 4 then a1 - q_s a0 1 else (a1 + (-2)) - q_s (q_s a0 2) 1) else (if q_s a0 4 < 4 then (a1 + (-4)) - q_s (q_s a0 4) 1 else ((a1 + (-4)) + (-2)) - q_s (q_s (q_s a0 4) 2) 1)
def qNL (a : Int32) : Int32 := if 0 < a then (if a < 65536 then (if a < 256 then q_L48 a 31 else q_L48 (q_s a 8) (31 + (-8))) else (if q_s a 16 < 256 then q_L48 (q_s a 16) (31 + (-16)) else q_L48 (q_s (q_s a 16) 8) ((31 + (-16)) + (-8)))) else (if a = 0 then 32 else 0)
def q_T49 (a0 a1 : Int32) : Int32 := if a0 ≤ 16 then (if a0 ≤ 4 then a1 + q_s a0 1 else (a1 + 2) + q_s (q_s a0 2) 1) else (if q_s a0 4 ≤ 4 then (a1 + 4) + q_s (q_s a0 4) 1 else ((a1 + 4) + 2) + q_s (q_s (q_s a0 4) 2) 1)
abbrev q_tz (a : Int32) : Int32 := (a ^^^ (-1)) &&& (a - 1)
def qNT (a : Int32) : Int32 := if 0 < q_tz a then (if q_tz a ≤ 65536 then (if q_tz a ≤ 256 then q_T49 (q_tz a) 1 else q_T49 (q_s (q_tz a) 8) (1 + 8)) else (if q_s (q_tz a) 16 ≤ 256 then q_T49 (q_s (q_tz a) 16) (1 + 16) else q_T49 (q_s (q_s (q_tz a) 16) 8) ((1 + 16) + 8))) else q_tz a &&& 32
def qFM (a b : Int32) : Int32 := if 0 ≤ (a ^^^ b) then a - a / b * b else if a - a / b * b = 0 then a - a / b * b else (a - a / b * b) + b
section
variable {n : Nat} {F : Int32 → sm_MI → sm_ML → Prop} {T : List sm_Sh} {I : sm_MI} {L : sm_ML}
theorem s_BC {a : Int32} (h : F (qBC a) I L) : sm_CI n mJ6_bitCount_0f7a4 T I L [.int a] F :=
  c_J6_bitCount_0f7a4 (fun _ h1 _ h2 _ h3 _ h4 _ h5 => by subst h1 h2 h3 h4 h5; exact h)
theorem s_L48 {x : sm_Cx} {a0 a1 : Int32} (hx : sm_Ok x mJ6_numberOfLeadingZeros_0f7a4 n (sm_KI T F)) (h : F (q_L48 a0 a1) I L) : sm_V x 0 0 T I L 48 [some (.int a0), some (.int a1)] [] :=
  u_J6_numberOfLeadingZeros_0f7a4_48 hx ⟨fun p => ⟨fun q => by unfold q_L48 at h; rw [if_pos p, if_pos q] at h; exact h, fun q v e => by subst e; unfold q_L48 at h; rw [if_pos p, if_neg q] at h; exact h⟩, fun p v e => by subst e; exact ⟨fun q => by unfold q_L48 at h; rw [if_neg p, if_pos q] at h; exact h, fun q v e => by subst e; unfold q_L48 at h; rw [if_neg p, if_neg q] at h; exact h⟩⟩
theorem s_NL {a : Int32} (h : F (qNL a) I L) : sm_CI n mJ6_numberOfLeadingZeros_0f7a4 T I L [.int a] F :=
  c_J6_numberOfLeadingZeros_0f7a4 (fun _ hx => ⟨fun p => ⟨fun q => ⟨fun r => s_L48 hx (by unfold qNL at h; rw [if_pos p, if_pos q, if_pos r] at h; exact h), fun r v e => by subst e; exact s_L48 hx (by unfold qNL at h; rw [if_pos p, if_pos q, if_neg r] at h; exact h)⟩, fun q v e => by subst e; exact ⟨fun r => s_L48 hx (by unfold qNL at h; rw [if_pos p, if_neg q, if_pos r] at h; exact h), fun r v e => by subst e; exact s_L48 hx (by unfold qNL at h; rw [if_pos p, if_neg q, if_neg r] at h; exact h)⟩⟩, fun p => ⟨fun q => by unfold qNL at h; rw [if_neg p, if_neg q] at h; exact h, fun q => by unfold qNL at h; rw [if_neg p, if_pos q] at h; exact h⟩⟩)
theorem s_T49 {x : sm_Cx} {a0 a1 : Int32} (hx : sm_Ok x mJ6_numberOfTrailingZeros_0f7a4 n (sm_KI T F)) (h : F (q_T49 a0 a1) I L) : sm_V x 0 0 T I L 49 [some (.int a0), some (.int a1)] [] :=
  u_J6_numberOfTrailingZeros_0f7a4_49 hx ⟨fun p => ⟨fun q => by unfold q_T49 at h; rw [if_pos p, if_pos q] at h; exact h, fun q v e => by subst e; unfold q_T49 at h; rw [if_pos p, if_neg q] at h; exact h⟩, fun p v e => by subst e; exact ⟨fun q => by unfold q_T49 at h; rw [if_neg p, if_pos q] at h; exact h, fun q v e => by subst e; unfold q_T49 at h; rw [if_neg p, if_neg q] at h; exact h⟩⟩
theorem s_NT {a : Int32} (h : F (qNT a) I L) : sm_CI n mJ6_numberOfTrailingZeros_0f7a4 T I L [.int a] F :=
  c_J6_numberOfTrailingZeros_0f7a4 (fun _ hx => ⟨fun p => ⟨fun q => ⟨fun r => s_T49 hx (by unfold qNT at h; rw [if_pos p, if_pos q, if_pos r] at h; exact h), fun r v e => by subst e; exact s_T49 hx (by unfold qNT at h; rw [if_pos p, if_pos q, if_neg r] at h; exact h)⟩, fun q v e => by subst e; exact ⟨fun r => s_T49 hx (by unfold qNT at h; rw [if_pos p, if_neg q, if_pos r] at h; exact h), fun r v e => by subst e; exact s_T49 hx (by unfold qNT at h; rw [if_pos p, if_neg q, if_neg r] at h; exact h)⟩⟩, fun p => by unfold qNT at h; rw [if_neg p] at h; exact h⟩)
theorem s_FM {a b : Int32} (hb : ¬ b = 0) (h : F (qFM a b) I L) : sm_CI n mJ9_floorMod_7cf53 T I L [.int a, .int b] F :=
  c_J9_floorMod_7cf53 ⟨hb, fun p => by unfold qFM at h; rw [if_pos p] at h; exact h, fun p => ⟨fun q => by unfold qFM at h; rw [if_neg p, if_pos q] at h; exact h, fun q => by unfold qFM at h; rw [if_neg p, if_neg q] at h; exact h⟩⟩
end
/-! ===== facts on them ===== -/
theorem q_num (x : Int32) : x = nI x.toBitVec.toNat := by
  apply Int32.toBitVec_inj.1
  show x.toBitVec = BitVec.ofNat 32 x.toBitVec.toNat
  simp
theorem bt_7 (i : Nat) : bt 7 i = decide (i < 3) := by
  rcases Nat.lt_or_ge i 32 with h | h
  · exact (by decide +kernel : ∀ i, i < 32 → bt 7 i = decide (i < 3)) i h
  · rw [b_big h, decide_eq_false (by omega)]
theorem bt_1 (i : Nat) : bt 1 i = decide (i < 1) := by
  rcases Nat.lt_or_ge i 32 with h | h
  · exact (by decide +kernel : ∀ i, i < 32 → bt 1 i = decide (i < 1)) i h
  · rw [b_big h, decide_eq_false (by omega)]
theorem bt_k8 {k i : Nat} (hk : k < 8) (hi : 3 ≤ i) : bt (nI k) i = false := by
  rcases Nat.lt_or_ge i 32 with h | h
  · exact (by decide +kernel : ∀ k, k < 8 → ∀ i, i < 32 → 3 ≤ i → bt (nI k) i = false) k hk i h hi
  · exact b_big h
theorem q_mul3 (t : Nat) : (3 : Int32) * nI t = nI (3 * t) := pk_mul 3 t
def qPl (p t : Int32) : Int32 := (((Int32.toUInt32 p) >>> ((Int32.toUInt32 (3 * t)) &&& Int32.toUInt32 31)).toInt32) &&& 7
def qPd (p t h : Int32) : Int32 := (p &&& ((7 <<< ((3 * t) &&& 31)) ^^^ (-1))) ||| (h <<< ((3 * t) &&& 31))
def qBo (b i : Int32) : Int32 := (((Int32.toUInt32 b) >>> ((Int32.toUInt32 i) &&& Int32.toUInt32 31)).toInt32) &&& 1
theorem bt_Pl (p : Int32) {t : Nat} (ht : t < 8) (i : Nat) : bt (qPl p (nI t)) i = (bt p (3 * t + i) && decide (i < 3)) := by
  unfold qPl
  rw [b_and, q_mul3, b_ushr (3 * t) (by omega), bt_7]
theorem bt_Pd (p : Int32) {t k i : Nat} (ht : t < 8) (hi : i < 32) : bt (qPd p (nI t) (nI k)) i = ((bt p i && !(decide (3 * t ≤ i) && decide (i - 3 * t < 3))) || (decide (3 * t ≤ i) && bt (nI k) (i - 3 * t))) := by
  unfold qPd
  rw [b_or, b_and, b_xor, q_mul3, b_shl (3 * t) (by omega) _ hi, b_shl (3 * t) (by omega) _ hi, b_m1 i hi, bt_7]
  simp
theorem qPl_Pd (p : Int32) {t s k : Nat} (ht : t < 8) (hs : s < 8) (hk : k < 8) : qPl (qPd p (nI t) (nI k)) (nI s) = if s = t then nI k else qPl p (nI s) := by
  apply b_ext
  intro i hi
  rw [bt_Pl _ hs]
  rcases Nat.lt_or_ge i 3 with h3 | h3
  · rw [bt_Pd p ht (by omega)]
    by_cases e : s = t
    · subst e
      rw [if_pos rfl, show 3 * s + i - 3 * s = i by omega]
      simp [h3]
    · rw [if_neg e, bt_Pl _ hs]
      rcases Nat.lt_or_gt_of_ne e with g | g
      · have h1 : ¬ 3 * t ≤ 3 * s + i := by omega
        simp [h1]
      · have h1 : 3 * t ≤ 3 * s + i := by omega
        have h2 : 3 ≤ 3 * s + i - 3 * t := by omega
        have h4 : ¬ 3 * s + i - 3 * t < 3 := by omega
        simp [h1, h4, bt_k8 hk h2]
  · have h4 : ¬ i < 3 := by omega
    by_cases e : s = t
    · rw [if_pos e, bt_k8 hk h3]; simp [h4]
    · rw [if_neg e, bt_Pl _ hs]; simp [h4]
theorem q_and7 (x : Int32) : ∃ k, k < 8 ∧ x &&& 7 = nI k := pk_andE x 3 (by decide +kernel)
theorem q_and1 (x : Int32) : ∃ k, k < 2 ∧ x &&& 1 = nI k := pk_andE x 1 (by decide +kernel)
theorem qPl_lt (p t : Int32) : ∃ k, k < 8 ∧ qPl p t = nI k := q_and7 _
theorem q_pow : ∀ t, t < 31 → (1 : Int32) <<< (nI t &&& 31) = nI (2 ^ t) := by decide +kernel
/-- bits of a property -/
def bitsOf (f : Nat → Bool) : Nat → Nat
  | 0 => 0
  | n + 1 => bitsOf f n + (if f n then 2 ^ n else 0)
theorem bitsOf_lt (f : Nat → Bool) : ∀ n, bitsOf f n < 2 ^ n
  | 0 => by simp [bitsOf]
  | n + 1 => by
    have := bitsOf_lt f n
    unfold bitsOf
    split
    · rw [Nat.pow_succ]; omega
    · rw [Nat.pow_succ]; omega
theorem bitsOf_cong {f g : Nat → Bool} : ∀ {n : Nat}, (∀ t, t < n → f t = g t) → bitsOf f n = bitsOf g n
  | 0, _ => rfl
  | n + 1, h => by rw [bitsOf, bitsOf, bitsOf_cong (fun t ht => h t (by omega)), h n (by omega)]
theorem bitsOf_or {f : Nat → Bool} {n : Nat} (hn : n < 31) (h : f n = true) : nI (bitsOf f n) ||| ((1 : Int32) <<< (nI n &&& 31)) = nI (bitsOf f (n + 1)) := by
  rw [q_pow n hn, fa_or]
  have := Nat.two_pow_add_eq_or_of_lt (bitsOf_lt f n) 1
  rw [bitsOf, if_pos h, Nat.or_comm, ← Nat.mul_one (2 ^ n), ← this, Nat.add_comm]
theorem bitsOf_no {f : Nat → Bool} {n : Nat} (h : f n = false) : bitsOf f (n + 1) = bitsOf f n := by
  rw [bitsOf, h]; simp
theorem bitsOf_bit (f : Nat → Bool) (t : Nat) : ∀ n, (bitsOf f n).testBit t = (decide (t < n) && f t)
  | 0 => by simp [bitsOf]
  | n + 1 => by
    have ih := bitsOf_bit f t n
    by_cases hf : f n = true
    · have e : bitsOf f (n + 1) = 2 ^ n * 1 ||| bitsOf f n := by
        rw [bitsOf, if_pos hf, ← Nat.two_pow_add_eq_or_of_lt (bitsOf_lt f n) 1]; omega
      rw [e, Nat.testBit_or, ih, Nat.mul_one, Nat.testBit_two_pow]
      by_cases ht : n = t
      · subst ht; simp [hf]
      · have : (t < n + 1) ↔ t < n := by omega
        simp [ht, this]
    · have hf' : f n = false := Bool.eq_false_iff.mpr hf
      rw [bitsOf_no hf', ih]
      by_cases ht : n = t
      · subst ht; simp [hf']
      · have : (t < n + 1) ↔ t < n := by omega
        simp [this]
theorem bitsOf_0 (f : Nat → Bool) (n : Nat) : bitsOf f n = 0 ↔ ∀ t, t < n → f t = false := by
  constructor
  · intro h t ht
    have := bitsOf_bit f t n
    rw [h] at this
    simpa [ht] using this.symm
  · intro h
    apply Nat.eq_of_testBit_eq
    intro i
    rw [bitsOf_bit]
    by_cases hi : i < n
    · simp [h i hi]
    · simp [hi]
def cntOf (f : Nat → Bool) : Nat → Nat
  | 0 => 0
  | n + 1 => cntOf f n + (if f n then 1 else 0)
theorem cntOf_le (f : Nat → Bool) : ∀ n, cntOf f n ≤ n
  | 0 => Nat.le_refl 0
  | n + 1 => by
    have := cntOf_le f n
    unfold cntOf
    split
    · omega
    · omega
theorem cntOf_cong {f g : Nat → Bool} : ∀ {n : Nat}, (∀ t, t < n → f t = g t) → cntOf f n = cntOf g n
  | 0, _ => rfl
  | n + 1, h => by rw [cntOf, cntOf, cntOf_cong (fun t ht => h t (by omega)), h n (by omega)]
theorem qBC_step : ∀ t, t < 8 → ∀ a, a < 2 ^ t → qBC (nI (a + 2 ^ t)) = qBC (nI a) + 1 := by decide +kernel
theorem qBC_bits (f : Nat → Bool) : ∀ n, n ≤ 8 → qBC (nI (bitsOf f n)) = nI (cntOf f n)
  | 0, _ => by show qBC 0 = 0; decide +kernel
  | n + 1, h => by
    by_cases hf : f n = true
    · rw [bitsOf, cntOf, if_pos hf, if_pos hf, qBC_step n (by omega) _ (bitsOf_lt f n), qBC_bits f n (by omega), nI_1]
    · rw [bitsOf, cntOf, if_neg hf, if_neg hf, Nat.add_zero, Nat.add_zero, qBC_bits f n (by omega)]
theorem qNT_all : ∀ b, b < 256 → b ≠ 0 → (qNT (nI b)).toNatClampNeg < 8 ∧ qNT (nI b) = nI (qNT (nI b)).toNatClampNeg ∧ b.testBit (qNT (nI b)).toNatClampNeg = true := by decide +kernel
theorem qNL_all : ∀ b, b < 256 → b ≠ 0 → (31 - qNL (nI b)).toNatClampNeg < 8 ∧ 31 - qNL (nI b) = nI (31 - qNL (nI b)).toNatClampNeg ∧ b.testBit (31 - qNL (nI b)).toNatClampNeg = true := by decide +kernel
theorem qBo_nat : ∀ b, b < 256 → ∀ h, h < 8 → qBo (nI b) (nI h) = if b.testBit h then 1 else 0 := by decide +kernel
theorem qSh_nat : ∀ b, b < 256 → ∀ h, h < 8 → (nI b >>> (nI h &&& 31)) &&& 1 = if b.testBit h then 1 else 0 := by decide +kernel
