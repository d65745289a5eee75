/-! ===== remainders ===== -/
theorem q_tmle {a : Int} {H : Nat} (h : 0 ≤ a) : a.tmod H ≤ a := by
  have h1 := Int.mul_tdiv_add_tmod a H
  have h2 : 0 ≤ (H : Int) * a.tdiv H := Int.mul_nonneg (by omega) (Int.tdiv_nonneg h (by omega))
  omega
theorem q_rem {a : Int32} {H : Nat} (h0 : 0 < H) (hH : H < 2 ^ 31) : (a - a / nI H * nI H).toInt = a.toInt.tmod H := by
  have hb := nI_toInt hH
  have hne : nI H ≠ -1 := by
    intro e
    have e2 : (nI H).toInt = (-1 : Int32).toInt := by rw [e]
    rw [hb] at e2
    have : (-1 : Int32).toInt = -1 := by decide
    omega
  have hd : (a / nI H).toInt = a.toInt.tdiv H := by
    rw [Int32.toInt_div_of_ne_right _ _ hne, hb]
  have ha1 := Int32.le_toInt a
  have ha2 := Int32.toInt_lt a
  have hq : a.toInt.tdiv H * (H : Int) = a.toInt - a.toInt.tmod H := by
    have := Int.mul_tdiv_add_tmod a.toInt H
    rw [Int.mul_comm] at this
    omega
  have hm1 : a.toInt.tmod H < H := Int.tmod_lt_of_pos _ (by omega)
  have hm2 : -(H : Int) < a.toInt.tmod H := by
    have := Int.lt_tmod_of_pos a.toInt (show (0 : Int) < H by omega)
    omega
  have hmz : (0 ≤ a.toInt → 0 ≤ a.toInt.tmod H ∧ a.toInt.tmod H ≤ a.toInt) := fun h => ⟨Int.tmod_nonneg _ h, q_tmle h⟩
  have hmn : (a.toInt ≤ 0 → a.toInt.tmod H ≤ 0 ∧ a.toInt ≤ a.toInt.tmod H) := by
    intro h
    have e : a.toInt = -(-a.toInt) := by omega
    have h1 : 0 ≤ (-a.toInt).tmod H := Int.tmod_nonneg _ (by omega)
    have h2 : (-a.toInt).tmod H ≤ -a.toInt := q_tmle (by omega)
    have e2 : a.toInt.tmod H = -((-a.toInt).tmod H) := by rw [Int.neg_tmod]; omega
    omega
  have hmul : (a / nI H * nI H).toInt = a.toInt - a.toInt.tmod H := by
    rw [Int32.toInt_mul, hd, hb, hq]
    apply Int.bmod_eq_of_le
    · rcases Int.le_total 0 a.toInt with z | z
      · have := hmz z; omega
      · have := hmn z; omega
    · rcases Int.le_total 0 a.toInt with z | z
      · have := hmz z; omega
      · have := hmn z; omega
  rw [Int32.toInt_sub, hmul]
  rw [show a.toInt - (a.toInt - a.toInt.tmod H) = a.toInt.tmod H by omega]
  apply Int.bmod_eq_of_le <;> omega
theorem bt_31 (x : Int32) : bt x 31 = decide (x < 0) := by
  have h : bt x 31 = x.toBitVec.msb := (BitVec.msb_eq_getLsbD_last x.toBitVec).symm
  rw [h, BitVec.msb_eq_toInt]
  have : (x < 0) ↔ x.toBitVec.toInt < 0 := fa_lt x 0
  by_cases z : x < 0
  · rw [decide_eq_true z, decide_eq_true (this.mp z)]
  · rw [decide_eq_false z, decide_eq_false (fun q => z (this.mpr q))]
theorem q_xor_sign {a : Int32} {H : Nat} (hH : H < 2 ^ 31) : 0 ≤ (a ^^^ nI H) ↔ ¬ a < 0 := by
  have h1 : bt (a ^^^ nI H) 31 = bt a 31 := by
    rw [b_xor, bt_31 (nI H), decide_eq_false (nI_pos hH)]
    simp
  rw [bt_31, bt_31] at h1
  have h2 : (a ^^^ nI H) < 0 ↔ a < 0 := by simpa using h1
  rw [← h2]
  rw [fa_le, fa_lt]
  omega
theorem q_emod {z r q : Int} {H : Nat} (h : z = H * q + r) (h0 : 0 ≤ r) (h1 : r < H) : z % H = r := by
  rw [h, Int.add_comm, Int.add_mul_emod_self_left]
  exact Int.emod_eq_of_lt h0 h1
def fmN (a : Int32) (H : Nat) : Nat := (a.toInt % (H : Int)).toNat
theorem fmN_lt {a : Int32} {H : Nat} (h0 : 0 < H) : fmN a H < H := by
  unfold fmN
  have h1 := Int.emod_nonneg a.toInt (show (H : Int) ≠ 0 by omega)
  have h2 := Int.emod_lt_of_pos a.toInt (show (0 : Int) < H by omega)
  omega
theorem qFM_nat {a : Int32} {H : Nat} (h0 : 0 < H) (hH : H < 2 ^ 31) : qFM a (nI H) = nI (fmN a H) := by
  have hr := q_rem (a := a) h0 hH
  have hk := fmN_lt (a := a) h0
  apply (fa_eq _ _).mpr
  rw [nI_toInt (by omega)]
  have hz : ((a - a / nI H * nI H) = 0) ↔ a.toInt.tmod H = 0 := by
    rw [fa_eq, hr]; rfl
  have hm1 : a.toInt.tmod H < H := Int.tmod_lt_of_pos _ (by omega)
  have hm2 : -(H : Int) < a.toInt.tmod H := by
    have := Int.lt_tmod_of_pos a.toInt (show (0 : Int) < H by omega)
    omega
  unfold qFM
  by_cases hs : a < 0
  · rw [if_neg (fun q => (q_xor_sign hH).mp q hs)]
    have hs' : a.toInt < 0 := (fa_lt a 0).mp hs
    by_cases hm : (a - a / nI H * nI H) = 0
    · rw [if_pos hm, hr]
      have := hz.mp hm
      unfold fmN
      have hd : (H : Int) ∣ a.toInt := Int.dvd_of_tmod_eq_zero this
      have := Int.emod_eq_zero_of_dvd hd
      omega
    · rw [if_neg hm, Int32.toInt_add, hr, nI_toInt hH]
      have hne : a.toInt.tmod H ≠ 0 := fun q => hm (hz.mpr q)
      have hmn : a.toInt.tmod H ≤ 0 := by
        have h1 : 0 ≤ (-a.toInt).tmod H := Int.tmod_nonneg _ (by omega)
        rw [Int.neg_tmod] at h1
        omega
      rw [Int.bmod_eq_of_le (by omega) (by omega)]
      unfold fmN
      have h3 : a.toInt = H * (a.toInt.tdiv H - 1) + (a.toInt.tmod H + H) := by
        have := Int.mul_tdiv_add_tmod a.toInt H
        rw [Int.mul_sub]
        omega
      have e := q_emod h3 (by omega) (by omega)
      omega
  · rw [if_pos ((q_xor_sign hH).mpr hs), hr]
    have hs' : 0 ≤ a.toInt := by
      have h4 : ¬ a.toInt < (0 : Int32).toInt := fun q => hs ((fa_lt a 0).mpr q)
      have e0 : (0 : Int32).toInt = 0 := by decide
      omega
    unfold fmN
    rw [Int.tmod_eq_emod_of_nonneg hs']
    have := Int.emod_nonneg a.toInt (show (H : Int) ≠ 0 by omega)
    omega
theorem fmN_nat {h H : Nat} (hh : h < H) (hH : H < 2 ^ 31) : fmN (nI h) H = h := by
  unfold fmN
  rw [nI_toInt (by omega), Int.emod_eq_of_lt (by omega) (by omega)]
  omega
/-! ===== small help ===== -/
theorem q_le {a b : Nat} (q : nI a ≤ nI b) (ha : a < 2 ^ 31) (hb : b < 2 ^ 31) : a ≤ b := (nI_leI ha hb).mp q
theorem q_nle {a b : Nat} (q : ¬ nI a ≤ nI b) (ha : a < 2 ^ 31) (hb : b < 2 ^ 31) : b < a := by
  rcases Nat.lt_or_ge b a with h | h
  · exact h
  · exact absurd (nI_le h hb) q
/-- a stretch of cells written over -/
def sm_fill (I : sm_MI) (p m : Nat) (f : Nat → Int32) : sm_MI := fun a b => if a = p then (if b < m then f b else I a b) else I a b
theorem sm_fill_0 (I : sm_MI) (p : Nat) (f : Nat → Int32) : sm_fill I p 0 f = I := by
  funext a b
  unfold sm_fill
  simp
theorem sm_fill_s (I : sm_MI) (p i : Nat) (f : Nat → Int32) : sm_uI (sm_fill I p i f) p i (f i) = sm_fill I p (i + 1) f := by
  funext a b
  unfold sm_fill sm_uI
  by_cases h : a = p
  · by_cases e : b = i
    · subst e; simp [h]
    · have : b < i + 1 ↔ b < i := by omega
      simp [h, e, this]
  · simp [h]
section
variable {n : Nat} {T : List sm_Sh} {I : sm_MI} {L : sm_ML} {k p m i : Nat} {r : List (Option Nat)}
theorem s_len {F : Int32 → sm_MI → sm_ML → Prop} (hk : T[k]? = some (.inr (3, [.ref p]))) (hp : T[p]? = some (.inl (.int, m, r))) (h : F (nI m) I L) : sm_CI n mX3_length T I L [.ref k] F := c_X3_length hk hp h
theorem s_at {F : Int32 → sm_MI → sm_ML → Prop} (hk : T[k]? = some (.inr (3, [.ref p]))) (hp : T[p]? = some (.inl (.int, m, r))) (hi : i < m) (hm : m < 2 ^ 31) (h : F (I p i) I L) : sm_CI n mX3_at T I L [.ref k, .int (nI i)] F :=
  c_X3_at hk hp ⟨fun q => absurd q (nI_pos (by omega)), fun _ => ⟨fun q => absurd q (nI_ge hi hm), fun _ => ⟨vp_in_nI hi hm, by rw [nI_clamp (by omega)]; exact h⟩⟩⟩
theorem s_set {F : sm_MI → sm_ML → Prop} {v : Int32} (hk : T[k]? = some (.inr (3, [.ref p]))) (hp : T[p]? = some (.inl (.int, m, r))) (hi : i < m) (hm : m < 2 ^ 31) (h : F (sm_uI I p i v) L) : sm_CV n mX3_set T I L [.ref k, .int (nI i), .int v] F :=
  c_X3_set hk hp ⟨fun q => absurd q (nI_pos (by omega)), fun _ => ⟨fun q => absurd q (nI_ge hi hm), fun _ => ⟨vp_in_nI hi hm, by rw [nI_clamp (by omega)]; exact h⟩⟩⟩
theorem s_fill_l {F : sm_MI → sm_ML → Prop} {v : Int32} {x : sm_Cx} (hk : T[k]? = some (.inr (3, [.ref p]))) (hp : T[p]? = some (.inl (.int, m, r))) (hm : m < 2 ^ 31) (hx : sm_Ok x mX3_fill n (sm_KV T F)) (h : F (sm_fill I p m (fun _ => v)) L) :
    ∀ d i, i + d = m → sm_V x 0 0 T (sm_fill I p i (fun _ => v)) L 2 [some (.ref k), some (.int v), some (.int (nI i))] []
  | 0, i, e => u_X3_fill_2 hk hp hx ⟨fun _ => by rw [show i = m by omega]; exact h, fun q => absurd (nI_le (by omega) (by omega)) q⟩
  | d + 1, i, e => u_X3_fill_2 hk hp hx ⟨fun q => absurd q (nI_ge (by omega) hm), fun _ => ⟨vp_in_nI (by omega) hm, by
      rw [nI_clamp (by omega), nI_1]
      have := s_fill_l hk hp hm hx h d (i + 1) (by omega)
      rw [← sm_fill_s] at this
      exact this⟩⟩
theorem s_fill {F : sm_MI → sm_ML → Prop} {v : Int32} (hk : T[k]? = some (.inr (3, [.ref p]))) (hp : T[p]? = some (.inl (.int, m, r))) (hm : m < 2 ^ 31) (h : F (sm_fill I p m (fun _ => v)) L) : sm_CV n mX3_fill T I L [.ref k, .int v] F :=
  c_X3_fill hk hp (fun x hx => by
    have := s_fill_l hk hp hm hx h m 0 (by omega)
    rw [sm_fill_0] at this
    exact this)
theorem s_copy_l {F : sm_MI → sm_ML → Prop} {k' p' : Nat} {r' : List (Option Nat)} {x : sm_Cx} (hk : T[k]? = some (.inr (3, [.ref p]))) (hp : T[p]? = some (.inl (.int, m, r))) (hk' : T[k']? = some (.inr (3, [.ref p']))) {m' : Nat} (hp' : T[p']? = some (.inl (.int, m', r'))) (hne : p' ≠ p) (hmm : m ≤ m') (hm : m' < 2 ^ 31) (hx : sm_Ok x mX3_copy (n + 1) (sm_KV T F)) (h : F (sm_fill I p m (I p')) L) :
    ∀ d i, i + d = m → sm_V x 0 0 T (sm_fill I p i (I p')) L 2 [some (.ref k), some (.ref k'), some (.int (nI i))] []
  | 0, i, e => u_X3_copy_2 hk hp hk' hp' hx ⟨fun _ => by rw [show i = m by omega]; exact h, fun q => absurd (nI_le (by omega) (by omega)) q⟩
  | d + 1, i, e => u_X3_copy_2 hk hp hk' hp' hx ⟨fun q => absurd q (nI_ge (by omega) (by omega)), fun _ => s_at hk' hp' (by omega) hm ⟨vp_in_nI (by omega) (by omega), by
      rw [nI_clamp (by omega), nI_1]
      have := s_copy_l hk hp hk' hp' hne hmm hm hx h d (i + 1) (by omega)
      rw [← sm_fill_s] at this
      have e2 : sm_fill I p i (I p') p' i = I p' i := by simp [sm_fill, hne]
      rw [e2]
      exact this⟩⟩
theorem s_copy {F : sm_MI → sm_ML → Prop} {k' p' m' : Nat} {r' : List (Option Nat)} (hk : T[k]? = some (.inr (3, [.ref p]))) (hp : T[p]? = some (.inl (.int, m, r))) (hk' : T[k']? = some (.inr (3, [.ref p']))) (hp' : T[p']? = some (.inl (.int, m', r'))) (hne : p' ≠ p) (hmm : m ≤ m') (hm : m' < 2 ^ 31) (h : F (sm_fill I p m (I p')) L) : sm_CV (n + 1) mX3_copy T I L [.ref k, .ref k'] F :=
  c_X3_copy hk hp hk' hp' (fun x hx => by
    have := s_copy_l hk hp hk' hp' hne hmm hm hx h m 0 (by omega)
    rw [sm_fill_0] at this
    exact this)
end
