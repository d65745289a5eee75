/-! ===== the model's sleepers ===== -/
def mU (N : Nat) (f : Nat → Int32) : Nat → Int32 := fun t => if t < N then f t else 0
theorem mU_at {N t : Nat} (f : Nat → Int32) (h : t < N) : mU N f t = f t := if_pos h
theorem mU_upd {N t : Nat} (f : Nat → Int32) (h : t < N) (v : Int32) : mU N (upd f t v) = upd (mU N f) t v := by
  funext s
  unfold mU
  by_cases e : s = t
  · subst e; rw [if_pos h, pk_us, pk_us]
  · rw [pk_un e, pk_un e]
/-- the model's world shows E -/
def mE (E : Nat → Nat → Int32) (H S N : Nat) (I : sm_MI) : Prop :=
  (I 76 26 = nI H ∧ I 76 27 = nI S ∧ I 76 28 = nI N ∧ I 76 29 = E 0 3 ∧ I 76 30 = E 0 4) ∧
  (∀ w, w < S → I 89 (4 * w) = E 1 w ∧ I 89 (4 * w + 1) = E 2 w ∧ I 89 (4 * w + 2) = E 3 w ∧ I 89 (4 * w + 3) = E 4 w ∧ I 91 w = E 5 w ∧ I 93 w = E 6 w) ∧
  (I 76 33 = E 0 0 ∧ I 76 39 = E 0 1)
/-- the model's walk: lies, strides, letters, stack -/
def MW (k _ : Nat) : Bool := k == 92 || k == 94 || k == 85 || k == 86
def MO (k _ : Nat) : Bool := k == 85 || k == 86
def M86 (k _ : Nat) : Bool := k == 86
/-- a night of the model's -/
def MN (k j : Nat) : Bool := (k == 76 && j == 34) || k == 92 || k == 94 || k == 85 || k == 86 || k == 98
theorem MO_MW (k j : Nat) (h : MW k j = false) : MO k j = false := by
  simp only [MW, MO, Bool.or_eq_false_iff] at h ⊢
  exact ⟨h.1.2, h.2⟩
theorem MW_MN (k j : Nat) (h : MN k j = false) : MW k j = false := by
  simp only [MW, MN, Bool.or_eq_false_iff] at h ⊢
  exact ⟨⟨⟨h.1.1.1.1.2, h.1.1.1.2⟩, h.1.1.2⟩, h.1.2⟩
theorem mE_fr {E : Nat → Nat → Int32} {H S N : Nat} {I I' : sm_MI} {P : Nat → Nat → Bool} (h : mE E H S N I) (hf : Fr P I I') (hp : ∀ k j, MN k j = false → P k j = false) : mE E H S N I' := by
  have g : ∀ k j, MN k j = false → I' k j = I k j := fun k j q => hf k j (hp k j q)
  obtain ⟨⟨a1, a2, a3, a4, a5⟩, b, ⟨c1, c2⟩⟩ := h
  refine ⟨⟨(g 76 26 rfl).trans a1, (g 76 27 rfl).trans a2, (g 76 28 rfl).trans a3, (g 76 29 rfl).trans a4, (g 76 30 rfl).trans a5⟩, fun w hw => ?_, ⟨(g 76 33 rfl).trans c1, (g 76 39 rfl).trans c2⟩⟩
  obtain ⟨b1, b2, b3, b4, b5, b6⟩ := b w hw
  exact ⟨(g 89 _ rfl).trans b1, (g 89 _ rfl).trans b2, (g 89 _ rfl).trans b3, (g 89 _ rfl).trans b4, (g 91 w rfl).trans b5, (g 93 w rfl).trans b6⟩
/-- the laws' worths -/
def mRL (T : List sm_Sh) (W : Nat → (Nat → Int32) → Int32) (R : Nat) (I0 : sm_MI) : Prop :=
  (∀ i f g, (∀ j, j < 6 → f j = g j) → W i f = W i g) ∧ ∀ i, i < R → mRK (W i) i I0 ∧
    ∀ (n : Nat) (I : sm_MI) (L : sm_ML) (F : Int32 → sm_MI → sm_ML → Prop), (∀ k, 78 ≤ k → k ≤ 84 → I k = I0 k) → (∀ I' : sm_MI, Fr M86 I I' → F (W i (I 85)) I' L) → sm_CI (n + 4) mX12_worthOf T I L [.ref 76, .int (nI i)] F
section
variable {n : Nat} {T : List sm_Sh} {I : sm_MI} {L : sm_ML} {E : Nat → Nat → Int32} {H S N R ν w : Nat} {W : Nat → (Nat → Int32) → Int32} {I0 : sm_MI}
theorem s_m_of {F : Int32 → sm_MI → sm_ML → Prop} {k : Nat} (hB : sm_Bs T) (hw : w < 5) (hk : k < 4) (h : F (I 89 (4 * w + k)) I L) : sm_CI n mX12_of T I L [.ref 76, .int (nI w), .int (nI k)] F := by
  have e : (4 : Int32) * nI w + nI k = nI (4 * w + k) := by
    have e1 : (4 : Int32) * nI w = nI (4 * w) := pk_mul 4 w
    rw [e1, nI_add]
  refine c_X12_of hB ?_
  rw [e, nI_clamp (by omega)]
  exact ⟨vp_in_nI (by omega) (by omega), h⟩
theorem s_m_in {F : Bool → sm_MI → sm_ML → Prop} {a lo hi : Int32} (hB : sm_Bs T) (h : F (qW a lo hi) I L) : sm_CZ n mX12_in T I L [.int a, .int lo, .int hi] F :=
  c_X12_in hB ⟨fun p => by unfold qW at h; rw [if_pos p] at h; exact h, fun p => ⟨fun q => by unfold qW at h; rw [if_neg p, if_pos q] at h; exact h, fun q => by unfold qW at h; rw [if_neg p, if_neg q] at h; exact h⟩⟩
theorem s_m_isSleeper {F : Bool → sm_MI → sm_ML → Prop} {a : Int32} (hB : sm_Bs T) (h : F (qW a 0 (I 76 27 - 1)) I L) : sm_CZ (n + 1) mX12_isSleeper T I L [.ref 76, .int a] F := c_X12_isSleeper hB (s_m_in hB h)
theorem s_m_isThing {F : Bool → sm_MI → sm_ML → Prop} {a : Int32} (hB : sm_Bs T) (h : F (qW a 0 (I 76 28 - 1)) I L) : sm_CZ (n + 1) mX12_isThing T I L [.ref 76, .int a] F := c_X12_isThing hB (s_m_in hB h)
theorem s_m_isHouse {F : Bool → sm_MI → sm_ML → Prop} {a : Int32} (hB : sm_Bs T) (h : F (qW a 0 (I 76 26 - 1)) I L) : sm_CZ (n + 1) mX12_isHouse T I L [.ref 76, .int a] F := c_X12_isHouse hB (s_m_in hB h)
theorem s_m_areNights {F : Bool → sm_MI → sm_ML → Prop} {a : Int32} (hB : sm_Bs T) (h : F (decide (¬ I 76 26 ≤ 0) && qW a 1 60) I L) : sm_CZ (n + 1) mX12_areNights T I L [.ref 76, .int a] F :=
  c_X12_areNights hB ⟨fun q => by rw [decide_eq_false (fun g => g q)] at h; exact h, fun q => by
    rw [decide_eq_true q, Bool.true_and] at h
    exact s_m_in hB ⟨fun r => by rw [r] at h; exact h, fun r => by rw [r] at h; exact h⟩⟩
theorem s_m_isFull {F : Bool → sm_MI → sm_ML → Prop} {a : Int32} (hB : sm_Bs T) (h : F (qFu (I 76 29) (I 76 30) a) I L) : sm_CZ n mX12_isFull T I L [.ref 76, .int a] F :=
  c_X12_isFull hB ⟨fun p => by unfold qFu at h; rw [if_pos p] at h; exact h, fun p => ⟨fun q => by unfold qFu at h; rw [if_neg p, if_pos q] at h; exact h, fun q => ⟨fun z => p (by rw [z]; decide), fun z => by unfold qFu at h; rw [if_neg p, if_neg q, decide_eq_false z] at h; exact h, fun z => by unfold qFu at h; rw [if_neg p, if_neg q, decide_eq_true z] at h; exact h⟩⟩⟩
theorem s_m_has {F : Bool → sm_MI → sm_ML → Prop} {b k : Nat} (hB : sm_Bs T) (hb : b < 256) (hk : k < 8) (h : F (decide (qBo (nI b) (nI k) = 1)) I L) : sm_CZ n mX12_has T I L [.int (nI b), .int (nI k)] F := by
  refine c_X12_has hB ⟨fun q => ?_, fun q => ?_⟩
  · rw [qSh_nat b hb k hk, ← qBo_nat b hb k hk] at q
    rw [decide_eq_false q] at h
    exact h
  · rw [qSh_nat b hb k hk, ← qBo_nat b hb k hk] at q
    rw [decide_eq_true q] at h
    exact h
theorem s_m_thingsIn_l {F : Int32 → sm_MI → sm_ML → Prop} {a : Int32} {x : sm_Cx} (hB : sm_Bs T) (hN : I 76 28 = nI N) (h8 : N ≤ 8) (hx : sm_Ok x mX12_thingsIn n (sm_KI T F)) (h : F (nI (thS (mU N (I 92)) a N)) I L) :
    ∀ d t, t + d = N → sm_V x 0 0 T I L 4 [some (.ref 76), some (.int a), some (.int (nI (thS (mU N (I 92)) a t))), some (.int (nI t))] []
  | 0, t, e => u_X12_thingsIn_4 hB hx ⟨fun _ => by rw [show t = N by omega]; exact h, fun q => absurd (by rw [hN]; exact nI_le (by omega) (by omega)) q⟩
  | d + 1, t, e => u_X12_thingsIn_4 hB hx ⟨fun q => absurd q (by rw [hN]; exact nI_ge (by omega) (by omega)), fun _ => ⟨vp_in_nI (by omega) (by decide), by
      rw [nI_clamp (by omega)]
      refine ⟨fun q => ?_, fun q => ?_⟩
      · have := s_m_thingsIn_l hB hN h8 hx h d (t + 1) (by omega)
        unfold thS at this ⊢
        rw [bitsOf_no (by rw [mU_at _ (by omega)]; exact decide_eq_false q)] at this
        rw [nI_1, Int32.or_zero]
        exact this
      · have := s_m_thingsIn_l hB hN h8 hx h d (t + 1) (by omega)
        unfold thS at this ⊢
        rw [bitsOf_or (by omega) (by rw [mU_at _ (by omega)]; exact decide_eq_true q), nI_1]
        exact this⟩⟩
theorem s_m_thingsIn {F : Int32 → sm_MI → sm_ML → Prop} {a : Int32} (hB : sm_Bs T) (hN : I 76 28 = nI N) (h8 : N ≤ 8) (h : F (nI (thS (mU N (I 92)) a N)) I L) : sm_CI n mX12_thingsIn T I L [.ref 76, .int a] F :=
  c_X12_thingsIn hB (fun x hx => s_m_thingsIn_l hB hN h8 hx h N 0 (by omega))
theorem s_m_takenFrom {F : Int32 → sm_MI → sm_ML → Prop} {a : Int32} (hB : sm_Bs T) (hN : I 76 28 = nI N) (h8 : N ≤ 8) (hw : w < 5)
    (h : F (if thS (mU N (I 92)) a N = 0 then -1 else nI (thg (decide (I 89 (4 * w + 3) = 1)) (thS (mU N (I 92)) a N))) I L) : sm_CI (n + 1) mX12_takenFrom T I L [.ref 76, .int (nI w), .int a] F := by
  refine c_X12_takenFrom hB (s_m_thingsIn hB hN h8 ⟨fun q => s_m_of (k := 3) hB hw (by decide) ⟨fun r => s_NT ?_, fun r => s_NL ?_⟩, fun q => ?_⟩)
  · have h0 : thS (mU N (I 92)) a N ≠ 0 := fun g => q (by rw [g]; rfl)
    rw [if_neg h0, decide_eq_false r] at h
    rw [thg_lo h8 h0]
    exact h
  · have h0 : thS (mU N (I 92)) a N ≠ 0 := fun g => q (by rw [g]; rfl)
    rw [if_neg h0, decide_eq_true r] at h
    rw [thg_hi h8 h0]
    exact h
  · have hlt : thS (mU N (I 92)) a N < 256 := thS_lt h8
    have h0 : thS (mU N (I 92)) a N = 0 := by
      rcases Nat.eq_zero_or_pos (thS (mU N (I 92)) a N) with g | g
      · exact g
      · exact absurd q (nI_ne0 g (by omega))
    rw [if_pos h0] at h
    exact h
end
