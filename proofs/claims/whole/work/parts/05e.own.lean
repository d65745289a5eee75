/-! ===== own strides ===== -/
def slt (ν w q : Nat) : Nat := (ν % 64 * 5 + w) * 9 + q
theorem slt_lt {ν w q : Nat} (hw : w < 5) (hq : q < 9) : slt ν w q < 2880 := by unfold slt; omega
theorem slt_inj {ν ν' w w' q q' : Nat} (hw : w < 5) (hq : q < 9) (hw' : w' < 5) (hq' : q' < 9) (h : slt ν w q = slt ν' w' q') : w = w' ∧ q = q' := by unfold slt at h; omega
def ltE (E : Nat → Nat → Int32) (ν w q : Nat) : Nat → Int32 := fun j => match j with
  | 0 => nI ν
  | 1 => E 1 w
  | 2 => E 2 w
  | 3 => nI q
  | 4 => if qFu (E 0 3) (E 0 4) (nI ν) = true then 1 else 0
  | 5 => nI w
  | _ => 0
/-- how many things lie in a house -/
def thC (u : Nat → Int32) (h : Int32) (N : Nat) : Nat := cntOf (fun t => decide (u t = h)) N
theorem thC_BC {u : Nat → Int32} {h : Int32} {N : Nat} (h8 : N ≤ 8) : qBC (nI (thS u h N)) = nI (thC u h N) := qBC_bits _ N h8
theorem thC_le (u : Nat → Int32) (h : Int32) (N : Nat) : thC u h N ≤ N := cntOf_le _ N
def ownR (E : Nat → Nat → Int32) (W : Nat → (Nat → Int32) → Int32) (N ν w : Nat) (u : Nat → Int32) : Int32 :=
  if E 6 w = -1 then (if E 5 w = -1 then E 2 w else W (E 5 w).toNatClampNeg (ltE E ν w (thC u (E 1 w) N))) else E 6 w
def ownM (E : Nat → Nat → Int32) (ν w : Nat) (o : Int32) : Int32 := if E 3 w = 1 then (if qFu (E 0 3) (E 0 4) (nI ν) = true then -o else o) else o
def ownE (E : Nat → Nat → Int32) (W : Nat → (Nat → Int32) → Int32) (N ν w : Nat) (u : Nat → Int32) : Int32 := ownM E ν w (ownR E W N ν w u)
/-- the class's world shows E -/
def cE (E : Nat → Nat → Int32) (H S N : Nat) (I : sm_MI) : Prop :=
  (I 24 0 = nI H ∧ I 24 1 = nI S ∧ I 24 2 = nI N ∧ I 24 4 = E 0 3 ∧ I 24 5 = E 0 4) ∧
  (∀ w, w < S → I 26 w = E 1 w ∧ I 28 w = E 2 w ∧ I 30 w = E 3 w ∧ I 32 w = E 4 w ∧ I 34 w = E 5 w ∧ I 55 w = E 6 w) ∧
  (I 53 2 = E 0 0 ∧ I 53 10 = E 0 1 ∧ I 53 9 = E 0 2 ∧ I 53 11 = E 0 5 ∧ I 53 12 = E 0 6)
def vE (E : Nat → Nat → Int32) (H S N R : Nat) : Prop :=
  0 < H ∧ H ≤ 8 ∧ S ≤ 5 ∧ N ≤ 8 ∧ R ≤ 5 ∧ (∀ w, w < S → (∃ k, k < H ∧ E 1 w = nI k) ∧ (E 5 w = -1 ∨ ∃ i, i < R ∧ E 5 w = nI i))
theorem cE_fr {E : Nat → Nat → Int32} {H S N : Nat} {I I' : sm_MI} {P : Nat → Nat → Bool} (h : cE E H S N I) (hf : Fr P I I') (hp : ∀ k j, PN k j = false → P k j = false) : cE E H S N I' := by
  have g : ∀ k j, PN k j = false → I' k j = I k j := fun k j q => hf k j (hp k j q)
  obtain ⟨⟨a1, a2, a3, a4, a5⟩, b, ⟨c1, c2, c3, c4, c5⟩⟩ := h
  refine ⟨⟨(g 24 0 rfl).trans a1, (g 24 1 rfl).trans a2, (g 24 2 rfl).trans a3, (g 24 4 rfl).trans a4, (g 24 5 rfl).trans a5⟩, fun w hw => ?_, ⟨(g 53 2 rfl).trans c1, (g 53 10 rfl).trans c2, (g 53 9 rfl).trans c3, (g 53 11 rfl).trans c4, (g 53 12 rfl).trans c5⟩⟩
  obtain ⟨b1, b2, b3, b4, b5, b6⟩ := b w hw
  exact ⟨(g 26 w rfl).trans b1, (g 28 w rfl).trans b2, (g 30 w rfl).trans b3, (g 32 w rfl).trans b4, (g 34 w rfl).trans b5, (g 55 w rfl).trans b6⟩
def P61 (k _ : Nat) : Bool := k == 61
def P63 (k _ : Nat) : Bool := k == 63
def PO (k _ : Nat) : Bool := k == 61 || k == 63 || k == 65 || k == 67
/-- kept worths are right -/
def Cok (E : Nat → Nat → Int32) (W : Nat → (Nat → Int32) → Int32) (S : Nat) (I : sm_MI) : Prop :=
  ∀ ν w q, ν < 2 ^ 31 → w < S → q < 9 → E 5 w ≠ -1 → I 67 (slt ν w q) = nI ν → I 65 (slt ν w q) = W (E 5 w).toNatClampNeg (ltE E ν w q)
/-- the rules as objects; their worths -/
def sRL (T : List sm_Sh) (W : Nat → (Nat → Int32) → Int32) (R : Nat) (I0 : sm_MI) : Prop :=
  (∀ i f g, (∀ j, j < 6 → f j = g j) → W i f = W i g) ∧
  ∃ (e0 m0 : Nat) (r0 : List (Option Nat)), T[23]? = some (.inr (0, [.int 0, .ref e0, .int 0])) ∧ ∀ i, i < R → T[e0]? = some (.inl (.object "java/lang/Object", m0, r0)) ∧ i < m0 ∧ m0 < 2 ^ 31 ∧
    ∃ k a b : Nat, r0.getD i none = some k ∧ T[k]? = some (.inr (4, [.ref a, .ref b])) ∧ sRK T (W i) a b I0 ∧
      ∀ (n : Nat) (I : sm_MI) (L : sm_ML) (F : Int32 → sm_MI → sm_ML → Prop), (∀ k, 110 ≤ k → I k = I0 k) → (∀ I' : sm_MI, Fr P63 I I' → F (W i (I 61)) I' L) → sm_CI (n + 3) mX4_worth T I L [.ref k, .ref 60, .ref 62] F
section
variable {n : Nat} {T : List sm_Sh} {I : sm_MI} {L : sm_ML} {E : Nat → Nat → Int32} {H S N R ν w : Nat} {W : Nat → (Nat → Int32) → Int32} {I0 : sm_MI}
theorem s_ruleOf_no {F : Option Nat → sm_MI → sm_ML → Prop} (hB : sm_Bs T) (hR : sRL T W R I0) (hw : w < 5) (h34 : I 34 w = -1) (h : F none I L) : sm_CR (n + 1) mX0_ruleOf T I L [.ref 53, .int (nI w)] F := by
  obtain ⟨_, e0, m0, r0, h23, _⟩ := hR
  refine c_X0_ruleOf hB h23 (s_at (t_33 hB) (t_34 hB) hw (by decide) ⟨fun _ => h, fun q => absurd (by rw [h34]; decide) q⟩)
theorem s_ruleOf_yes {F : Option Nat → sm_MI → sm_ML → Prop} (hB : sm_Bs T) (hR : sRL T W R I0) (hw : w < 5) {i : Nat} (hi : i < R) (h5 : R ≤ 5) (h23R : I 23 2 = nI R) (h34 : I 34 w = nI i)
    (h : ∀ k a b : Nat, T[k]? = some (.inr (4, [.ref a, .ref b])) → (∀ (n : Nat) (I : sm_MI) (L : sm_ML) (F : Int32 → sm_MI → sm_ML → Prop), (∀ k, 110 ≤ k → I k = I0 k) → (∀ I' : sm_MI, Fr P63 I I' → F (W i (I 61)) I' L) → sm_CI (n + 3) mX4_worth T I L [.ref k, .ref 60, .ref 62] F) → F (some k) I L) : sm_CR (n + 3) mX0_ruleOf T I L [.ref 53, .int (nI w)] F := by
  obtain ⟨_, e0, m0, r0, h23, hr⟩ := hR
  obtain ⟨he0, him, hm0, k, a, b, hk, hT, _, hW⟩ := hr i hi
  have hF := h k a b hT hW
  refine c_X0_ruleOf hB h23 (s_at (t_33 hB) (t_34 hB) hw (by decide) ⟨fun q => ?_, fun _ => ?_⟩)
  · rw [h34] at q; exact absurd q (nI_pos (by omega))
  · rw [h34]
    refine c_Jx4a65c_size_8abf5 h23 he0 ⟨fun q => ?_, fun _ => c_Jx4a65c_get_915e3 h23 he0 (c_J15_checkIndex_7cf53 (c_J3_checkIndex_8e157 ⟨fun q => absurd q (nI_pos (by omega)), fun _ => ⟨fun _ => c_Jx4a65c_elementData_915e3 h23 he0 ⟨vp_in_nI him hm0, fun q => ?_, fun k1 q => ?_⟩, fun q => ?_⟩⟩))⟩
    · rw [h23R] at q; exact absurd q (nI_ge hi (by omega))
    · rw [nI_clamp (by omega), hk] at q; exact absurd q (by simp)
    · rw [nI_clamp (by omega), hk] at q
      have : k = k1 := Option.some.inj q
      subst this
      refine ⟨fun z => absurd z (by simp), fun k5 z => ?_⟩
      have : k = k5 := Option.some.inj z
      subst this
      refine ⟨fun z => absurd z (by simp), fun k7 z => ?_⟩
      have : k = k7 := Option.some.inj z
      subst this
      exact ⟨_, hT, hF⟩
    · exact absurd (by rw [h23R]; exact nI_lt hi (by omega)) q
theorem s_tellLetters {F : sm_MI → sm_ML → Prop} {q : Nat} (hB : sm_Bs T) (hE : cE E H S N I) (hwS : w < S) (hw : w < 5) (hn : I 53 1 = nI ν) (h : ∀ I' : sm_MI, Fr P61 I I' → (∀ j, j < 6 → I' 61 j = ltE E ν w q j) → F I' L) : sm_CV (n + 1) mX0_tellLetters T I L [.ref 53, .int (nI w), .int (nI q)] F := by
  obtain ⟨⟨a1, a2, a3, a4, a5⟩, b, c⟩ := hE
  obtain ⟨b1, b2, b3, b4, b5, b6⟩ := b w hwS
  have set : ∀ (I : sm_MI) (i : Nat) (v : Int32) (F : sm_MI → sm_ML → Prop), i < 6 → F (sm_uI I 61 i v) L → sm_CV n mX3_set T I L [.ref 60, .int (nI i), .int v] F := fun I i v F hi hF => s_set (t_60 hB) (t_61 hB) hi (by decide) hF
  refine c_X0_tellLetters hB (set _ 0 _ _ (by decide) (s_at (t_25 hB) (t_26 hB) hw (by decide) (set _ 1 _ _ (by decide) (s_at (t_27 hB) (t_28 hB) hw (by decide) (set _ 2 _ _ (by decide) (set _ 3 _ _ (by decide) (s_isFull hB ⟨fun q4 => set _ 4 _ _ (by decide) (set _ 5 _ _ (by decide) ?_), fun q4 => set _ 4 _ _ (by decide) (set _ 5 _ _ (by decide) ?_)⟩)))))))
  · refine h _ ((((((Fr.rf.u rfl).u rfl).u rfl).u rfl).u rfl).u rfl) (fun j hj => ?_)
    simp only [sm_uI_ne (show (24 : Nat) ≠ 61 by decide), sm_uI_ne (show (53 : Nat) ≠ 61 by decide), hn, a4, a5] at q4
    simp only [sm_uI_at, sm_uI_ne (show (26 : Nat) ≠ 61 by decide), sm_uI_ne (show (28 : Nat) ≠ 61 by decide), hn, b1, b2]
    match j, hj with
    | 0, _ => simp [upd, ltE]
    | 1, _ => simp [upd, ltE]
    | 2, _ => simp [upd, ltE]
    | 3, _ => simp [upd, ltE]
    | 4, _ => simp [upd, ltE, q4]
    | 5, _ => simp [upd, ltE]
    | j + 6, hj => exact absurd hj (by omega)
  · refine h _ ((((((Fr.rf.u rfl).u rfl).u rfl).u rfl).u rfl).u rfl) (fun j hj => ?_)
    simp only [sm_uI_ne (show (24 : Nat) ≠ 61 by decide), sm_uI_ne (show (53 : Nat) ≠ 61 by decide), hn, a4, a5] at q4
    simp only [sm_uI_at, sm_uI_ne (show (26 : Nat) ≠ 61 by decide), sm_uI_ne (show (28 : Nat) ≠ 61 by decide), hn, b1, b2]
    match j, hj with
    | 0, _ => simp [upd, ltE]
    | 1, _ => simp [upd, ltE]
    | 2, _ => simp [upd, ltE]
    | 3, _ => simp [upd, ltE]
    | 4, _ => simp [upd, ltE, q4]
    | 5, _ => simp [upd, ltE]
    | j + 6, hj => exact absurd hj (by omega)
theorem s_own162 {F : Int32 → sm_MI → sm_ML → Prop} {x : sm_Cx} {o : Int32} {u2 u4 u5 : Option Value} (hB : sm_Bs T) (hx : sm_Ok x mX0_ownStride (n + 1) (sm_KI T F)) (hE : cE E H S N I) (hwS : w < S) (hw : w < 5) (hn : I 53 1 = nI ν) (h : F (ownM E ν w o) I L) : sm_V x 0 0 T I L 162 [some (.ref 53), some (.int (nI w)), u2, some (.int o), u4, u5] [] := by
  obtain ⟨⟨a1, a2, a3, a4, a5⟩, b, c⟩ := hE
  obtain ⟨b1, b2, b3, b4, b5, b6⟩ := b w hwS
  unfold ownM at h
  refine u_X0_ownStride_162 hB hx (s_at (t_29 hB) (t_30 hB) hw (by decide) ⟨fun q => ?_, fun q => s_isFull hB ⟨fun z => ?_, fun z => ?_⟩⟩)
  · rw [b3] at q; rw [if_neg q] at h; exact h
  · rw [b3] at q; rw [a4, a5, hn] at z; rw [if_pos q, if_neg (by rw [z]; decide)] at h; exact h
  · rw [b3] at q; rw [a4, a5, hn] at z; rw [if_pos q, if_pos z] at h; exact h
end
