/-! ===== the model reads rules ===== -/
def mKd (q : Nat × Nat) : Int32 := nI q.1
/-- the model's reader of text t at place a, its fault, its depth, c pieces noted -/
def mS (I : sm_MI) (t a : Nat) (wr dp : Int32) (c : Nat) (f g : Nat → Int32) : sm_MI := fun k j => if k = 76 then (if j = 3 then nI a else if j = 4 then wr else if j = 5 then dp else I 76 j) else if k = 80 then (if j = t then nI c else I 80 j) else if k = 78 then (if 340 * t ≤ j ∧ j < 340 * t + 340 then f (j - 340 * t) else I 78 j) else if k = 79 then (if 340 * t ≤ j ∧ j < 340 * t + 340 then g (j - 340 * t) else I 79 j) else I k j
section
variable {I : sm_MI} {t a a' c c' : Nat} {wr wr' dp dp' : Int32} {f g : Nat → Int32}
theorem mS_a : sm_uI (mS I t a wr dp c f g) 76 3 (nI a') = mS I t a' wr dp c f g := by
  funext k j
  unfold sm_uI mS
  by_cases h : k = 76
  · by_cases e : j = 3
    · simp [h, e]
    · simp [h, e]
  · simp [h]
theorem mS_w : sm_uI (mS I t a wr dp c f g) 76 4 wr' = mS I t a wr' dp c f g := by
  funext k j
  unfold sm_uI mS
  by_cases h : k = 76
  · by_cases e : j = 4
    · subst e; simp [h]
    · simp [h, e]
  · simp [h]
theorem mS_d : sm_uI (mS I t a wr dp c f g) 76 5 dp' = mS I t a wr dp' c f g := by
  funext k j
  unfold sm_uI mS
  by_cases h : k = 76
  · by_cases e : j = 5
    · subst e; simp [h]
    · simp [h, e]
  · simp [h]
theorem mS_c : sm_uI (mS I t a wr dp c f g) 80 t (nI c') = mS I t a wr dp c' f g := by
  funext k j
  unfold sm_uI mS
  by_cases h : k = 80
  · by_cases e : j = t
    · simp [h, e]
    · simp [h, e]
  · simp [h]
theorem mS_f {i : Nat} {v : Int32} (hi : i < 340) : sm_uI (mS I t a wr dp c f g) 78 (340 * t + i) v = mS I t a wr dp c (upd f i v) g := by
  funext k j
  unfold sm_uI mS upd
  by_cases h : k = 78
  · subst h
    by_cases e : j = 340 * t + i
    · subst e
      have h1 : 340 * t ≤ 340 * t + i ∧ 340 * t + i < 340 * t + 340 := by omega
      simp [h1]
    · by_cases h1 : 340 * t ≤ j ∧ j < 340 * t + 340
      · have : ¬ j - 340 * t = i := by omega
        simp [e, h1, this]
      · simp only [if_neg e, if_neg h1, if_pos rfl]
        simp
  · simp [h]
theorem mS_g {i : Nat} {v : Int32} (hi : i < 340) : sm_uI (mS I t a wr dp c f g) 79 (340 * t + i) v = mS I t a wr dp c f (upd g i v) := by
  funext k j
  unfold sm_uI mS upd
  by_cases h : k = 79
  · subst h
    by_cases e : j = 340 * t + i
    · subst e
      have h1 : 340 * t ≤ 340 * t + i ∧ 340 * t + i < 340 * t + 340 := by omega
      simp [h1]
    · by_cases h1 : 340 * t ≤ j ∧ j < 340 * t + 340
      · have : ¬ j - 340 * t = i := by omega
        simp [e, h1, this]
      · simp only [if_neg e, if_neg h1, if_pos rfl]
        simp
  · simp [h]
/-- what is written beside the reader -/
theorem mS_o {k i : Nat} {v : Int32} (hk : k ≠ 76 ∧ k ≠ 78 ∧ k ≠ 79 ∧ k ≠ 80) : sm_uI (mS I t a wr dp c f g) k i v = mS (sm_uI I k i v) t a wr dp c f g := by
  funext x j
  unfold sm_uI mS
  obtain ⟨h1, h2, h3, h4⟩ := hk
  by_cases e : x = k
  · subst e
    simp [h1, h2, h3, h4]
  · have g76 : (76 : Nat) ≠ k := fun z => h1 z.symm
    have g78 : (78 : Nat) ≠ k := fun z => h2 z.symm
    have g79 : (79 : Nat) ≠ k := fun z => h3 z.symm
    have g80 : (80 : Nat) ≠ k := fun z => h4 z.symm
    simp [e, g76, g78, g79, g80]
theorem mS_3 : (mS I t a wr dp c f g) 76 3 = nI a := rfl
theorem mS_4 : (mS I t a wr dp c f g) 76 4 = wr := rfl
theorem mS_5 : (mS I t a wr dp c f g) 76 5 = dp := rfl
theorem mS_80 : (mS I t a wr dp c f g) 80 t = nI c := by unfold mS; simp
end
/-- the model's tape, and the text that it reads into -/
def MTp (h : Nat → Int32) (len t : Nat) (I : sm_MI) : Prop := I 76 2 = nI len ∧ (∀ j, j < len → I 77 j = h j) ∧ I 76 14 = nI t ∧ t < 6
def mOK (F : sm_MI → sm_ML → Prop) (I : sm_MI) (L : sm_ML) (t : Nat) (dp : Int32) (B s c : Nat) (f g : Nat → Int32) : PRt → Prop
  | .inl e => ∀ a' dp' c' f' g', a' ≤ B → c' + s ≤ a' → F (mS I t a' (nI e) dp' c' f' g') L
  | .inr q => F (mS I t q.1 (-1) dp (c + q.2.1.length) (wrG mKd f c q.2.1) (wrG mNv g c q.2.1)) L
section
variable {n : Nat} {T : List sm_Sh} {I I' : sm_MI} {L L' : sm_ML} {h : Nat → Int32} {len t a c B s : Nat} {wr dp : Int32} {f g : Nat → Int32}
theorem m_here {F : Int32 → sm_MI → sm_ML → Prop} (hB : sm_Bs T) (H : tpH h len) (hM : MTp h len t I) (ha : a < 2 ^ 31) (hF : F (h a) (mS I t a wr dp c f g) L) : sm_CI n mX12_here T (mS I t a wr dp c f g) L [.ref 76] F := by
  have hl := H.1
  have e2 : (mS I t a wr dp c f g) 76 2 = nI len := hM.1
  refine c_X12_here hB ⟨fun q => ?_, fun q => ?_⟩
  · rw [e2, mS_3] at q
    have := (nI_leI (by omega) (by omega)).mp q
    rw [H.2.1 a (by omega)] at hF; exact hF
  · rw [e2, mS_3] at q
    have hlt : a < len := by
      rcases Nat.lt_or_ge a len with z | z
      · exact z
      · exact absurd (nI_le z (by omega)) q
    rw [mS_3, nI_clamp (by omega)]
    refine ⟨vp_in_nI (by omega) (by decide), ?_⟩
    rw [show (mS I t a wr dp c f g) 77 a = h a from hM.2.1 a hlt]
    exact hF
theorem m_look {F : Int32 → sm_MI → sm_ML → Prop} (hB : sm_Bs T) (H : tpH h len) (hM : MTp h len t I) (ha : a < 2 ^ 30) (hF : F (h (sk h len a)) (mS I t (sk h len a) wr dp c f g) L) : sm_CI (n + 1) mX12_look T (mS I t a wr dp c f g) L [.ref 76] F := by
  have hl := H.1
  refine c_X12_look hB (fun x hx => ?_)
  have key : ∀ d a, a < 2 ^ 30 → len ≤ a + d → F (h (sk h len a)) (mS I t (sk h len a) wr dp c f g) L → sm_V x 0 0 T (mS I t a wr dp c f g) L 0 [some (.ref 76)] [] := by
    intro d
    induction d with
    | zero =>
      intro a ha hd hF
      have hm : h a = -1 := H.2.1 a (by omega)
      rw [sk_stop (by rw [hm]; decide)] at hF
      exact u_X12_look_0 hB hx (m_here hB H hM (by omega) ⟨fun _ => m_here hB H hM (by omega) hF, fun q => absurd q (by rw [hm]; decide)⟩)
    | succ d ih =>
      intro a ha hd hF
      refine u_X12_look_0 hB hx (m_here hB H hM (by omega) ⟨fun q => ?_, fun q => ?_⟩)
      · rw [sk_stop q] at hF
        exact m_here hB H hM (by omega) hF
      · have hlt := H.lt (p := a) (by rw [q]; decide)
        rw [mS_3, nI_1, mS_a]
        exact ih (a + 1) (by omega) (by omega) (by rw [← sk_step H q]; exact hF)
  exact key len a ha (by omega) hF
theorem m_bad {F : sm_MI → sm_ML → Prop} (hB : sm_Bs T) (hF : F (mS I t a (nI a) dp c f g) L) : sm_CV n mX12_bad T (mS I t a (-1) dp c f g) L [.ref 76] F := by
  refine c_X12_bad hB ⟨fun q => absurd (show (mS I t a (-1) dp c f g) 76 4 = -1 from rfl) q, fun _ => ?_⟩
  rw [mS_3, mS_w]
  exact hF
theorem m_isDigit {F : Bool → sm_MI → sm_ML → Prop} {x : Int32} (hB : sm_Bs T) (hF : F (isD x) I L) : sm_CZ n mX12_isDigit T I L [.int x] F :=
  c_X12_isDigit hB ⟨fun q => by unfold isD at hF; rw [if_pos q] at hF; exact hF, fun q => ⟨fun r => by unfold isD at hF; rw [if_neg q, if_pos r] at hF; exact hF, fun r => by unfold isD at hF; rw [if_neg q, if_neg r] at hF; exact hF⟩⟩
theorem m_isSign {F : Bool → sm_MI → sm_ML → Prop} {x : Int32} (hB : sm_Bs T) (hF : F (isR x) I L) : sm_CZ n mX12_isSign T I L [.int x] F :=
  c_X12_isSign hB ⟨fun q => by unfold isR at hF; rw [if_pos q] at hF; exact hF, fun q => ⟨fun r => by unfold isR at hF; rw [if_neg q, if_pos r] at hF; exact hF, fun r => ⟨fun y => by unfold isR at hF; rw [if_neg q, if_neg r, if_neg y] at hF; exact hF, fun y => by unfold isR at hF; rw [if_neg q, if_neg r, if_pos y] at hF; exact hF⟩⟩⟩
theorem m_letterOf {F : Int32 → sm_MI → sm_ML → Prop} {x : Int32} (hB : sm_Bs T) (hF : F (oN (ltO x)) I L) : sm_CI n mX12_letterOf T I L [.int x] F := by
  unfold ltO at hF
  refine c_X12_letterOf hB ⟨fun q1 => ⟨fun q2 => ⟨fun q3 => ⟨fun q4 => ⟨fun q5 => ⟨fun q6 => ?_, fun q6 => ?_⟩, fun q5 => ?_⟩, fun q4 => ?_⟩, fun q3 => ?_⟩, fun q2 => ?_⟩, fun q1 => ?_⟩
  · rw [if_neg q1, if_neg q2, if_neg q3, if_neg q4, if_neg q5, if_neg q6] at hF; exact hF
  · rw [if_neg q1, if_neg q2, if_neg q3, if_neg q4, if_neg q5, if_pos q6] at hF; exact hF
  · rw [if_neg q1, if_neg q2, if_neg q3, if_neg q4, if_pos q5] at hF; exact hF
  · rw [if_neg q1, if_neg q2, if_neg q3, if_pos q4] at hF; exact hF
  · rw [if_neg q1, if_neg q2, if_pos q3] at hF; exact hF
  · rw [if_neg q1, if_pos q2] at hF; exact hF
  · rw [if_pos q1] at hF; exact hF
theorem m_note {F : sm_MI → sm_ML → Prop} {x y : Int32} (hB : sm_Bs T) (hM : MTp h len t I) (hc : c < 340) (hF : F (mS I t a wr dp (c + 1) (upd f c x) (upd g c y)) L) : sm_CV n mX12_note T (mS I t a wr dp c f g) L [.ref 76, .int x, .int y] F := by
  have ht := hM.2.2.2
  have e14 : ∀ (a c : Nat) (wr dp : Int32) (f g : Nat → Int32), (mS I t a wr dp c f g) 76 14 = nI t := fun _ _ _ _ _ _ => hM.2.2.1
  have ei : (340 : Int32) * nI t + nI c = nI (340 * t + c) := by
    have e1 : (340 : Int32) * nI t = nI (340 * t) := pk_mul 340 t
    rw [e1, nI_add]
  refine c_X12_note hB ?_
  rw [e14, nI_clamp (by omega), mS_80, ei, nI_clamp (by omega)]
  refine ⟨vp_in_nI ht (by decide), vp_in_nI (by omega) (by decide), fun I1 h1 => ?_⟩
  rw [mS_f hc] at h1
  subst h1
  rw [e14, nI_clamp (by omega), mS_80, ei, nI_clamp (by omega)]
  refine ⟨vp_in_nI ht (by decide), vp_in_nI (by omega) (by decide), fun I2 h2 => ?_⟩
  rw [mS_g hc] at h2
  subst h2
  rw [e14, nI_clamp (by omega), mS_80, nI_1, mS_c]
  exact ⟨vp_in_nI ht (by decide), vp_in_nI ht (by decide), hF⟩
theorem m_opens {F : sm_MI → sm_ML → Prop} {lv : Nat} (hB : sm_Bs T) (hlv : lv ≤ 6) (hy : ∀ k, lv = k + 1 → F (mS I t (a + 1) (-1) (nI (6 - k)) c f g) L) (hn : lv = 0 → F (mS I t (a + 1) (nI a) 7 c f g) L) : sm_CV (n + 1) mX12_opens T (mS I t a (-1) (nI (6 - lv)) c f g) L [.ref 76] F := by
  refine c_X12_opens hB ⟨fun q => ?_, fun q => m_bad hB ?_⟩
  · rw [mS_5] at q ⊢
    cases lv with
    | zero => exact absurd rfl q
    | succ k =>
      intro I1 h1
      rw [nI_1, show 6 - (k + 1) + 1 = 6 - k by omega, mS_d] at h1
      subst h1
      rw [mS_3, nI_1, mS_a]
      exact hy k rfl
  · rw [mS_5] at q
    have hlv0 : lv = 0 := by
      have := (nI_eq (a := 6 - lv) (b := 6) (by omega) (by decide)).mp q
      omega
    subst hlv0
    intro I3 h3
    rw [mS_5, show nI (6 - 0) + 1 = 7 from rfl, mS_d] at h3
    subst h3
    rw [mS_3, nI_1, mS_a]
    exact hn rfl
theorem m_closes_no {F : sm_MI → sm_ML → Prop} {e x : Int32} (hB : sm_Bs T) (he : e ≠ -1) (hF : F (mS I t (a + 1) e (dp - 1) c f g) L) : sm_CV (n + 1) mX12_closes T (mS I t a e dp c f g) L [.ref 76, .int x] F := by
  refine c_X12_closes hB ⟨fun _ I1 h1 => ?_, fun q => absurd q he⟩
  rw [mS_3, nI_1, mS_a] at h1
  subst h1
  rw [mS_5, mS_d]
  exact hF
theorem m_closes {F : sm_MI → sm_ML → Prop} {x : Int32} (hB : sm_Bs T) (H : tpH h len) (hM : MTp h len t I) (ha : a < 2 ^ 30) (hy : h (sk h len a) = x → F (mS I t (sk h len a + 1) (-1) (dp - 1) c f g) L) (hn : ¬ h (sk h len a) = x → F (mS I t (sk h len a + 1) (nI (sk h len a)) (dp - 1) c f g) L) : sm_CV (n + 2) mX12_closes T (mS I t a (-1) dp c f g) L [.ref 76, .int x] F := by
  refine c_X12_closes hB ⟨fun q => absurd rfl q, fun _ => m_look hB H hM ha ⟨fun q I4 h4 => ?_, fun q => m_bad hB (fun I6 h6 => ?_)⟩⟩
  · rw [mS_3, nI_1, mS_a] at h4
    subst h4
    rw [mS_5, mS_d]
    exact hy q
  · rw [mS_3, nI_1, mS_a] at h6
    subst h6
    rw [mS_5, mS_d]
    exact hn q
theorem m_number {F : sm_MI → sm_ML → Prop} (hB : sm_Bs T) (H : tpH h len) (hM : MTp h len t I) {p : Nat} (hp : p ≤ len) (hd : isD (h p) = true) (hc : c + s ≤ p) (hBb : len ≤ B) (hBB : B ≤ 200) (hF : mOK F I L t dp B s c f g (numP h p)) : sm_CI (n + 1) mX12_plainNumber T (mS I t p (-1) dp c f g) L [.ref 76] (fun r15 I14 L14 => sm_CV (n + 1) mX12_note T I14 L14 [.ref 76, .int 0, .int r15] (fun I16 L16 => F I16 L16)) := by
  have hl := H.1
  obtain ⟨n1, n2⟩ := nmF_lt H hd
  refine c_X12_plainNumber hB (fun x hx => ?_)
  have fin : ∀ v, (nmF h 4 p 0) = ((nmF h 4 p 0).1, v) → sm_CI n mX12_here T (mS I t (nmF h 4 p 0).1 (-1) dp c f g) L [.ref 76] (fun r2 I1 L1 => sm_CZ n mX12_isDigit T I1 L1 [.int r2] (fun r4 I3 L3 => (r4 = false → sm_CV (n + 1) mX12_note T I3 L3 [.ref 76, .int 0, .int (nI v)] (fun I16 L16 => F I16 L16)) ∧ (r4 = true → sm_CV n mX12_bad T I3 L3 [.ref 76] (fun I5 L5 => sm_CV (n + 1) mX12_note T I5 L5 [.ref 76, .int 0, .int (nI v)] (fun I16 L16 => F I16 L16))))) := by
    intro v hv
    refine m_here hB H hM (by omega) (m_isDigit hB ⟨fun q => m_note hB hM (by omega) ?_, fun q => m_bad hB (m_note hB hM (by omega) ?_)⟩)
    · unfold numP at hF
      rw [if_neg (by rw [q]; decide), hv] at hF
      exact hF
    · unfold numP at hF
      rw [if_pos q] at hF
      exact hF _ _ _ _ _ (by omega) (by omega)
  have key : ∀ d i q v, i + d = 4 → q ≤ len → nmF h d q v = nmF h 4 p 0 → sm_V x 0 0 T (mS I t q (-1) dp c f g) L 4 [some (.ref 76), some (.int (nI v)), some (.int (nI i))] [] := by
    intro d
    induction d with
    | zero =>
      intro i q v e hq en
      have : i = 4 := by omega
      subst this
      have e1 : (nmF h 4 p 0).1 = q := by rw [← en]; rfl
      have e2 : nmF h 4 p 0 = ((nmF h 4 p 0).1, v) := by rw [← en]; rfl
      refine u_X12_plainNumber_4 hB hx ⟨fun _ => ?_, fun z => absurd (nI_le (a := 4) (b := 4) (by omega) (by omega)) z⟩
      rw [← e1]
      exact fin v e2
    | succ d ih =>
      intro i q v e hq en
      refine u_X12_plainNumber_4 hB hx ⟨fun z => absurd z (nI_ge (b := 4) (by omega) (by omega)), fun _ => m_here hB H hM (by omega) (m_isDigit hB ⟨fun z => ?_, fun z => m_here hB H hM (by omega) ?_⟩)⟩
      · have e1 : nmF h (d + 1) q v = (q, v) := by rw [nmF, if_neg (by rw [z]; decide)]
        rw [e1] at en
        have e3 : (nmF h 4 p 0).1 = q := by rw [← en]
        have e4 : nmF h 4 p 0 = ((nmF h 4 p 0).1, v) := by rw [← en]
        rw [← e3]
        exact fin v e4
      · have hlt : q < len := H.lt (fun y => by rw [y] at z; exact absurd z (by decide))
        obtain ⟨b, c0, c1, ec⟩ := H.2.2 q hlt
        have z' := isD_iff.mp z
        have hc48 : 48 ≤ b := by
          rcases Nat.lt_or_ge b 48 with y | y
          · exact absurd (by rw [ec]; exact nI_lt (b := 48) y (by decide)) z'.1
          · exact y
        have ev : ((10 : Int32) * nI v + h q) - 48 = nI (10 * v + (h q).toNatClampNeg - 48) := by
          have e1 : (10 : Int32) * nI v = nI (10 * v) := pk_mul 10 v
          rw [ec, nI_clamp (by omega), e1, nI_add]
          exact pk_sub (a := 10 * v + b) (b := 48) (by omega)
        rw [ev, nI_1, mS_3, nI_1, mS_a]
        refine ih (i + 1) (q + 1) _ (by omega) (by omega) ?_
        rw [← en, nmF, if_pos z]
  exact key 4 0 p 0 (by omega) hp rfl
/-- the element's contract -/
def mEl (T : List sm_Sh) (I : sm_MI) (L : sm_ML) (len t n : Nat) (dp : Int32) (B : Nat) (md : sm_MD) (el : Nat → PRt) : Prop := ∀ (F : sm_MI → sm_ML → Prop) (p s c : Nat) (f g : Nat → Int32), p ≤ len → c + s ≤ p → mOK F I L t dp B s c f g (el p) → sm_CV n md T (mS I t p (-1) dp c f g) L [.ref 76] F
theorem joinM {k2 : Nat} {cs cs' : cdL} {v v' : vfn} {k0 : Nat} {f0 g0 : Nat → Int32} : upd (wrG mKd (wrG mKd f0 k0 cs) (k0 + cs.length) cs') (k0 + cs.length + cs'.length) (nI k2) = wrG mKd f0 k0 (joinP k2 cs v cs' v').1 ∧ upd (wrG mNv (wrG mNv g0 k0 cs) (k0 + cs.length) cs') (k0 + cs.length + cs'.length) 0 = wrG mNv g0 k0 (joinP k2 cs v cs' v').1 ∧ k0 + cs.length + cs'.length + 1 = k0 + (joinP k2 cs v cs' v').1.length := by
  refine ⟨?_, ?_, ?_⟩
  · show _ = wrG mKd f0 k0 (cs ++ cs' ++ [(k2, 0)])
    rw [wrG_app, wrG_app, List.length_append, show k0 + (cs.length + cs'.length) = k0 + cs.length + cs'.length by omega]
    rfl
  · show _ = wrG mNv g0 k0 (cs ++ cs' ++ [(k2, 0)])
    rw [wrG_app, wrG_app, List.length_append, show k0 + (cs.length + cs'.length) = k0 + cs.length + cs'.length by omega]
    rfl
  · show _ = k0 + (cs ++ cs' ++ [(k2, 0)]).length
    rw [List.length_append, List.length_append, List.length_singleton]; omega
theorem nI_fault {P : Nat → PRt} {m q0 e : Nat} {z : Bool} (hP : ∀ p, p ≤ len → PK len p m z (P p)) (H : tpH h len) (hq : P q0 = .inl e) (h0 : q0 ≤ len) : nI e ≠ -1 ∧ e ≤ len := by
  have := hP q0 h0
  rw [hq] at this
  have hl := H.1
  have he : e ≤ len := this
  exact ⟨nI_m1 (by omega), he⟩
theorem m_loopT {F : sm_MI → sm_ML → Prop} {x : sm_Cx} {el : Nat → PRt} {m c0 : Nat} {f0 g0 : Nat → Int32} (hB : sm_Bs T) (H : tpH h len) (hM : MTp h len t I) (hBb : len ≤ B) (hBB : B ≤ 200) (hx : sm_Ok x mX12_term (n + 2) (sm_KV T F)) (hel : mEl T I L len t (n + 1) dp B mX12_atom el) (hPK : ∀ p, p ≤ len → PK len p m false (el p)) :
    ∀ d r cs v, r ≤ len → len ≤ r + d → c0 + cs.length + s ≤ r → mOK F I L t dp B s c0 f0 g0 (loopP h len el kTm d r cs v) → sm_V x 0 0 T (mS I t (sk h len r) (-1) dp (c0 + cs.length) (wrG mKd f0 c0 cs) (wrG mNv g0 c0 cs)) L 21 [some (.ref 76), some (.int (h (sk h len r)))] [] := by
  have hl := H.1
  intro d
  induction d with
  | zero =>
    intro r cs v hr hd hk hF
    have hm : h r = -1 := H.2.1 r (by omega)
    have hs : sk h len r = r := sk_stop (by rw [hm]; decide)
    rw [hs, hm]
    exact u_X12_term_21 hB hx ⟨fun q => absurd q (by decide), fun _ => ⟨fun _ => hF, fun q => absurd q (by decide)⟩⟩
  | succ d ih =>
    intro r cs v hr hd hk hF
    have s1 := sk_ge (h := h) (len := len) r
    have s2 := sk_le (h := h) (len := len) hr
    have no : ∀ (e : Nat) (I5 : sm_MI), nI e ≠ -1 → F I5 L → sm_V x 0 0 T I5 L 21 [some (.ref 76), some (.int (-1))] [] := fun e I5 _ hF5 => u_X12_term_21 hB hx ⟨fun q => absurd q (by decide), fun _ => ⟨fun _ => hF5, fun q => absurd q (by decide)⟩⟩
    have step : ∀ (kk : Nat), kTm (h (sk h len r)) = some kk → sm_CV (n + 1) mX12_atom T (mS I t (sk h len r + 1) (-1) dp (c0 + cs.length) (wrG mKd f0 c0 cs) (wrG mNv g0 c0 cs)) L [.ref 76] (fun I1 L1 => sm_CV (n + 1) mX12_note T I1 L1 [.ref 76, .int (nI kk), .int 0] (fun I2 L2 => (¬ (I2 76 4) = (-1) → sm_V x 0 0 T I2 L2 21 [some (.ref 76), some (.int (-1))] []) ∧ ((I2 76 4) = (-1) → sm_CI (n + 1) mX12_look T I2 L2 [.ref 76] (fun r4 I3 L3 => sm_V x 0 0 T I3 L3 21 [some (.ref 76), some (.int r4)] [])))) := by
      intro kk hkd
      obtain ⟨d', ed, hlt, eloop⟩ := loop_go (el := el) (cs := cs) (v := v) H kTm_ok hr hd hkd
      have ed' : d' = d := by omega
      subst ed'
      rw [eloop] at hF
      have hE := hPK (sk h len r + 1) (by omega)
      refine hel _ _ (s + 1) _ _ _ (by omega) (by omega) ?_
      cases hq : el (sk h len r + 1) with
      | inl e =>
        rw [hq] at hF
        obtain ⟨he, _⟩ := nI_fault hPK H hq (by omega)
        exact fun a' dp' c' f' g' ha hc => m_note hB hM (by omega) ⟨fun _ => no e _ he (hF _ _ _ _ _ ha (by omega)), fun z => absurd z he⟩
      | inr q =>
        rw [hq] at hF hE
        obtain ⟨e1, e2, e3, _, _, _⟩ := hE
        obtain ⟨j1, j2, j3⟩ := joinM (k2 := kk) (cs := cs) (cs' := q.2.1) (v := v) (v' := q.2.2) (k0 := c0) (f0 := f0) (g0 := g0)
        refine m_note hB hM (by omega) ⟨fun z => absurd rfl z, fun _ => m_look hB H hM (by omega) ?_⟩
        rw [j1, j2, j3]
        exact ih q.1 _ _ e2 (by omega) (by omega) hF
    refine u_X12_term_21 hB hx ⟨fun q => ?_, fun q => ⟨fun q2 => ?_, fun q2 => ?_⟩⟩
    · have hkd : kTm (h (sk h len r)) = some 4 := by rw [q]; rfl
      rw [mS_3, nI_1, mS_a]
      exact sm_CV.mono (step 4 hkd) (fun I1 L1 g => ⟨fun z => absurd q z, fun _ => g⟩)
    · rw [loop_end (z := false) H kTm_ok hr hd (by unfold kTm; rw [if_neg q, if_neg q2])] at hF
      exact hF
    · have hkd : kTm (h (sk h len r)) = some 5 := by rw [q2]; rfl
      rw [mS_3, nI_1, mS_a]
      exact sm_CV.mono (step 5 hkd) (fun I1 L1 g => ⟨fun _ => g, fun z => absurd z q⟩)
theorem m_term {el : Nat → PRt} {m : Nat} (hB : sm_Bs T) (H : tpH h len) (hM : MTp h len t I) (hBb : len ≤ B) (hBB : B ≤ 200) (hel : mEl T I L len t (n + 1) dp B mX12_atom el) (hPK : ∀ p, p ≤ len → PK len p m false (el p)) : mEl T I L len t (n + 2) dp B mX12_term (fun p => goP h len el kTm (el p)) := by
  have hl := H.1
  intro F p s c f g hp hk hF
  refine c_X12_term hB (fun x hx => hel _ _ s _ _ _ hp hk ?_)
  have hE := hPK p hp
  have hF' : mOK F I L t dp B s c f g (goP h len el kTm (el p)) := hF
  cases hq : el p with
  | inl e =>
    rw [hq] at hF'
    obtain ⟨he, _⟩ := nI_fault hPK H hq hp
    exact fun a' dp' c' f' g' ha hc => ⟨fun _ => u_X12_term_21 hB hx ⟨fun q => absurd q (by decide), fun _ => ⟨fun _ => hF' _ _ _ _ _ ha hc, fun q => absurd q (by decide)⟩⟩, fun z => absurd z he⟩
  | inr q =>
    rw [hq] at hF' hE
    obtain ⟨e1, e2, e3, _, _, _⟩ := hE
    exact ⟨fun z => absurd rfl z, fun _ => m_look hB H hM (by omega) (m_loopT hB H hM hBb hBB hx hel hPK (len - q.1) q.1 q.2.1 q.2.2 e2 (by omega) (by omega) hF')⟩
theorem m_loopS {F : sm_MI → sm_ML → Prop} {x : sm_Cx} {el : Nat → PRt} {m c0 : Nat} {f0 g0 : Nat → Int32} (hB : sm_Bs T) (H : tpH h len) (hM : MTp h len t I) (hBb : len ≤ B) (hBB : B ≤ 200) (hx : sm_Ok x mX12_sum (n + 2) (sm_KV T F)) (hel : mEl T I L len t (n + 1) dp B mX12_term el) (hPK : ∀ p, p ≤ len → PK len p m false (el p)) :
    ∀ d r cs v, r ≤ len → len ≤ r + d → c0 + cs.length + s ≤ r → mOK F I L t dp B s c0 f0 g0 (loopP h len el kSg d r cs v) → sm_V x 0 0 T (mS I t (sk h len r) (-1) dp (c0 + cs.length) (wrG mKd f0 c0 cs) (wrG mNv g0 c0 cs)) L 21 [some (.ref 76), some (.int (h (sk h len r)))] [] := by
  have hl := H.1
  intro d
  induction d with
  | zero =>
    intro r cs v hr hd hk hF
    have hm : h r = -1 := H.2.1 r (by omega)
    have hs : sk h len r = r := sk_stop (by rw [hm]; decide)
    rw [hs, hm]
    exact u_X12_sum_21 hB hx ⟨fun q => absurd q (by decide), fun _ => ⟨fun _ => hF, fun q => absurd q (by decide)⟩⟩
  | succ d ih =>
    intro r cs v hr hd hk hF
    have s1 := sk_ge (h := h) (len := len) r
    have s2 := sk_le (h := h) (len := len) hr
    have no : ∀ (e : Nat) (I5 : sm_MI), nI e ≠ -1 → F I5 L → sm_V x 0 0 T I5 L 21 [some (.ref 76), some (.int (-1))] [] := fun e I5 _ hF5 => u_X12_sum_21 hB hx ⟨fun q => absurd q (by decide), fun _ => ⟨fun _ => hF5, fun q => absurd q (by decide)⟩⟩
    have step : ∀ (kk : Nat), kSg (h (sk h len r)) = some kk → sm_CV (n + 1) mX12_term T (mS I t (sk h len r + 1) (-1) dp (c0 + cs.length) (wrG mKd f0 c0 cs) (wrG mNv g0 c0 cs)) L [.ref 76] (fun I1 L1 => sm_CV (n + 1) mX12_note T I1 L1 [.ref 76, .int (nI kk), .int 0] (fun I2 L2 => (¬ (I2 76 4) = (-1) → sm_V x 0 0 T I2 L2 21 [some (.ref 76), some (.int (-1))] []) ∧ ((I2 76 4) = (-1) → sm_CI (n + 1) mX12_look T I2 L2 [.ref 76] (fun r4 I3 L3 => sm_V x 0 0 T I3 L3 21 [some (.ref 76), some (.int r4)] [])))) := by
      intro kk hkd
      obtain ⟨d', ed, hlt, eloop⟩ := loop_go (el := el) (cs := cs) (v := v) H kSg_ok hr hd hkd
      have ed' : d' = d := by omega
      subst ed'
      rw [eloop] at hF
      have hE := hPK (sk h len r + 1) (by omega)
      refine hel _ _ (s + 1) _ _ _ (by omega) (by omega) ?_
      cases hq : el (sk h len r + 1) with
      | inl e =>
        rw [hq] at hF
        obtain ⟨he, _⟩ := nI_fault hPK H hq (by omega)
        exact fun a' dp' c' f' g' ha hc => m_note hB hM (by omega) ⟨fun _ => no e _ he (hF _ _ _ _ _ ha (by omega)), fun z => absurd z he⟩
      | inr q =>
        rw [hq] at hF hE
        obtain ⟨e1, e2, e3, _, _, _⟩ := hE
        obtain ⟨j1, j2, j3⟩ := joinM (k2 := kk) (cs := cs) (cs' := q.2.1) (v := v) (v' := q.2.2) (k0 := c0) (f0 := f0) (g0 := g0)
        refine m_note hB hM (by omega) ⟨fun z => absurd rfl z, fun _ => m_look hB H hM (by omega) ?_⟩
        rw [j1, j2, j3]
        exact ih q.1 _ _ e2 (by omega) (by omega) hF
    refine u_X12_sum_21 hB hx ⟨fun q => ?_, fun q => ⟨fun q2 => ?_, fun q2 => ?_⟩⟩
    · have hkd : kSg (h (sk h len r)) = some 2 := by rw [q]; rfl
      rw [mS_3, nI_1, mS_a]
      exact sm_CV.mono (step 2 hkd) (fun I1 L1 g => ⟨fun z => absurd q z, fun _ => g⟩)
    · rw [loop_end (z := false) H kSg_ok hr hd (by unfold kSg; rw [if_neg q, if_neg q2])] at hF
      exact hF
    · have hkd : kSg (h (sk h len r)) = some 3 := by rw [q2]; rfl
      rw [mS_3, nI_1, mS_a]
      exact sm_CV.mono (step 3 hkd) (fun I1 L1 g => ⟨fun _ => g, fun z => absurd z q⟩)
theorem m_sum {el : Nat → PRt} {m : Nat} (hB : sm_Bs T) (H : tpH h len) (hM : MTp h len t I) (hBb : len ≤ B) (hBB : B ≤ 200) (hel : mEl T I L len t (n + 1) dp B mX12_term el) (hPK : ∀ p, p ≤ len → PK len p m false (el p)) : mEl T I L len t (n + 2) dp B mX12_sum (fun p => goP h len el kSg (el p)) := by
  have hl := H.1
  intro F p s c f g hp hk hF
  refine c_X12_sum hB (fun x hx => hel _ _ s _ _ _ hp hk ?_)
  have hE := hPK p hp
  have hF' : mOK F I L t dp B s c f g (goP h len el kSg (el p)) := hF
  cases hq : el p with
  | inl e =>
    rw [hq] at hF'
    obtain ⟨he, _⟩ := nI_fault hPK H hq hp
    exact fun a' dp' c' f' g' ha hc => ⟨fun _ => u_X12_sum_21 hB hx ⟨fun q => absurd q (by decide), fun _ => ⟨fun _ => hF' _ _ _ _ _ ha hc, fun q => absurd q (by decide)⟩⟩, fun z => absurd z he⟩
  | inr q =>
    rw [hq] at hF' hE
    obtain ⟨e1, e2, e3, _, _, _⟩ := hE
    exact ⟨fun z => absurd rfl z, fun _ => m_look hB H hM (by omega) (m_loopS hB H hM hBb hBB hx hel hPK (len - q.1) q.1 q.2.1 q.2.2 e2 (by omega) (by omega) hF')⟩
theorem m_atom {lv : Nat} (hB : sm_Bs T) (H : tpH h len) (hM : MTp h len t I) (hlv : lv ≤ 6) (hin : ∀ k, lv = k + 1 → mEl T I L len t (n + 3) (nI (6 - k)) (161 + k) mX12_sum (sumK h len k)) : mEl T I L len t (n + 4) (nI (6 - lv)) (161 + lv) mX12_atom (atomP h len (inK h len lv)) := by
  have hl := H.1
  intro F p s c f g hp hk hF
  have s1 := sk_ge (h := h) (len := len) p
  have s2 := sk_le (h := h) (len := len) hp
  unfold atomP at hF
  refine c_X12_atom hB (m_look hB H hM (by omega) (m_isDigit hB ⟨fun q => m_letterOf hB ⟨fun q2 => ⟨fun q3 => m_bad hB ?_, fun q3 => ?_⟩, fun q2 => ?_⟩, fun q => ?_⟩))
  · have q' : ¬ isD (h (sk h len p)) = true := by rw [q]; decide
    rw [if_neg q3, if_neg q'] at hF
    cases hlo : ltO (h (sk h len p)) with
    | none => rw [hlo] at hF; exact hF _ _ _ _ _ (by omega) (by omega)
    | some l =>
      rw [hlo] at q2
      exact absurd q2 (nI_m1 (by have := (ltO_lt hlo).1; omega))
  · rw [if_pos q3] at hF
    have hlt := H.lt (p := sk h len p) (by rw [q3]; decide)
    refine m_opens hB hlv (fun k hk' => ⟨fun z => absurd rfl z, fun _ => ?_⟩) (fun hk' => ⟨fun _ => ?_, fun z => absurd z (nI_m1 (by omega))⟩)
    · subst hk'
      have hF' : mOK F I L t (nI (6 - (k + 1))) (161 + (k + 1)) s c f g (clsP h len 93 (sumK h len k (sk h len p + 1))) := hF
      refine hin k rfl _ _ s _ _ _ (by omega) (by omega) ?_
      have hE := (PK_sum H k).2.2 (sk h len p + 1) (by omega)
      cases hq : sumK h len k (sk h len p + 1) with
      | inl e =>
        rw [hq] at hF'
        obtain ⟨he, _⟩ := nI_fault (fun p hp => (PK_sum H k).2.2 p hp) H hq (by omega)
        exact fun a' dp' c' f' g' ha hc => m_closes_no hB he (hF' _ _ _ _ _ (by omega) (by omega))
      | inr w =>
        rw [hq] at hF' hE
        obtain ⟨e1, e2, e3, _, _, _⟩ := hE
        have s3 := sk_ge (h := h) (len := len) w.1
        have s4 := sk_le (h := h) (len := len) e2
        have ed : nI (6 - k) - 1 = nI (6 - (k + 1)) := by
          have := pk_sub (a := 6 - k) (b := 1) (by omega)
          rw [show 6 - (k + 1) = 6 - k - 1 by omega]
          exact this
        refine m_closes (n := n + 1) hB H hM (by omega) (fun y => ?_) (fun y => ?_)
        · rw [clsP, if_pos y] at hF'
          rw [ed]; exact hF'
        · rw [clsP, if_neg y] at hF'
          exact hF' _ _ _ _ _ (by omega) (by omega)
    · subst hk'
      exact hF _ _ _ _ _ (by omega) (by omega)
  · have q' : ¬ isD (h (sk h len p)) = true := by rw [q]; decide
    cases hlo : ltO (h (sk h len p)) with
    | none => rw [hlo] at q2; exact absurd rfl q2
    | some l =>
      obtain ⟨l1, l2⟩ := ltO_lt hlo
      have hlt := H.lt l2
      have q3 : ¬ h (sk h len p) = 91 := fun e => by rw [e, show ltO 91 = none from rfl] at hlo; cases hlo
      rw [if_neg q3, if_neg q', hlo] at hF
      rw [mS_3, nI_1, mS_a]
      refine m_letterOf hB (m_note hB hM (by omega) ?_)
      rw [hlo]
      exact hF
  · have q3 : ¬ h (sk h len p) = 91 := fun e => by rw [e] at q; exact absurd q (by decide)
    rw [if_neg q3, if_pos q] at hF
    exact m_number (n := n + 2) (s := s) hB H hM s2 q (by omega) (by omega) (by omega) hF
/-- sums, with lv brackets left -/
theorem m_sumK (hB : sm_Bs T) (H : tpH h len) (hM : MTp h len t I) : ∀ lv, lv ≤ 6 → mEl T I L len t (n + 3 * lv + 6) (nI (6 - lv)) (161 + lv) mX12_sum (sumK h len lv)
  | 0, hlv => m_sum (n := n + 4) (m := 2 + 2 * 0) hB H hM (by have := H.1; omega) (by omega) (m_term (n := n + 3) (m := 1 + 2 * 0) hB H hM (by have := H.1; omega) (by omega) (m_atom (n := n) (lv := 0) hB H hM hlv (fun k e => by cases e)) (fun p hp => PK_atom H (PK_sum H 0).1 hp)) (fun p hp => (PK_sum H 0).2.1 p hp)
  | lv + 1, hlv => by
    have ih := m_sumK hB H hM lv (by omega)
    refine m_sum (n := n + 3 * (lv + 1) + 4) (m := 2 + 2 * (lv + 1)) hB H hM (by have := H.1; omega) (by omega) (m_term (n := n + 3 * (lv + 1) + 3) (m := 1 + 2 * (lv + 1)) hB H hM (by have := H.1; omega) (by omega) (m_atom (n := n + 3 * (lv + 1)) (lv := lv + 1) hB H hM hlv (fun k e => ?_)) (fun p hp => PK_atom H (PK_sum H (lv + 1)).1 hp)) (fun p hp => (PK_sum H (lv + 1)).2.1 p hp)
    have e2 : lv = k := by omega
    subst e2
    rw [show n + 3 * (lv + 1) + 3 = n + 3 * lv + 6 by omega]
    exact ih
end
