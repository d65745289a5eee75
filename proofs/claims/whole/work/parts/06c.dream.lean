/-- what a question of the model's may change -/
def qMQ (k j : Nat) : Bool := Nat.beq k 85 || Nat.beq k 86 || Nat.beq k 92 || Nat.beq k 94 || Nat.beq k 97 || Nat.beq k 98 || Nat.beq k 99 || (Nat.ble 104 k && Nat.ble k 107) || (Nat.beq k 76 && (Nat.beq j 34 || Nat.beq j 44))
theorem q_beq {a b : Nat} (h : Nat.beq a b = true) : a = b := Nat.eq_of_beq_eq_true h
theorem q_beqI {a b : Nat} (h : a = b) : Nat.beq a b = true := by subst h; exact Nat.beq_refl a
theorem MN_MQ (k j : Nat) (h : qMQ k j = false) : MN k j = false := by
  rw [Bool.eq_false_iff] at h ⊢
  intro q
  apply h
  simp only [MN, Bool.or_eq_true, Bool.and_eq_true, beq_iff_eq] at q
  simp only [qMQ, Bool.or_eq_true, Bool.and_eq_true, Nat.beq_eq]
  omega
theorem MQ_qM (k j : Nat) (h : qM k j = false) : qMQ k j = false := by
  rw [Bool.eq_false_iff] at h ⊢
  intro q
  apply h
  simp only [qMQ, Bool.or_eq_true, Bool.and_eq_true, Nat.beq_eq, Nat.ble_eq] at q
  simp only [qM, Bool.or_eq_true, Bool.and_eq_true, Nat.beq_eq, Nat.ble_eq]
  omega
section
variable {n : Nat} {T : List sm_Sh} {I : sm_MI} {L : sm_ML} {A : Nat → Nat → Int32} {H S N R ν lb b : Nat} {W : Nat → (Nat → Int32) → Int32}
theorem vE_mk {lk bed rk gh gs : Int32} {f : Nat → Int32} (h : gV A H S N R) (h0 : 0 < H) : vE (mkE A lk bed rk gh gs f) H S N R := by
  obtain ⟨_, h1, h2, h3, h4, h5, _⟩ := h
  exact ⟨h0, h1, h2, h3, h4, h5⟩
theorem gV_H {t : Nat} (h : gV A H S N R) (ht : t < N) : 0 < H := by
  rcases h.1 with g | g
  · omega
  · omega
theorem gV_S {t : Nat} (h : gV A H S N R) (ht : t < S) : 0 < H := by
  rcases h.1 with g | g
  · omega
  · omega
theorem cD_of {I' : sm_MI} {lk bed rk gh gs : Int32} {f : Nat → Int32} {ν' : Nat} (h : RR A W H S N R ν lb b T I L) (hf : Fr PQ I I') (e1 : I' 53 1 = nI ν') (e2 : I' 53 2 = lk) (e9 : I' 53 9 = rk) (e10 : I' 53 10 = bed) (e11 : I' 53 11 = gh) (e12 : I' 53 12 = gs) (e55 : ∀ w, w < S → I' 55 w = f w) (e65 : I' 65 = I 65) (e67 : I' 67 = I 67) : cD (mkE A lk bed rk gh gs f) W H S N R I ν' I' := by
  obtain ⟨⟨a1, a2, a3, a4, a5⟩, b1, _, _, _⟩ := h.st
  have g : ∀ k j, PQ k j = false → I' k j = I k j := hf
  refine ⟨⟨⟨(g 24 0 rfl).trans a1, (g 24 1 rfl).trans a2, (g 24 2 rfl).trans a3, (g 24 4 rfl).trans a4, (g 24 5 rfl).trans a5⟩, fun w hw => ?_, e2, e10, e9, e11, e12⟩, e1, Cok_fr (Cok_mk h.c) e65 e67, (g 23 2 rfl).trans h.rest.1, fun k hk => hf.at k (fun j => PQ_big (by omega))⟩
  obtain ⟨c1, c2, c3, c4, c5⟩ := b1 w hw
  exact ⟨(g 26 w rfl).trans c1, (g 28 w rfl).trans c2, (g 30 w rfl).trans c3, (g 32 w rfl).trans c4, (g 34 w rfl).trans c5, e55 w hw⟩
/-- begin: a dream of now -/
theorem s_begin_R {F : sm_MI → sm_ML → Prop} (hR : RR A W H S N R ν lb b T I L)
    (h : ∀ (I' : sm_MI) (z : w_St) (g : Int32), Fr PQ I I' → I' 65 = I 65 → I' 67 = I 67 → I' 53 12 = g → cD (mkE A (nI lb) (-1) 0 (-1) g (fun _ => -1)) W H S N R I ν I' → cZ N I' (sm_uL L 53 3 z.2.2.1) z → z.1 = cU N (I 35 0) → (∀ j, j < 6 → z.2.2.2.1 j = 0) → (∀ j, j < 8 → z.2.2.2.2 j = 0) → F I' (sm_uL L 53 3 z.2.2.1)) : sm_CV (n + 1) mX0_begin T I L [.ref 53, .ref 35] F := by
  refine s_begin hR.hB (fun I' f e0 e1 e2 e9 e10 e11 e55 e57 e59 => ?_)
  have n1 := hR.now
  have v3 := hR.va.2.2.1
  have e65 : I' 65 = I 65 := f.at 65 (fun _ => rfl)
  have e67 : I' 67 = I 67 := f.at 67 (fun _ => rfl)
  refine h I' (cU N (I 35 0), I' 53 13, L 35 3, I' 57, I' 59) (I' 53 12) (f.mono PB_PQ) e65 e67 rfl (cD_of hR (f.mono PB_PQ) (e1.trans n1.2.2.1) (e2.trans n1.2.2.2.1) e9 e10 e11 rfl (fun w hw => e55 w (by omega)) e65 e67) ⟨?_, rfl, sm_uL_s, rfl, rfl⟩ rfl e57 e59
  rw [e0]
theorem Cok_of {lk bed rk gh gs : Int32} {f : Nat → Int32} {I0 I' : sm_MI} {ν' : Nat} (h : cD (mkE A lk bed rk gh gs f) W H S N R I0 ν' I') : Cok (mkE A 0 0 0 0 0 (fun _ => 0)) W S I' := Cok_mk h.2.2.1
theorem s_dreamOf {F : sm_MI → sm_ML → Prop} {m : Nat} (hR : RR A W H S N R ν lb b T I L) (h0 : 0 < H) (hm : m < 2 ^ 30)
    (h : ∀ (I' : sm_MI) (L' : sm_ML) (z : w_St) (g : Int32), RR A W H S N R ν lb b T I' L' → Fr PQ I I' → cZ N I' L' (ngs (mkE A (nI lb) (-1) 0 (-1) g (fun _ => -1)) W H S N ν m z) → z.1 = cU N (I 35 0) → (∀ j, j < 6 → z.2.2.2.1 j = 0) → (∀ j, j < 8 → z.2.2.2.2 j = 0) → F I' L') : sm_CV (n + 8) mX11_dreamOf T I L [.ref 0, .int (nI m)] F := by
  refine c_X11_dreamOf hR.hB (s_begin_R (n := n + 6) hR (fun I1 z g f1 e65 e67 e12 hD hz z1 zc zd => ?_))
  have hb := hR.bb
  have hν := hR.now.1
  refine s_goOn (n := n) hR.hB hR.rl (vE_mk hR.va h0) (Or.inl rfl) hm (by omega) hD hz (fun I2 f2 hD2 hz2 => ?_)
  have f3 : Fr PQ I I2 := f1.tr (f2.mono PN_PQ)
  rw [sm_uL_2] at hz2 ⊢
  exact h I2 _ z g (RR_c hR f3 (Cok_of hD2)) f3 hz2 z1 zc zd
theorem mE_frQ {E : Nat → Nat → Int32} {I I' : sm_MI} (h : mE E H S N I) (hf : Fr qMQ I I') : mE E H S N I' := by
  have g : ∀ k j, qMQ k j = false → I' k j = I k j := hf
  obtain ⟨⟨a1, a2, a3, a4, a5⟩, b, ⟨c1, c2⟩⟩ := h
  refine ⟨⟨(g 76 26 rfl).trans a1, (g 76 27 rfl).trans a2, (g 76 28 rfl).trans a3, (g 76 29 rfl).trans a4, (g 76 30 rfl).trans a5⟩, fun w hw => ?_, ⟨(g 76 33 rfl).trans c1, (g 76 39 rfl).trans c2⟩⟩
  obtain ⟨b1, b2, b3, b4, b5, b6⟩ := b w hw
  exact ⟨(g 89 _ rfl).trans b1, (g 89 _ rfl).trans b2, (g 89 _ rfl).trans b3, (g 89 _ rfl).trans b4, (g 91 w rfl).trans b5, (g 93 w rfl).trans b6⟩
theorem MQ_code {k j : Nat} (h1 : 78 ≤ k) (h2 : k ≤ 84) : qMQ k j = false := by
  rw [Bool.eq_false_iff]
  intro q
  simp only [qMQ, Bool.or_eq_true, Bool.and_eq_true, Nat.beq_eq, Nat.ble_eq] at q
  omega
theorem mD_frQ {E : Nat → Nat → Int32} {I0 I I' : sm_MI} (h : mD E H S N I0 I) (hf : Fr qMQ I I') : mD E H S N I0 I' :=
  ⟨mE_frQ h.1 hf, fun k h1 h2 => (hf.at k (fun j => MQ_code h1 h2)).trans (h.2 k h1 h2)⟩
theorem mD_of {I1 : sm_MI} {lk bed rk gh gs : Int32} {f : Nat → Int32} (h : RR A W H S N R ν lb b T I L) (e76 : ∀ j, 26 ≤ j → j ≤ 30 → I1 76 j = I 76 j) (e33 : I1 76 33 = lk) (e39 : I1 76 39 = bed) (e89 : I1 89 = I 89) (e91 : I1 91 = I 91) (e93 : ∀ w, w < S → I1 93 w = f w) (e78 : ∀ k, 78 ≤ k → k ≤ 84 → I1 k = I k) : mD (mkE A lk bed rk gh gs f) H S N I I1 := by
  obtain ⟨_, _, ⟨a1, a2, a3, a4, a5⟩, b1, _⟩ := h.st
  refine ⟨⟨⟨(e76 26 (by decide) (by decide)).trans a1, (e76 27 (by decide) (by decide)).trans a2, (e76 28 (by decide) (by decide)).trans a3, (e76 29 (by decide) (by decide)).trans a4, (e76 30 (by decide) (by decide)).trans a5⟩, fun w hw => ?_, e33, e39⟩, e78⟩
  obtain ⟨c1, c2, c3, c4, c5⟩ := b1 w hw
  rw [e89, e91]
  exact ⟨c1, c2, c3, c4, c5, e93 w hw⟩
theorem mD_now (h : RR A W H S N R ν lb b T I L) {gh gs : Int32} : mD (mkE A (nI lb) (-1) 0 gh gs (fun _ => -1)) H S N I I :=
  mD_of h (fun _ _ _ => rfl) h.now.2.2.2.2.1 h.rest.2.2.1 rfl rfl (fun w hw => h.rest.2.2.2 w (by have := h.va.2.2.1; omega)) (fun _ _ _ => rfl)
/-- put aside, and what stands there -/
def mAs (I I' : sm_MI) : Prop := Fr qMQ I I' ∧ (∀ j, j < 8 → I' 97 j = I 92 j) ∧ I' 76 44 = I 76 34
theorem mAs.go {I I1 I2 : sm_MI} (h : mAs I I1) (f : Fr MN I1 I2) : mAs I I2 := ⟨h.1.tr (f.mono MN_MQ), fun j hj => (f 97 j rfl).trans (h.2.1 j hj), (f 76 44 rfl).trans h.2.2⟩
theorem s_m_aside {F : sm_MI → sm_ML → Prop} (hB : sm_Bs T) (h : ∀ I' : sm_MI, mAs I I' → I' 92 = I 92 → I' 76 34 = I 76 34 → F I' L) : sm_CV n mX12_putAside T I L [.ref 76] F := by
  refine s_m_putAside hB (h _ ⟨(Fr.rf.f (fun _ => rfl)).u rfl, fun j hj => ?_, ?_⟩ ?_ ?_)
  · rw [sm_uI_ne (by decide)]; simp [sm_fill, hj]
  · rw [sm_uI_at, pk_us]
  · rw [sm_uI_ne (by decide)]; funext j; simp [sm_fill]
  · simp [sm_uI, sm_fill]
theorem s_m_back {F : sm_MI → sm_ML → Prop} {I' : sm_MI} (hR : RR A W H S N R ν lb b T I L) (ha : mAs I I') (h : ∀ I'' : sm_MI, Fr qMQ I I'' → (∀ j, j < 8 → I'' 92 j = I 92 j) → RR A W H S N R ν lb b T I'' L → F I'' L) : sm_CV n mX12_takeBack T I' L [.ref 76] F := by
  have hf : Fr qMQ I (sm_uI (sm_fill I' 92 8 (I' 97)) 76 34 (I' 76 44)) := (ha.1.f (fun _ => rfl)).u rfl
  have h92 : ∀ j, j < 8 → (sm_uI (sm_fill I' 92 8 (I' 97)) 76 34 (I' 76 44)) 92 j = I 92 j := by
    intro j hj
    rw [sm_uI_ne (by decide)]
    simp only [sm_fill, if_true, hj]
    exact ha.2.1 j hj
  refine s_m_takeBack hR.hB (h _ hf h92 (RR_q hR (hf.mono MQ_qM) rfl ?_ ?_ ?_ (fun k h1 h2 => hf.at k (fun j => MQ_code h1 h2))))
  · have v4 := hR.va.2.2.2.1
    funext t
    unfold mU
    by_cases ht : t < N
    · rw [if_pos ht, if_pos ht, h92 t (by omega)]
    · rw [if_neg ht, if_neg ht]
  · rw [sm_uI_at, pk_us, ha.2.2]
  · exact Cok_fr hR.c (hf.at 65 (fun _ => rfl)) (hf.at 67 (fun _ => rfl))
end
