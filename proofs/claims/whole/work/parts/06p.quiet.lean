section
variable {n : Nat} {T : List sm_Sh} {I I' : sm_MI} {L L' : sm_ML} {A : Nat → Nat → Int32} {H S N R ν lb b ν' lb' b' : Nat} {W : Nat → (Nat → Int32) → Int32}
/-- lies after k nights as it is -/
abbrev nU0 (A : Nat → Nat → Int32) (W : Nat → (Nat → Int32) → Int32) (H S N ν lb k : Nat) (u : Nat → Int32) : Nat → Int32 := nU A W H S N ν (nI lb) (-1) (fun _ => -1) k u
abbrev nUb (A : Nat → Nat → Int32) (W : Nat → (Nat → Int32) → Int32) (H S N ν lb w k : Nat) (u : Nat → Int32) : Nat → Int32 := nU A W H S N ν (nI lb) (nI w) (fun _ => -1) k u
theorem s_dreamOf' {F : sm_MI → sm_ML → Prop} {m : Nat} (hR : RR A W H S N R ν lb b T I L) (h0 : 0 < H) (hm : m < 2 ^ 30)
    (h : ∀ (I' : sm_MI) (L' : sm_ML), RR A W H S N R ν lb b T I' L' → Fr PQ I I' → cU N (I' 53 0) = nU0 A W H S N ν lb m (cU N (I 35 0)) → F I' L') : sm_CV (n + 8) mX11_dreamOf T I L [.ref 0, .int (nI m)] F :=
  s_dreamOf hR h0 hm (fun I' L' z g hR' f hz z1 _ _ => h I' L' hR' f (by rw [hz.1]; exact nU_eq z1 m))
theorem s_changedWithout {F : Int32 → sm_MI → sm_ML → Prop} {w k : Nat} {p : Int32} (hR : RR A W H S N R ν lb b T I L) (h0 : 0 < H) (hw : w < S) (hk : k < 2 ^ 30)
    (h : ∀ I' L', RR A W H S N R ν lb b T I' L' → Fr PQ I I' → F (nI (elC (nUb A W H S N ν lb w k (cU N (I 35 0))) (cU N p) N)) I' L') : sm_CI (n + 8) mX11_changedWithout T I L [.ref 0, .int (nI w), .int (nI k), .int p] F := by
  have hB := hR.hB
  have v4 := hR.va.2.2.2.1
  have hb := hR.bb
  have hν := hR.now.1
  refine c_X11_changedWithout hB (s_begin_R (n := n + 6) hR (fun I1 z g f1 e65 e67 e12 hD hz z1 zc zd => ?_))
  obtain ⟨⟨_, _, _, d4, _⟩, hz2⟩ := And.intro hD.1.2.2 hz
  have f2 : Fr PQ I (sm_uI I1 53 10 (nI w)) := f1.u rfl
  have hD2 : cD (mkE A (nI lb) (nI w) 0 (-1) g (fun _ => -1)) W H S N R I ν (sm_uI I1 53 10 (nI w)) := cD_of hR f2 hD.2.1 hD.1.2.2.1 hD.1.2.2.2.2.1 rfl hD.1.2.2.2.2.2.1 hD.1.2.2.2.2.2.2 (fun w hw => ((hD.1.2.1) w hw).2.2.2.2.2) (by rw [sm_uI_ne (by decide)]; exact e65) (by rw [sm_uI_ne (by decide)]; exact e67)
  have hz3 : cZ N (sm_uI I1 53 10 (nI w)) (sm_uL L 53 3 z.2.2.1) z := ⟨hz.1, hz.2.1, hz.2.2.1, by rw [sm_uI_ne (by decide)]; exact hz.2.2.2.1, by rw [sm_uI_ne (by decide)]; exact hz.2.2.2.2⟩
  refine s_goOn (n := n) hB hR.rl (vE_mk hR.va h0) (Or.inl rfl) hk (by omega) hD2 hz3 (fun I2 f3 hD3 hz4 => ?_)
  have f4 : Fr PQ I I2 := f2.tr (f3.mono PN_PQ)
  rw [sm_uL_2] at hz4 ⊢
  refine s_elsewhere hB hD3.1.1.2.2.1 v4 (s_BC ?_)
  rw [hz4.1, elC_BC v4, nU_eq z1]
  exact h I2 _ (RR_c hR f4 (Cok_of hD3)) f4
theorem s_m_aside2 {F : sm_MI → sm_ML → Prop} (hB : sm_Bs T) (h : ∀ I' : sm_MI, mAs I I' → I' 92 = I 92 → I' 76 34 = I 76 34 → (∀ k, k ≠ 97 → k ≠ 76 → I' k = I k) → F I' L) : sm_CV n mX12_putAside T I L [.ref 76] F := by
  refine s_m_putAside hB (h _ ⟨(Fr.rf.f (fun _ => rfl)).u rfl, fun j hj => ?_, ?_⟩ ?_ ?_ (fun k h1 h2 => ?_))
  · rw [sm_uI_ne (by decide)]; simp [sm_fill, hj]
  · rw [sm_uI_at, pk_us]
  · rw [sm_uI_ne (by decide)]; funext j; simp [sm_fill]
  · simp [sm_uI, sm_fill]
  · rw [sm_uI_ne h2]; funext j; simp [sm_fill, h1]
theorem s_m_back2 {F : sm_MI → sm_ML → Prop} {I' : sm_MI} (hR : RR A W H S N R ν lb b T I L) (ha : mAs I I') (h : ∀ I'' : sm_MI, RR A W H S N R ν lb b T I'' L → mU N (I'' 92) = mU N (I 92) → (∀ k, k ≠ 92 → k ≠ 76 → I'' k = I' k) → F I'' L) : sm_CV n mX12_takeBack T I' L [.ref 76] F := by
  have v4 := hR.va.2.2.2.1
  have hf : Fr qMQ I (sm_uI (sm_fill I' 92 8 (I' 97)) 76 34 (I' 76 44)) := (ha.1.f (fun _ => rfl)).u rfl
  have h92 : ∀ j, j < 8 → (sm_uI (sm_fill I' 92 8 (I' 97)) 76 34 (I' 76 44)) 92 j = I 92 j := by
    intro j hj
    rw [sm_uI_ne (by decide)]
    simp only [sm_fill, if_true, hj]
    exact ha.2.1 j hj
  have hm92 : mU N ((sm_uI (sm_fill I' 92 8 (I' 97)) 76 34 (I' 76 44)) 92) = mU N (I 92) := by
    funext t
    unfold mU
    by_cases ht : t < N
    · rw [if_pos ht, if_pos ht, h92 t (by omega)]
    · rw [if_neg ht, if_neg ht]
  refine s_m_takeBack hR.hB (h _ (RR_q hR (hf.mono MQ_qM) rfl hm92 ?_ ?_ (fun k h1 h2 => hf.at k (fun j => MQ_code h1 h2))) hm92 (fun k h1 h2 => ?_))
  · rw [sm_uI_at, pk_us, ha.2.2]
  · exact Cok_fr hR.c (hf.at 65 (fun _ => rfl)) (hf.at 67 (fun _ => rfl))
  · rw [sm_uI_ne h2]; funext j; simp [sm_fill, h1]
theorem s_m_quietOf {F : Int32 → sm_MI → sm_ML → Prop} {w k : Nat} (hR : RR A W H S N R ν lb b T I L) (h0 : 0 < H) (hw : w < S) (hk : k < 2 ^ 30)
    (h : ∀ I', RR A W H S N R ν lb b T I' L → mU N (I' 107) = mU N (I 107) → mU N (I' 92) = mU N (I 92) → F (nI (elC (nUb A W H S N ν lb w k (mU N (I 92))) (mU N (I 107)) N)) I' L) : sm_CI (n + 9) mX12_quietOf T I L [.ref 76, .int (nI w), .int (nI k)] F := by
  have hB := hR.hB
  have v4 := hR.va.2.2.2.1
  have v3 := hR.va.2.2.1
  refine c_X12_quietOf hB (s_m_aside2 hB (fun I3 ha h92 h34 hrest => ?_))
  have hD3 : mD (mkE A (nI lb) (nI w) 0 (-1) 0 (fun _ => -1)) H S N I (sm_uI I3 76 39 (nI w)) := by
    refine mD_of hR (fun j h1 h2 => ?_) ?_ ?_ ?_ ?_ (fun w hw => ?_) (fun k h1 h2 => ?_)
    · rw [sm_uI_at, pk_un (by omega)]; exact ha.1 76 j (by
        rw [Bool.eq_false_iff]; intro q
        simp only [qMQ, Bool.or_eq_true, Bool.and_eq_true, Nat.beq_eq, Nat.ble_eq] at q
        omega)
    · exact (ha.1 76 33 rfl).trans hR.now.2.2.2.2.1
    · rfl
    · rw [sm_uI_ne (by decide)]; exact ha.1.at 89 (fun _ => rfl)
    · rw [sm_uI_ne (by decide)]; exact ha.1.at 91 (fun _ => rfl)
    · rw [sm_uI_ne (by decide), ha.1.at 93 (fun _ => rfl)]; exact hR.rest.2.2.2 w (by omega)
    · rw [sm_uI_ne (by omega)]; exact ha.1.at k (fun j => MQ_code h1 h2)
  refine s_m_calmNights (n := n) (E := mkE A (nI lb) (nI w) 0 (-1) 0 (fun _ => -1)) (z := zz (mU N (I 92))) hB hR.ml (vE_mk hR.va h0) hR.now.2.1 rfl rfl rfl hk hD3 (h34.trans hR.n34) (by rw [sm_uI_ne (by decide), h92]; rfl) (fun I4 f4 hD4 hn4 hu4 => ?_)
  have f5 : Fr qMQ I (sm_uI I4 76 39 (-1)) := by
    intro a c q
    by_cases e : a = 76 ∧ c = 39
    · obtain ⟨e1, e2⟩ := e
      subst e1 e2
      rw [sm_uI_at, pk_us]; exact hR.rest.2.2.1.symm
    · have g1 : (sm_uI I4 76 39 (-1)) a c = I4 a c := by
        unfold sm_uI
        by_cases e1 : a = 76
        · rw [if_pos e1, if_neg (fun e2 => e ⟨e1, e2⟩)]
        · rw [if_neg e1]
      have g2 : (sm_uI I3 76 39 (nI w)) a c = I3 a c := by
        unfold sm_uI
        by_cases e1 : a = 76
        · rw [if_pos e1, if_neg (fun e2 => e ⟨e1, e2⟩)]
        · rw [if_neg e1]
      rw [g1, f4 a c (MN_MQ a c q), g2]
      exact ha.1 a c q
  have ha5 : mAs I (sm_uI I4 76 39 (-1)) := ⟨f5, fun j hj => (f4 97 j rfl).trans (ha.2.1 j hj), (f4 76 44 rfl).trans ha.2.2⟩
  have e107 : (sm_uI I4 76 39 (-1)) 107 = I3 107 := by
    rw [sm_uI_ne (by decide), f4.at 107 (fun _ => rfl), sm_uI_ne (by decide)]
  have e92 : mU N ((sm_uI I4 76 39 (-1)) 92) = nUb A W H S N ν lb w k (mU N (I 92)) := by
    rw [sm_uI_ne (by decide), hu4]; rfl
  refine s_m_elsewhere hB (f5 76 28 rfl |>.trans hR.st.2.2.1.2.2.1) v4 ?_
  rw [e92, e107, hrest 107 (by decide) (by decide)]
  refine s_m_back2 hR ha5 (fun I6 hR6 h92' hr6 => h I6 hR6 ?_ h92')
  rw [hr6 107 (by decide) (by decide), e107, hrest 107 (by decide) (by decide)]
theorem p_quiet {G : Int32 → Int32 → sm_MI → sm_ML → Prop} {a m : Int32} (hR : RR A W H S N R ν lb b T I L) (h : ∀ v I' L', RR A W H S N R ν lb b T I' L' → G v v I' L') :
    sm_CI (n + 20) mX11_quiet T I L [.ref 0, .int a, .int m] (fun r1 I1 L1 => sm_CI (n + 20) mX12_quiet T I1 L1 [.ref 76, .int a, .int m] (fun r2 I2 L2 => G r1 r2 I2 L2)) := by
  have hB := hR.hB
  obtain ⟨⟨a1, a2, a3, a4, a5⟩, _, ⟨c1, c2, c3, c4, c5⟩, _, _⟩ := hR.st
  have v1 := hR.va.2.1
  have v3 := hR.va.2.2.1
  have bad : (qW a 0 (nI S - 1) = false ∨ qW m 1 60 = false) → sm_CI (n + 20) mX12_quiet T I L [.ref 76, .int a, .int m] (fun r2 I2 L2 => G (-1) r2 I2 L2) := by
    intro w
    refine c_X12_quiet hB (s_m_isSleeper hB ?_)
    rw [c2]
    refine ⟨fun _ => h _ _ _ hR, fun q1 => s_m_areNights hB ?_⟩
    obtain ⟨t, ht, e⟩ := qW_nat (by omega) q1
    rw [c1, an_ok (gV_S hR.va ht) (by omega)]
    refine ⟨fun q4 => ?_, fun _ => h _ _ _ hR⟩
    rcases w with w | w
    · rw [q1] at w; exact absurd w (by decide)
    · rw [q4] at w; exact absurd w (by decide)
  refine c_X11_quiet hB (s_hasSleeper hB ?_)
  rw [a2]
  refine ⟨fun q => bad (Or.inl q), fun q1 => s_within hB ⟨fun q4 => ?_, fun q => bad (Or.inr q)⟩⟩
  obtain ⟨w, hw, rfl⟩ := qW_nat (by omega) q1
  obtain ⟨k, hk1, hk2, rfl⟩ := qW_rng (lo := 1) (hi := 60) (by decide) (by decide) q4
  have h0 := gV_S hR.va hw
  refine s_dreamOf' (n := n + 11) hR h0 (by omega) (fun I1 L1 hR1 f1 hu1 => s_changedWithout (n := n + 11) hR1 h0 hw (by omega) (fun I2 L2 hR2 f2 => ?_))
  obtain ⟨_, _, ⟨d1, d2, d3, d4, d5⟩, _, _⟩ := hR2.st
  refine c_X12_quiet hB (s_m_isSleeper hB ?_)
  rw [d2, q1]
  refine ⟨fun y => absurd y (by decide), fun _ => s_m_areNights hB ?_⟩
  rw [d1, an_ok h0 (by omega), q_60 hk1 hk2]
  refine ⟨fun _ => s_m_noteEnds (n := n + 10) hR2 h0 (by omega) (fun I3 hR3 e107 e92 => s_m_quietOf (n := n + 10) hR3 h0 hw (by omega) (fun I4 hR4 _ _ => ?_)), fun y => absurd y (by decide)⟩
  have e1 : cU N (I1 35 0) = cU N (I 35 0) := by rw [f1 35 0 rfl]
  have e2 : mU N (I2 92) = cU N (I 35 0) := by rw [← hR2.u, f2 35 0 rfl, e1]
  rw [e107, e92, e2, hu1, e1]
  exact h _ _ _ hR4
/-- culprit so far: the greatest change, and whose -/
def cuB (c : Nat → Nat) : Nat → Nat
  | 0 => 0
  | w + 1 => if c (cuB c w) < c (w + 1) then w + 1 else cuB c w
theorem cuB_le (c : Nat → Nat) : ∀ w, cuB c w ≤ w
  | 0 => Nat.le_refl 0
  | w + 1 => by
    have := cuB_le c w
    unfold cuB
    split
    · omega
    · omega
theorem p_culprit {G : Int32 → Int32 → sm_MI → sm_ML → Prop} {m : Int32} (hR : RR A W H S N R ν lb b T I L) (h : ∀ v I' L', RR A W H S N R ν lb b T I' L' → G v v I' L') :
    sm_CI (n + 20) mX11_culprit T I L [.ref 0, .int m] (fun r1 I1 L1 => sm_CI (n + 20) mX12_culprit T I1 L1 [.ref 76, .int m] (fun r2 I2 L2 => G r1 r2 I2 L2)) := by
  have hB := hR.hB
  obtain ⟨⟨a1, a2, a3, a4, a5⟩, _, ⟨c1, c2, c3, c4, c5⟩, _, _⟩ := hR.st
  have v1 := hR.va.2.1
  have v3 := hR.va.2.2.1
  have v4 := hR.va.2.2.2.1
  have bad : (H = 0 ∨ qW m 1 60 = false) → sm_CI (n + 20) mX12_culprit T I L [.ref 76, .int m] (fun r2 I2 L2 => G (-1) r2 I2 L2) := by
    intro w
    refine c_X12_culprit hB (fun x hx => s_m_areNights hB ?_)
    rw [c1]
    refine ⟨fun q => ?_, fun _ => h _ _ _ hR⟩
    rw [Bool.and_eq_true] at q
    rcases w with w | w
    · have := (q_told (by omega)).mp (of_decide_eq_true q.1); omega
    · rw [q.2] at w; exact absurd w (by decide)
  refine c_X11_culprit hB (fun x hx => s_isTold hB ?_)
  rw [a1]
  refine ⟨fun q => bad (Or.inl ?_), fun q1 => s_within hB ⟨fun q4 => ?_, fun q => bad (Or.inr q)⟩⟩
  · rcases Nat.eq_zero_or_pos H with z | z
    · exact z
    · exact absurd ((q_told (by omega)).mpr z) (of_decide_eq_false q)
  have h0 : 0 < H := (q_told (by omega)).mp (of_decide_eq_true q1)
  have hS0 : 0 < S := by rcases hR.va.1 with g | g <;> omega
  obtain ⟨k, hk1, hk2, rfl⟩ := qW_rng (lo := 1) (hi := 60) (by decide) (by decide) q4
  refine s_dreamOf' (n := n + 11) hR h0 (by omega) (fun I1 L1 hR1 f1 hu1 => ?_)
  have e1 : cU N (I1 35 0) = cU N (I 35 0) := by rw [f1 35 0 rfl]
  -- how much changes without w
  have key : ∀ (c : Nat → Nat), c = (fun w => elC (nUb A W H S N ν lb w k (cU N (I 35 0))) (nU0 A W H S N ν lb k (cU N (I 35 0))) N) → ∀ d w (I2 : sm_MI) (L2 : sm_ML) (mo cu : Int32) (u6 : Option Value), w + d = S → RR A W H S N R ν lb b T I2 L2 → Fr PQ I1 I2 → ((w = 0 ∧ mo = -1 ∧ cu = -1) ∨ (0 < w ∧ mo = nI (c (cuB c (w - 1))) ∧ cu = nI (cuB c (w - 1)))) → sm_V x 0 0 T I2 L2 43 [some (.ref 0), some (.int (nI k)), some (.int (I1 53 0)), some (.int mo), some (.int cu), some (.int (nI w)), u6] [] := by
    intro c hc d
    have hcl : ∀ w, c w ≤ 8 := fun w => by rw [hc]; exact Nat.le_trans (cntOf_le _ N) v4
    induction d with
    | zero =>
      intro w I2 L2 mo cu u6 e hR2 f2 hp
      obtain ⟨⟨_, b2, _, _, _⟩, _, ⟨d1, d2, d3, d4, d5⟩, _, _⟩ := hR2.st
      refine u_X11_culprit_43 hB hx ⟨fun _ => ?_, fun q => absurd (by rw [b2]; exact nI_le (by omega) (by omega)) q⟩
      have hwS : w = S := by omega
      subst hwS
      rcases hp with hp | ⟨_, _, hcu⟩
      · omega
      rw [hcu]
      -- the model's
      refine c_X12_culprit hB (fun x hx => s_m_areNights hB ?_)
      rw [d1, an_ok h0 (by omega), q_60 hk1 hk2]
      refine ⟨fun _ => s_m_noteEnds (n := n + 10) hR2 h0 (by omega) (fun I3 hR3 e107 e92 => ?_), fun y => absurd y (by decide)⟩
      have e2 : mU N (I3 92) = cU N (I 35 0) := by rw [e92, ← hR2.u, f2 35 0 rfl, e1]
      have e2' : mU N (I2 92) = cU N (I 35 0) := by rw [← e92, e2]
      have mkey : ∀ d' w' (I4 : sm_MI), w' + 1 + d' = w → RR A W H w N R ν lb b T I4 L2 → mU N (I4 92) = cU N (I 35 0) → mU N (I4 107) = nU0 A W H w N ν lb k (cU N (I 35 0)) → sm_V x 0 0 T I4 L2 19 [some (.ref 76), some (.int (nI k)), some (.int (nI (cuB c w'))), some (.int (nI (w' + 1)))] [] := by
        intro d'
        induction d' with
        | zero =>
          intro w' I4 e' hR4 _ _
          refine u_X12_culprit_19 hB hx ⟨fun _ => ?_, fun q => absurd (by rw [hR4.st.2.2.1.2.1]; exact nI_le (by omega) (by omega)) q⟩
          rw [show w - 1 = w' by omega]
          exact h _ _ _ hR4
        | succ d' ih =>
          intro w' I4 e' hR4 h92 h107
          have hle := cuB_le c w'
          refine u_X12_culprit_19 hB hx ⟨fun q => absurd q (by rw [hR4.st.2.2.1.2.1]; exact nI_ge (by omega) (by omega)), fun _ => s_m_quietOf (n := n + 10) hR4 h0 (by omega) (by omega) (fun I5 hR5 g1 g2 => s_m_quietOf (n := n + 10) hR5 h0 (by omega) (by omega) (fun I6 hR6 g3 g4 => ?_))⟩
          have go := ih (w' + 1) I6 (by omega) hR6 (by rw [g4, g2, h92]) (by rw [g3, g1, h107])
          rw [g1, g2, h92, h107]
          have ec : ∀ w0, elC (nUb A W H w N ν lb w0 k (cU N (I 35 0))) (nU0 A W H w N ν lb k (cU N (I 35 0))) N = c w0 := fun w0 => by rw [hc]
          rw [ec, ec, nI_1, nI_leI (by have := hcl (w' + 1); omega) (by have := hcl (cuB c w'); omega)]
          have hcu : cuB c (w' + 1) = if c (cuB c w') < c (w' + 1) then w' + 1 else cuB c w' := rfl
          rw [hcu] at go
          refine ⟨fun q => ?_, fun q => ?_⟩
          · rw [if_neg (by omega)] at go; exact go
          · rw [if_pos (by omega)] at go; exact go
      exact mkey (w - 1) 0 I3 (by omega) hR3 e2 (by rw [e107, e2'])
    | succ d ih =>
      intro w I2 L2 mo cu u6 e hR2 f2 hp
      obtain ⟨⟨_, b2, _, _, _⟩, _, _, _, _⟩ := hR2.st
      refine u_X11_culprit_43 hB hx ⟨fun q => absurd q (by rw [b2]; exact nI_ge (by omega) (by omega)), fun _ => s_changedWithout (n := n + 11) hR2 h0 (by omega) (by omega) (fun I3 L3 hR3 f3 => ?_)⟩
      have e2 : cU N (I2 35 0) = cU N (I 35 0) := by rw [f2 35 0 rfl, e1]
      rw [e2, hu1]
      have ec : elC (nUb A W H S N ν lb w k (cU N (I 35 0))) (nU0 A W H S N ν lb k (cU N (I 35 0))) N = c w := by rw [hc]
      rw [ec, nI_1]
      have hcw := hcl w
      rcases hp with ⟨p1, p2, p3⟩ | ⟨p1, p2, p3⟩
      · subst p1
        rw [p2]
        refine ⟨fun q => absurd q ?_, fun _ => ih 1 I3 L3 _ _ _ (by omega) hR3 (f2.tr f3) (Or.inr ⟨by omega, rfl, rfl⟩)⟩
        rw [fa_le, nI_toInt (by omega)]
        have : (-1 : Int32).toInt = -1 := by decide
        omega
      · rw [p2, nI_leI (by omega) (by have := hcl (cuB c (w - 1)); omega)]
        have hcu : cuB c w = if c (cuB c (w - 1)) < c w then w else cuB c (w - 1) := by
          obtain ⟨w1, rfl⟩ : ∃ w1, w = w1 + 1 := ⟨w - 1, by omega⟩
          rfl
        refine ⟨fun q => ih (w + 1) I3 L3 _ _ _ (by omega) hR3 (f2.tr f3) (Or.inr ⟨by omega, ?_, ?_⟩), fun q => ih (w + 1) I3 L3 _ _ _ (by omega) hR3 (f2.tr f3) (Or.inr ⟨by omega, ?_, ?_⟩)⟩
        · rw [Nat.add_sub_cancel, hcu, if_neg (by omega)]
        · rw [p3, Nat.add_sub_cancel, hcu, if_neg (by omega)]
        · rw [Nat.add_sub_cancel, hcu, if_pos (by omega)]
        · rw [Nat.add_sub_cancel, hcu, if_pos (by omega)]
  have e3 : cU N (I1 53 0) = nU0 A W H S N ν lb k (cU N (I 35 0)) := hu1
  exact key _ rfl S 0 I1 L1 (-1) (-1) none (by omega) hR1 Fr.rf (Or.inl ⟨rfl, rfl, rfl⟩)
end
