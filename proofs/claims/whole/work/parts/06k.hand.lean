def kN (k j : Nat) : Bool := !(Nat.beq k 35 || Nat.beq k 92 || (Nat.beq k 76 && (Nat.beq j 33 || Nat.beq j 34)))
section
variable {n : Nat} {T : List sm_Sh} {I I' : sm_MI} {L L' : sm_ML} {A : Nat → Nat → Int32} {H S N R ν lb b ν' lb' b' : Nat} {W : Nat → (Nat → Int32) → Int32}
theorem gN_t (h : RR A W H S N R ν lb b T I L) (e : Fr kN I I') (l1 : L' 35 3 = L 35 3) (l2 : L' 76 36 = L 76 36) : gN H N ν lb b I' L' ∧ cU N (I' 35 0) = mU N (I' 92) ∧ I' 76 34 = nI ν := by
  obtain ⟨g1, g2, g3, g4, g5, g6, g7⟩ := h.gn
  refine ⟨⟨g1, g2, (e 35 1 rfl).trans g3, (e 35 2 rfl).trans g4, (e 76 33 rfl).trans g5, by rw [l1, l2]; exact g6, by rw [e 35 0 rfl]; exact g7⟩, ?_, (e 76 34 rfl).trans h.n34⟩
  rw [e 35 0 rfl, e.at 92 (fun _ => rfl)]
  exact h.u
theorem p_end {G : Bool → Bool → sm_MI → sm_ML → Prop} {a : Int32} (hR : RR A W H S N R ν lb b T I L) (h : ∀ v I' L', RR A W H S N R ν lb b T I' L' → G v v I' L') :
    sm_CZ (n + 20) mX11_end T I L [.ref 0, .int a] (fun r1 I1 L1 => sm_CZ (n + 20) mX12_end T I1 L1 [.ref 76, .int a] (fun r2 I2 L2 => G r1 r2 I2 L2)) := by
  have hB := hR.hB
  obtain ⟨len, t0, t1, t2, t3⟩ := hR.gt
  refine c_X11_end hB (s_within hB ?_)
  rw [t1]
  refine ⟨fun q => c_X12_end hB ?_, fun q => c_X12_end hB ?_⟩
  · have e2 : (sm_uI I 1 1 a) 76 2 = nI len := t2
    rw [e2]
    have q' := qW_ok.mp q
    obtain ⟨k, _, hk, rfl⟩ := qW_rng (lo := 0) (hi := len) (by decide) (by omega) q
    refine ⟨fun z => absurd z q'.1, fun _ => ⟨fun _ => h _ _ _ ?_, fun z => absurd (nI_le hk (by omega)) z⟩⟩
    have f : ∀ P : Nat → Nat → Bool, P 1 1 = true → P 76 2 = true → Fr P I (sm_uI (sm_uI I 1 1 (nI k)) 76 2 (nI k)) := fun P p1 p2 => (Fr.rf.u p1).u p2
    obtain ⟨m1, m2, m3⟩ := gN_t (L' := L) hR (f kN rfl rfl) rfl rfl
    obtain ⟨w1, w2, w3⟩ := RR_n hR (f kC rfl rfl)
    exact RR_mk hB hR.bb (gS_t hR.st (f kS rfl rfl)) hR.va m1 ⟨k, by omega, rfl, rfl, fun j hj => t3 j (by omega)⟩ (gI_t hR.gi (Nat.le_refl _) (f kI rfl rfl) rfl rfl) (gP_t hR.gp (Nat.le_refl _) (f kP rfl rfl) (fun _ => rfl)) (gE_t hR.ge (f kE rfl rfl)) (gK_t hR.gk (f kR rfl rfl)) (gM_t hR.gm (f kM rfl rfl)) m2 m3 w1 w2 w3
  · rw [t2]
    refine ⟨fun _ => h _ _ _ hR, fun z => ⟨fun y => ?_, fun _ => h _ _ _ hR⟩⟩
    have : qW a 0 (nI len) = true := qW_ok.mpr ⟨z, fun g => by
      obtain ⟨j, hj, rfl⟩ := nI_of z
      have := (nI_leI hj (by omega)).mp y
      have := (nI_ltI (by omega) hj).mp g
      omega⟩
    rw [this] at q
    exact absurd q (by decide)
theorem p_risk {G : Bool → Bool → sm_MI → sm_ML → Prop} {a : Int32} (hR : RR A W H S N R ν lb b T I L) (h : ∀ v I' L', RR A W H S N R ν lb b T I' L' → G v v I' L') :
    sm_CZ (n + 20) mX11_risk T I L [.ref 0, .int a] (fun r1 I1 L1 => sm_CZ (n + 20) mX12_risk T I1 L1 [.ref 76, .int a] (fun r2 I2 L2 => G r1 r2 I2 L2)) := by
  have hB := hR.hB
  refine c_X11_risk hB (s_within hB ⟨fun q => c_X12_risk hB (s_m_in hB ⟨fun _ => h _ _ _ ?_, fun z => by rw [q] at z; exact absurd z (by decide)⟩), fun q => c_X12_risk hB (s_m_in hB ⟨fun z => by rw [q] at z; exact absurd z (by decide), fun _ => h _ _ _ hR⟩)⟩)
  obtain ⟨k, _, hk, rfl⟩ := qW_rng (lo := 0) (hi := 100) (by decide) (by decide) q
  have f : ∀ P : Nat → Nat → Bool, P 0 11 = true → P 76 35 = true → Fr P I (sm_uI (sm_uI I 0 11 (nI k)) 76 35 (nI k)) := fun P p1 p2 => (Fr.rf.u p1).u p2
  obtain ⟨m1, m2, m3⟩ := gN_t (L' := L) hR (f kN rfl rfl) rfl rfl
  obtain ⟨w1, w2, w3⟩ := RR_n hR (f kC rfl rfl)
  exact RR_mk hB hR.bb (gS_t hR.st (f kS rfl rfl)) hR.va m1 (gT_t hR.gt (f kT rfl rfl)) (gI_t hR.gi (Nat.le_refl _) (f kI rfl rfl) rfl rfl) (gP_t hR.gp (Nat.le_refl _) (f kP rfl rfl) (fun _ => rfl)) (gE_t hR.ge (f kE rfl rfl)) ⟨k, hk, rfl, rfl⟩ (gM_t hR.gm (f kM rfl rfl)) m2 m3 w1 w2 w3
theorem p_put {G : Bool → Bool → sm_MI → sm_ML → Prop} {a c : Int32} (hR : RR A W H S N R ν lb b T I L) (h : ∀ v I' L', RR A W H S N R ν lb b T I' L' → G v v I' L') :
    sm_CZ (n + 20) mX11_put T I L [.ref 0, .int a, .int c] (fun r1 I1 L1 => sm_CZ (n + 20) mX12_put T I1 L1 [.ref 76, .int a, .int c] (fun r2 I2 L2 => G r1 r2 I2 L2)) := by
  have hB := hR.hB
  obtain ⟨⟨a1, a2, a3, a4, a5⟩, _, ⟨c1, c2, c3, c4, c5⟩, _, c6⟩ := hR.st
  have v1 := hR.va.2.1
  have v4 := hR.va.2.2.2.1
  obtain ⟨g1, g2, g3, g4, g5, g6, g7⟩ := hR.gn
  have bad : (qW a 0 (nI N - 1) = false ∨ qW c 0 (nI H - 1) = false) → sm_CZ (n + 20) mX12_put T I L [.ref 76, .int a, .int c] (fun r2 I2 L2 => G false r2 I2 L2) := by
    intro w
    refine c_X12_put hB (s_m_isThing hB ?_)
    rw [c3]
    refine ⟨fun _ => h _ _ _ hR, fun q1 => s_m_isHouse hB ?_⟩
    rw [c1]
    refine ⟨fun _ => h _ _ _ hR, fun q2 => ?_⟩
    rcases w with w | w
    · rw [q1] at w; exact absurd w (by decide)
    · rw [q2] at w; exact absurd w (by decide)
  refine c_X11_put hB (s_hasThing hB ?_)
  rw [a3]
  refine ⟨fun q => bad (Or.inl q), fun q1 => s_hasHouse hB ?_⟩
  rw [a1]
  refine ⟨fun q => bad (Or.inr q), fun q2 => ?_⟩
  obtain ⟨t, ht, rfl⟩ := qW_nat (by omega) q1
  obtain ⟨k, hk, rfl⟩ := qW_nat (by omega) q2
  have e92 : I 92 t = qPl (I 35 0) (nI t) := by rw [← mU_at (N := N) (I 92) ht, ← hR.u, cU_at _ ht]
  refine s_placeIn hB ⟨fun z => s_placed hB (c_X12_put hB (s_m_isThing hB ?_)), fun z => c_X12_put hB (s_m_isThing hB ?_)⟩
  · rw [show (sm_uI I 35 0 (qPd (I 35 0) (nI t) (nI k))) 76 28 = nI N from c3, q1]
    refine ⟨fun y => absurd y (by decide), fun _ => s_m_isHouse hB ?_⟩
    rw [show (sm_uI I 35 0 (qPd (I 35 0) (nI t) (nI k))) 76 26 = nI H from c1, q2]
    refine ⟨fun y => absurd y (by decide), fun _ => ⟨vp_in_nI (by omega) (by decide), ?_⟩⟩
    rw [nI_clamp (by omega), show (sm_uI I 35 0 (qPd (I 35 0) (nI t) (nI k))) 92 t = I 92 t from rfl, e92]
    refine ⟨fun _ => ⟨vp_in_nI (by omega) (by decide), h _ _ _ ?_⟩, fun y => absurd y z⟩
    have f : ∀ P : Nat → Nat → Bool, P 35 0 = true → (P 92 t = true) → Fr P I (sm_uI (sm_uI I 35 0 (qPd (I 35 0) (nI t) (nI k))) 92 t (nI k)) := fun P p1 p2 => (Fr.rf.u p1).u p2
    have e35 : (sm_uI (sm_uI I 35 0 (qPd (I 35 0) (nI t) (nI k))) 92 t (nI k)) 35 0 = qPd (I 35 0) (nI t) (nI k) := rfl
    have e92' : (sm_uI (sm_uI I 35 0 (qPd (I 35 0) (nI t) (nI k))) 92 t (nI k)) 92 = upd (I 92) t (nI k) := by rw [sm_uI_at, sm_uI_ne (by decide)]
    refine RR_now hR (f kS rfl rfl) (f kT rfl rfl) (f kI rfl rfl) (f kP rfl rfl) (f kE rfl rfl) (f kR rfl rfl) (f kM rfl rfl) (f kC rfl rfl) rfl rfl (fun _ => rfl) ⟨g1, g2, g3, g4, g5, g6, ?_⟩ ?_ hR.n34
    · rw [e35, cU_Pd _ v4 ht (by omega)]
      intro s hs
      by_cases es : s = t
      · subst es; rw [pk_us]; exact ⟨k, hk, rfl⟩
      · rw [pk_un es]; exact g7 s hs
    · rw [e35, e92', cU_Pd _ v4 ht (by omega), mU_upd _ ht, hR.u]
  · rw [c3, q1]
    refine ⟨fun y => absurd y (by decide), fun _ => s_m_isHouse hB ?_⟩
    rw [c1, q2]
    refine ⟨fun y => absurd y (by decide), fun _ => ⟨vp_in_nI (by omega) (by decide), ?_⟩⟩
    rw [nI_clamp (by omega), e92]
    exact ⟨fun y => absurd z y, fun _ => h _ _ _ hR⟩
theorem q_xor {lb k : Nat} (h1 : lb < 256) (h2 : k < 8) : nI lb ^^^ ((1 : Int32) <<< (nI k &&& 31)) = nI (lb ^^^ 2 ^ k) ∧ lb ^^^ 2 ^ k < 256 := by
  rw [q_pow k (by omega)]
  constructor
  · apply Int32.toBitVec_inj.1
    show BitVec.ofNat 32 lb ^^^ BitVec.ofNat 32 (2 ^ k) = BitVec.ofNat 32 (lb ^^^ 2 ^ k)
    apply BitVec.eq_of_getLsbD_eq
    intro i hi
    simp [hi]
  · exact Nat.xor_lt_two_pow (n := 8) h1 (Nat.pow_lt_pow_right (by decide) h2)
theorem p_lock {G : Bool → Bool → sm_MI → sm_ML → Prop} {a : Int32} {c : Bool} (hR : RR A W H S N R ν lb b T I L) (h : ∀ v lb' I' L', RR A W H S N R ν lb' b T I' L' → G v v I' L') :
    sm_CZ (n + 20) mX11_lock T I L [.ref 0, .int a, .int (sm_z c)] (fun r1 I1 L1 => sm_CZ (n + 20) mX12_lock T I1 L1 [.ref 76, .int a, .int (sm_z c)] (fun r2 I2 L2 => G r1 r2 I2 L2)) := by
  have hB := hR.hB
  obtain ⟨⟨a1, a2, a3, a4, a5⟩, _, ⟨c1, c2, c3, c4, c5⟩, _, c6⟩ := hR.st
  have v1 := hR.va.2.1
  obtain ⟨g1, g2, g3, g4, g5, g6, g7⟩ := hR.gn
  refine c_X11_lock hB (s_hasHouse hB ?_)
  rw [a1]
  refine ⟨fun q => c_X12_lock hB (s_m_isHouse hB ?_), fun q1 => s_bitOf hB ?_⟩
  · rw [c1, q]
    exact ⟨fun _ => h _ _ _ _ hR, fun z => absurd z (by decide)⟩
  obtain ⟨k, hk, rfl⟩ := qW_nat (by omega) q1
  rw [g4]
  obtain ⟨x1, x2⟩ := q_xor g2 (show k < 8 by omega)
  have flip : ∀ r : Bool, r = decide (qBo (nI lb) (nI k) = 1) → ¬ sm_z r = sm_z c → sm_CZ (n + 20) mX12_lock T (sm_uI I 35 2 (nI lb ^^^ ((1 : Int32) <<< (nI k &&& 31)))) L [.ref 76, .int (nI k), .int (sm_z c)] (fun r2 I2 L2 => G true r2 I2 L2) := by
    intro r hr hne
    refine c_X12_lock hB (s_m_isHouse hB ?_)
    rw [show (sm_uI I 35 2 (nI lb ^^^ ((1 : Int32) <<< (nI k &&& 31)))) 76 26 = nI H from c1, q1]
    refine ⟨fun y => absurd y (by decide), fun _ => ?_⟩
    rw [show (sm_uI I 35 2 (nI lb ^^^ ((1 : Int32) <<< (nI k &&& 31)))) 76 33 = nI lb from g5]
    refine s_m_has hB g2 (by omega) ?_
    rw [← hr]
    refine ⟨fun _ => h _ (lb ^^^ 2 ^ k) _ _ ?_, fun z => absurd z hne⟩
    rw [show (sm_uI I 35 2 (nI lb ^^^ ((1 : Int32) <<< (nI k &&& 31)))) 76 33 = nI lb from g5, x1]
    have f : ∀ P : Nat → Nat → Bool, P 35 2 = true → (P 76 33 = true) → Fr P I (sm_uI (sm_uI I 35 2 (nI (lb ^^^ 2 ^ k))) 76 33 (nI (lb ^^^ 2 ^ k))) := fun P p1 p2 => (Fr.rf.u p1).u p2
    exact RR_now hR (f kS rfl rfl) (f kT rfl rfl) (f kI rfl rfl) (f kP rfl rfl) (f kE rfl rfl) (f kR rfl rfl) (f kM rfl rfl) (f kC rfl rfl) rfl rfl (fun _ => rfl) ⟨g1, x2, g3, rfl, rfl, g6, g7⟩ hR.u hR.n34
  have same : ∀ r : Bool, r = decide (qBo (nI lb) (nI k) = 1) → sm_z r = sm_z c → sm_CZ (n + 20) mX12_lock T I L [.ref 76, .int (nI k), .int (sm_z c)] (fun r2 I2 L2 => G false r2 I2 L2) := by
    intro r hr he
    refine c_X12_lock hB (s_m_isHouse hB ?_)
    rw [c1, q1]
    refine ⟨fun y => absurd y (by decide), fun _ => ?_⟩
    rw [g5]
    refine s_m_has hB g2 (by omega) ?_
    rw [← hr]
    exact ⟨fun z => absurd he z, fun _ => h _ _ _ _ hR⟩
  refine ⟨fun q => ⟨fun z => ?_, fun z => same false (decide_eq_false q).symm z⟩, fun q => ⟨fun z => ?_, fun z => same true (decide_eq_true q).symm z⟩⟩
  · exact flip false (decide_eq_false q).symm z
  · exact flip true (decide_eq_true q).symm z
end
