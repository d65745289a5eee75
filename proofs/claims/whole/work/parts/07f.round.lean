/-! ===== round ===== -/
theorem least_of (P : Nat → Prop) : ∀ i, P i → ∃ j, j ≤ i ∧ P j ∧ ∀ k, k < j → ¬ P k
  | 0, h => ⟨0, Nat.le_refl _, h, fun k hk => absurd hk (by omega)⟩
  | i + 1, h => by
    by_cases h0 : ∃ j, j ≤ i ∧ P j
    · obtain ⟨j, hj, hp⟩ := h0
      have key : ∀ m j, j ≤ m → P j → ∃ j, j ≤ m ∧ P j ∧ ∀ k, k < j → ¬ P k := by
        intro m
        induction m with
        | zero =>
          intro j hj hp
          have : j = 0 := by omega
          subst this
          exact ⟨0, Nat.le_refl _, hp, fun k hk => absurd hk (by omega)⟩
        | succ m ih =>
          intro j hj hp
          by_cases g : ∃ k, k ≤ m ∧ P k
          · obtain ⟨k, hk, hq⟩ := g
            obtain ⟨l, h1, h2, h3⟩ := ih k hk hq
            exact ⟨l, by omega, h2, h3⟩
          · refine ⟨j, hj, hp, fun k hk hq => g ⟨k, by omega, hq⟩⟩
      obtain ⟨l, h1, h2, h3⟩ := key i j hj hp
      exact ⟨l, by omega, h2, h3⟩
    · exact ⟨i + 1, Nat.le_refl _, h, fun k hk hq => h0 ⟨k, by omega, hq⟩⟩
def ckey (s p : Int32) : Int32 := (s <<< (24 &&& 31)) ||| p
def stM (s : Int32) (u : Nat → Int32) : Nat → Int32
  | 0 => s
  | t + 1 => 8 * stM s u t + u t
def stN (s : Nat) (u : Nat → Nat) : Nat → Nat
  | 0 => s
  | t + 1 => 8 * stN s u t + u t
theorem stM_N {s : Nat} {u : Nat → Int32} {v : Nat → Nat} : ∀ {N : Nat}, (∀ t, t < N → u t = nI (v t)) → stM (nI s) u N = nI (stN s v N)
  | 0, _ => rfl
  | N + 1, h => by
    rw [stM, stN, stM_N (fun t ht => h t (by omega)), h N (by omega)]
    have e : (8 : Int32) * nI (stN s v N) = nI (8 * stN s v N) := pk_mul 8 _
    rw [e, nI_add]
theorem stN_lt {s : Nat} {v : Nat → Nat} (hs : s < 10) : ∀ {N : Nat}, (∀ t, t < N → v t < 8) → stN s v N < 10 * 8 ^ N
  | 0, _ => by simp [stN, hs]
  | N + 1, h => by
    have h1 := stN_lt hs (fun t ht => h t (by omega) : ∀ t, t < N → v t < 8)
    have h2 := h N (by omega)
    rw [stN, Nat.pow_succ]
    omega
theorem stN_inj {s s' : Nat} {v v' : Nat → Nat} : ∀ {N : Nat}, (∀ t, t < N → v t < 8) → (∀ t, t < N → v' t < 8) → stN s v N = stN s' v' N → s = s' ∧ ∀ t, t < N → v t = v' t
  | 0, _, _, h => ⟨h, fun t ht => absurd ht (by omega)⟩
  | N + 1, h1, h2, h => by
    have g1 := h1 N (by omega)
    have g2 := h2 N (by omega)
    rw [stN, stN] at h
    obtain ⟨e1, e2⟩ := stN_inj (fun t ht => h1 t (by omega) : ∀ t, t < N → v t < 8) (fun t ht => h2 t (by omega) : ∀ t, t < N → v' t < 8) (by omega : stN s v N = stN s' v' N)
    refine ⟨e1, fun t ht => ?_⟩
    by_cases e : t = N
    · subst e; omega
    · exact e2 t (by omega)
theorem b_shl24k (x : Int32) {i : Nat} (hi : i < 32) : bt (x <<< ((24 : Int32) &&& 31)) i = (decide (24 ≤ i) && bt x (i - 24)) := b_shl 24 (by omega) x hi
theorem ckey_iff {s s' : Nat} {p p' : Int32} {N : Nat} (h8 : N ≤ 8) (hs : s < 10) (hs' : s' < 10) (hz : cU N p N = 0) (hz' : cU N p' N = 0) : ckey (nI s) p = ckey (nI s') p' ↔ stM (nI s) (cU N p) N = stM (nI s') (cU N p') N := by
  have hv : ∀ p : Int32, ∃ v : Nat → Nat, ∀ t, t < N → v t < 8 ∧ cU N p t = nI (v t) := fun p =>
    ⟨fun t => (cU N p t).toNatClampNeg, fun t ht => by
      obtain ⟨k, hk, e⟩ := cU_lt p ht
      show (cU N p t).toNatClampNeg < 8 ∧ cU N p t = nI (cU N p t).toNatClampNeg
      rw [e, nI_clamp (by omega)]
      exact ⟨hk, rfl⟩⟩
  obtain ⟨v, hv1⟩ := hv p
  obtain ⟨v', hv2⟩ := hv p'
  have hp8 : 10 * 8 ^ N ≤ 10 * 8 ^ 8 := Nat.mul_le_mul_left 10 (Nat.pow_le_pow_right (by decide) h8)
  have l1 := stN_lt hs (fun t ht => (hv1 t ht).1 : ∀ t, t < N → v t < 8)
  have l2 := stN_lt hs' (fun t ht => (hv2 t ht).1 : ∀ t, t < N → v' t < 8)
  rw [stM_N (fun t ht => (hv1 t ht).2), stM_N (fun t ht => (hv2 t ht).2), nI_eq (by omega) (by omega)]
  have hi : ∀ {p : Int32}, cU N p N = 0 → ∀ i, 24 ≤ i → bt p i = false := by
    intro p hz i hi
    unfold cU at hz
    rw [if_neg (Nat.lt_irrefl N), if_pos rfl] at hz
    have e2 := congrArg (fun x => bt x (i - 3 * N)) hz
    simp only [bt_s _ (show 3 * N < 32 by omega), b_0] at e2
    rwa [show 3 * N + (i - 3 * N) = i by omega] at e2
  constructor
  · intro h
    have hb : ∀ i, i < 32 → bt (ckey (nI s) p) i = bt (ckey (nI s') p') i := fun i _ => by rw [h]
    have e1 : p = p' := by
      apply b_ext
      intro i hi32
      rcases Nat.lt_or_ge i 24 with g | g
      · have := hb i hi32
        unfold ckey at this
        rw [b_or, b_or, b_shl24k _ hi32, b_shl24k _ hi32] at this
        have g' : ¬ 24 ≤ i := by omega
        simpa [g'] using this
      · rw [hi hz i g, hi hz' i g]
    have e2 : nI s = nI s' := by
      apply b_ext
      intro i hi32
      rcases Nat.lt_or_ge i 8 with g | g
      · have := hb (i + 24) (by omega)
        unfold ckey at this
        rw [b_or, b_or, b_shl24k _ (by omega), b_shl24k _ (by omega), hi hz _ (by omega), hi hz' _ (by omega), Nat.add_sub_cancel] at this
        simpa using this
      · have g8 : ∀ s, s < 10 → ∀ i, i < 32 → 8 ≤ i → bt (nI s) i = false := by decide +kernel
        rw [g8 s hs i hi32 g, g8 s' hs' i hi32 g]
    have e3 : s = s' := (nI_eq (by omega) (by omega)).mp e2
    subst e1 e3
    have : ∀ t, t < N → v t = v' t := fun t ht => by
      have e4 := (hv1 t ht).2.symm.trans (hv2 t ht).2
      exact (nI_eq (by have := (hv1 t ht).1; omega) (by have := (hv2 t ht).1; omega)).mp e4
    have cong : ∀ M, M ≤ N → stN s v M = stN s v' M := by
      intro M
      induction M with
      | zero => intro _; rfl
      | succ M ih => intro hM; rw [stN, stN, ih (by omega), this M (by omega)]
    exact cong N (Nat.le_refl _)
  · intro h
    obtain ⟨e1, e2⟩ := stN_inj (fun t ht => (hv1 t ht).1) (fun t ht => (hv2 t ht).1) h
    have e3 : cU N p = cU N p' := by
      funext t
      rcases Nat.lt_trichotomy t N with g | g | g
      · rw [(hv1 t g).2, (hv2 t g).2, e2 t g]
      · rw [g, hz, hz']
      · unfold cU
        rw [if_neg (by omega), if_neg (by omega), if_neg (by omega), if_neg (by omega)]
    rw [e1, cU_inj h8 e3]
section
variable {n : Nat} {T : List sm_Sh} {I I' I1 : sm_MI} {L L' : sm_ML} {A : Nat → Nat → Int32} {H S N R ν lb b ν' lb' b' : Nat} {W : Nat → (Nat → Int32) → Int32} {f u : Nat → Int32}
theorem nst_hi {E : Nat → Nat → Int32} {z : w_St} {j : Nat} (h8 : N ≤ 8) (hj : N ≤ j) : ∀ w, (nst E W H N ν w z).1 j = z.1 j
  | 0 => rfl
  | w + 1 => by
    have ih := nst_hi (E := E) (z := z) h8 hj w
    show crU (nst E W H N ν w z).1 (w_o E H N w (strE E W N ν w (fvB E w (nst E W H N ν w z).2.2.1) (nst E W H N ν w z).2.1 (nst E W H N ν w z).1) (nst E W H N ν w z).1) _ j = _
    unfold w_o
    generalize strE E W N ν w (fvB E w (nst E W H N ν w z).2.2.1) (nst E W H N ν w z).2.1 (nst E W H N ν w z).1 = st
    cases ho : crO (E 0 0) N (decide (E 4 w = 1)) (w_a E H w st) (w_b E H w st) (nst E W H N ν w z).1 with
    | none => exact ih
    | some s =>
      obtain ⟨h1, _, h3⟩ := crO_some ho
      have := (thg_in h8 h1 (decide (E 4 w = 1))).1
      show upd _ s _ j = _
      rw [pk_un (by omega), ih]
theorem ngs_hi {E : Nat → Nat → Int32} {z : w_St} {j : Nat} (h8 : N ≤ 8) (hg : E 0 5 = -1) (hj : N ≤ j) : ∀ i, (ngs E W H S N ν i z).1 j = z.1 j
  | 0 => rfl
  | i + 1 => by
    show (ngt E W H S N (ν + i) (ngs E W H S N ν i z)).1 j = _
    rw [ngt_n hg, nst_hi h8 hj, ngs_hi h8 hg hj i]
theorem qMs_lt {pr fl a : Int32} (hp : ∃ p, p < 10 ∧ pr = nI p) : ∃ s, s < 10 ∧ qMs pr fl a = nI s := by
  obtain ⟨p, hp, e⟩ := hp
  unfold qMs
  by_cases h : pr ≤ 0
  · rw [if_pos h]; exact ⟨0, by decide, rfl⟩
  · rw [if_neg h]
    have h0 : 0 < p := by
      rcases Nat.eq_zero_or_pos p with g | g
      · exact absurd (by rw [e, g]; decide) h
      · exact g
    rw [e, qFM_nat h0 (by omega)]
    exact ⟨_, Nat.lt_trans (fmN_lt h0) hp, rfl⟩
theorem s_m_stand {F : Int32 → sm_MI → sm_ML → Prop} (hB : sm_Bs T) (hN : I 76 28 = nI N) (h8 : N ≤ 8) (hp : ∃ p, p < 10 ∧ I 76 29 = nI p) (h : F (stM (qMs (I 76 29) (I 76 30) (I 76 34)) (mU N (I 92)) N) I L) : sm_CI (n + 1) mX12_stand T I L [.ref 76] F := by
  refine c_X12_stand hB (fun x hx => ?_)
  have key : ∀ s, s = qMs (I 76 29) (I 76 30) (I 76 34) → ∀ d t, t + d = N → sm_V x 0 0 T I L 30 [some (.ref 76), some (.int (stM s (mU N (I 92)) t)), some (.int (nI t))] [] := by
    intro s hs d
    induction d with
    | zero =>
      intro t e
      have : t = N := by omega
      subst this
      subst hs
      exact u_X12_stand_30 hB hx ⟨fun _ => h, fun q => absurd (by rw [hN]; exact nI_le (Nat.le_refl _) (by omega)) q⟩
    | succ d ih =>
      intro t e
      refine u_X12_stand_30 hB hx ⟨fun q => absurd q (by rw [hN]; exact nI_ge (by omega) (by omega)), fun _ => ⟨vp_in_nI (by omega) (by decide), ?_⟩⟩
      have g := ih (t + 1) (by omega)
      rw [nI_clamp (by omega), nI_1, ← mU_at (N := N) (I 92) (show t < N by omega)]
      exact g
  obtain ⟨p, hp, ep⟩ := hp
  refine ⟨fun q => s_FM q ?_, fun q => key 0 ?_ N 0 (by omega)⟩
  · suffices eq : qFM (I 76 34 - I 76 30) (I 76 29) = qMs (I 76 29) (I 76 30) (I 76 34) by
      rw [eq]; exact key _ rfl N 0 (by omega)
    unfold qMs
    rw [if_neg]
    intro g
    rw [ep] at g q
    have : p = 0 := by
      rcases Nat.eq_zero_or_pos p with y | y
      · exact y
      · exact absurd g (nI_nle y (by omega))
    subst this
    exact q rfl
  · unfold qMs
    rw [q, if_pos (by decide)]
abbrev roS (A : Nat → Nat → Int32) (ν j : Nat) : Int32 := qMs (A 0 3) (A 0 4) (nI (ν + j))
/-- how it stands in night j, as the model keeps it -/
def roK (A : Nat → Nat → Int32) (W : Nat → (Nat → Int32) → Int32) (H S N ν lb : Nat) (u : Nat → Int32) (j : Nat) : Int32 := stM (roS A ν j) (nU0 A W H S N ν lb j u) N
/-- the model's round: at night k0 as in night j0 for the first time; or not within 200 -/
def roV (wh : Int32) (o : Option (Nat × Nat)) : Int32 := match o with
  | none => -1
  | some q => if wh = 0 then nI q.1 else nI q.2 - nI q.1
def roO (K : Nat → Int32) (o : Option (Nat × Nat)) : Prop := match o with
  | none => ∀ j k, j < k → k ≤ 200 → K j ≠ K k
  | some q => q.1 < q.2 ∧ q.2 ≤ 200 ∧ K q.1 = K q.2 ∧ (∀ j, j < q.1 → K j ≠ K q.2) ∧ ∀ j k, j < k → k < q.2 → K j ≠ K k
theorem m_round {F : Int32 → sm_MI → sm_ML → Prop} {wh : Int32} {o : Option (Nat × Nat)} (hR : RR A W H S N R ν lb b T I L) (h0 : 0 < H) (hwh : qW wh 0 1 = true) (ho : roO (roK A W H S N ν lb (mU N (I 92))) o)
    (h : ∀ I' L', RR A W H S N R ν lb b T I' L' → F (roV wh o) I' L') : sm_CI (n + 20) mX12_round T I L [.ref 76, .int wh] F := by
  have hB := hR.hB
  have v1 := hR.va.2.1
  have v4 := hR.va.2.2.2.1
  have hb := hR.bb
  have hν := hR.now.1
  obtain ⟨_, _, ⟨c1, c2, c3, c4, c5⟩, _, _⟩ := hR.st
  generalize hK : roK A W H S N ν lb (mU N (I 92)) = K at ho
  have hK' : ∀ j, stM (roS A ν j) (nU0 A W H S N ν lb j (mU N (I 92))) N = K j := fun j => by rw [← hK]; rfl
  refine c_X12_round hB (fun x hx => ⟨fun q => absurd q (by rw [c1]; exact nI_ne0 h0 (by omega)), fun _ => s_m_in hB ?_⟩)
  rw [hwh]
  refine ⟨fun _ => s_m_aside2 hB (fun I2 ha h92 h34 hrest => ?_), fun y => absurd y (by decide)⟩
  have hD0 : mD (E0 A lb 0) H S N I I2 := mD_frQ (mD_now hR) ha.1
  -- the end
  have fin : ∀ (I3 : sm_MI) (v w : Int32), mAs I I3 → (if wh = 0 then v else w) = roV wh o → sm_CV (n + 19) mX12_takeBack T I3 L [.ref 76] (fun I1 L1 => (¬ wh = 0 → F w I1 L1) ∧ (wh = 0 → F v I1 L1)) := by
    intro I3 v w ha3 hv
    refine s_m_back hR ha3 (fun I5 _ _ hR5 => ?_)
    have g := h I5 L hR5
    rw [← hv] at g
    refine ⟨fun y => ?_, fun y => ?_⟩
    · rw [if_neg y] at g; exact g
    · rw [if_pos y] at g; exact g
  have calm : ∀ (k : Nat) (I3 : sm_MI) (G : sm_MI → sm_ML → Prop), mAs I I3 → mD (E0 A lb 0) H S N I I3 → I3 76 34 = nI (ν + k) → mU N (I3 92) = nU0 A W H S N ν lb k (mU N (I 92)) → (∀ I4 : sm_MI, mAs I I4 → mD (E0 A lb 0) H S N I I4 → I4 76 34 = nI (ν + (k + 1)) → mU N (I4 92) = nU0 A W H S N ν lb (k + 1) (mU N (I 92)) → I4 99 = I3 99 → G I4 L) → sm_CV (n + 19) mX12_calmNight T I3 L [.ref 76] G := by
    intro k I3 G ha3 hD3 hn3 hu3 hG
    refine s_m_calmNight (n := n + 12) (E := E0 A lb 0) (z := ngs (E0 A lb 0) W H S N ν k (zz (mU N (I 92)))) hB hR.ml (vE_mk hR.va h0) hR.now.2.1 rfl rfl hD3 hn3 hu3 (fun I4 f4 hD4 hn4 hu4 _ => hG I4 (ha3.go f4) hD4 hn4 ?_ (f4.at 99 (fun _ => rfl)))
    rw [hu4]
    show _ = (ngt (E0 A lb 0) W H S N (ν + k) (ngs (E0 A lb 0) W H S N ν k (zz (mU N (I 92))))).1
    rw [ngt_n rfl]
  have stand : ∀ (k : Nat) (I3 : sm_MI) (G : Int32 → sm_MI → sm_ML → Prop), mD (E0 A lb 0) H S N I I3 → I3 76 34 = nI (ν + k) → mU N (I3 92) = nU0 A W H S N ν lb k (mU N (I 92)) → G (K k) I3 L → sm_CI (n + 19) mX12_stand T I3 L [.ref 76] G := by
    intro k I3 G hD3 hn3 hu3 hG
    obtain ⟨d1, d2, d3, d4, d5⟩ := hD3.1.1
    refine s_m_stand (n := n + 18) hB d3 v4 (by rw [d4]; exact hR.va.2.2.2.2.2.2.1) ?_
    rw [d4, d5, hn3, hu3]
    have := hK' k
    unfold roS at this
    rw [show stM (qMs (E0 A lb 0 0 3) (E0 A lb 0 0 4) (nI (ν + k))) (nU0 A W H S N ν lb k (mU N (I 92))) N = K k from this]
    exact hG
  -- nothing found yet, night k
  have key : ∀ d k (I3 : sm_MI) (u5 : Option Value), k + d = 201 → (∀ q, o = some q → k ≤ q.2) → mAs I I3 → mD (E0 A lb 0) H S N I I3 → I3 76 34 = nI (ν + k) → mU N (I3 92) = nU0 A W H S N ν lb k (mU N (I 92)) → (∀ j, j < k → I3 99 j = K j) → sm_V x 0 0 T I3 L 29 [some (.ref 76), some (.int wh), some (.int (-1)), some (.int (-1)), some (.int (nI k)), u5] [] := by
    intro d
    induction d with
    | zero =>
      intro k I3 u5 e hle ha3 hD3 hn3 hu3 h99
      have hk : k = 201 := by omega
      subst hk
      refine u_X12_round_29 hB hx ⟨fun _ => fin I3 _ _ ha3 ?_, fun q => absurd (nI_lt (a := 200) (b := 201) (by decide) (by decide)) q⟩
      cases o with
      | none => unfold roV; split <;> rfl
      | some q => have := hle q rfl; have := ho.2.1; omega
    | succ d ih =>
      intro k I3 u5 e hle ha3 hD3 hn3 hu3 h99
      refine u_X12_round_29 hB hx ⟨fun q => absurd q (nI_nlt (a := 200) (by omega) (by omega)), fun _ => ⟨fun q => absurd rfl q, fun _ => stand k I3 _ hD3 hn3 hu3 ⟨vp_in_nI (by omega) (by decide), ?_⟩⟩⟩
      rw [nI_clamp (by omega)]
      have ha4 : mAs I (sm_uI I3 99 k (K k)) := ⟨ha3.1.u rfl, fun j hj => by rw [sm_uI_ne (by decide)]; exact ha3.2.1 j hj, ha3.2.2⟩
      have hD4 : mD (E0 A lb 0) H S N I (sm_uI I3 99 k (K k)) := mD_frQ hD3 (Fr.rf.u rfl)
      have h99' : ∀ j, j < k + 1 → (sm_uI I3 99 k (K k)) 99 j = K j := by
        intro j hj
        rw [sm_uI_at]
        by_cases e : j = k
        · subst e; rw [pk_us]
        · rw [pk_un e]; exact h99 j (by omega)
      have hu4 : mU N ((sm_uI I3 99 k (K k)) 92) = nU0 A W H S N ν lb k (mU N (I 92)) := by rw [sm_uI_ne (by decide)]; exact hu3
      have hn4 : (sm_uI I3 99 k (K k)) 76 34 = nI (ν + k) := hn3
      generalize sm_uI I3 99 k (K k) = I4 at ha4 hD4 h99' hu4 hn4 ⊢
      have inner : ∀ d2 i, i + d2 = k → (∀ j, j < i → K j ≠ K k) → sm_V x 0 0 T I4 L 56 [some (.ref 76), some (.int wh), some (.int (-1)), some (.int (-1)), some (.int (nI k)), some (.int (nI i))] [] := by
        intro d2
        induction d2 with
        | zero =>
          intro i e2 hne
          have : i = k := by omega
          subst this
          refine u_X12_round_56 hB hx ⟨fun _ => calm i I4 _ ha4 hD4 hn4 hu4 (fun I5 ha5 hD5 hn5 hu5 e99 => ?_), fun q => absurd (nI_le (Nat.le_refl _) (by omega)) q⟩
          rw [nI_1]
          refine ih (i + 1) I5 _ (by omega) (fun q hq => ?_) ha5 hD5 hn5 hu5 (fun j hj => by rw [e99]; exact h99' j hj)
          have h1 := hle q hq
          rcases Nat.lt_or_ge i q.2 with g | g
          · omega
          · subst hq
            have : i = q.2 := by omega
            exact absurd (by rw [this]; exact ho.2.2.1) (hne q.1 (by have := ho.1; omega))
        | succ d2 ih2 =>
          intro i e2 hne
          refine u_X12_round_56 hB hx ⟨fun q => absurd q (nI_ge (by omega) (by omega)), fun _ => ⟨fun q => absurd rfl q, fun _ => ⟨vp_in_nI (by omega) (by decide), vp_in_nI (by omega) (by decide), ?_⟩⟩⟩
          rw [nI_clamp (by omega), nI_clamp (by omega), h99' i (by omega), h99' k (by omega), nI_1]
          refine ⟨fun q => ih2 (i + 1) (by omega) (fun j hj => ?_), fun q => ?_⟩
          · by_cases e3 : j = i
            · subst e3; exact q
            · exact hne j (by omega)
          · -- found
            have hq : ∃ q2, o = some q2 := by
              cases o with
              | none => exact absurd q (ho i k (by omega) (by omega))
              | some q2 => exact ⟨q2, rfl⟩
            obtain ⟨q2, hq2⟩ := hq
            subst hq2
            obtain ⟨o1, o2, o3, o4, o5⟩ := ho
            have hk2 : k = q2.2 := by
              have h1 := hle q2 rfl
              rcases Nat.lt_or_ge k q2.2 with g | g
              · exact absurd q (o5 i k (by omega) g)
              · omega
            have hi2 : i = q2.1 := by
              rcases Nat.lt_trichotomy i q2.1 with g | g | g
              · exact absurd (by rw [← hk2]; exact q) (o4 i g)
              · exact g
              · exact absurd (by rw [hk2]; exact o3) (hne q2.1 g)
            have ne1 : nI i ≠ -1 := by
              intro g
              have h1 : (nI i).toInt = (-1 : Int32).toInt := by rw [g]
              rw [nI_toInt (by omega)] at h1
              have : (-1 : Int32).toInt = -1 := by decide
              omega
            have last : ∀ u5, ∀ I5 : sm_MI, mAs I I5 → sm_V x 0 0 T I5 L 29 [some (.ref 76), some (.int wh), some (.int (nI i)), some (.int (nI k - nI i)), some (.int (nI k + 1)), u5] [] := by
              intro u5 I5 ha5
              have hv : (if wh = 0 then nI i else nI k - nI i) = roV wh (some q2) := by unfold roV; rw [hk2, hi2]
              exact u_X12_round_29 hB hx ⟨fun _ => fin I5 _ _ ha5 hv, fun _ => ⟨fun _ => fin I5 _ _ ha5 hv, fun y => absurd y ne1⟩⟩
            refine u_X12_round_56 hB hx ⟨fun _ => calm k I4 _ ha4 hD4 hn4 hu4 (fun I5 ha5 hD5 hn5 hu5 e99 => last _ I5 ha5), fun _ => ⟨fun _ => calm k I4 _ ha4 hD4 hn4 hu4 (fun I5 ha5 hD5 hn5 hu5 e99 => last _ I5 ha5), fun y => absurd y ne1⟩⟩
      exact inner k 0 (by omega) (fun j hj => absurd hj (by omega))
  exact key 201 0 I2 none (by omega) (fun q _ => by omega) ha hD0 (h34.trans hR.n34) (by rw [h92]; rfl) (fun j hj => absurd hj (by omega))
end
