/-! ===== homing of the model's ===== -/
def hmB (u v : Nat → Int32) : Nat → Bool
  | 0 => true
  | t + 1 => hmB u v t && decide (u t = v t)
theorem hmB_iff {u v : Nat → Int32} : ∀ n, hmB u v n = true ↔ ∀ t, t < n → u t = v t
  | 0 => ⟨fun _ t ht => absurd ht (by omega), fun _ => rfl⟩
  | n + 1 => by
    rw [hmB, Bool.and_eq_true, hmB_iff n, decide_eq_true_eq]
    constructor
    · rintro ⟨h1, h2⟩ t ht
      by_cases e : t = n
      · rw [e]; exact h2
      · exact h1 t (by omega)
    · intro h
      exact ⟨fun t ht => h t (by omega), h n (by omega)⟩
section
variable {n : Nat} {T : List sm_Sh} {I I' I1 I0 : sm_MI} {L L' : sm_ML} {A : Nat → Nat → Int32} {H S N R ν lb b ν' lb' b' t w : Nat} {W : Nat → (Nat → Int32) → Int32} {f u : Nat → Int32} {g g' hh s : Int32}
theorem hmB_st {v : Nat → Int32} (hH : H ≤ 8) (hu : gR H N u) (hv : gR H N v) : hmB u v N = decide (stF H (vO u) N = stF H (vO v) N) := by
  by_cases q : stF H (vO u) N = stF H (vO v) N
  · rw [decide_eq_true q, hmB_iff]
    intro t ht
    have e := stF_inj (fun t ht => (vO_in hH hu ht).1) (fun t ht => (vO_in hH hv ht).1) q t ht
    rw [(vO_in hH hu ht).2, (vO_in hH hv ht).2, e]
  · rw [decide_eq_false q, Bool.eq_false_iff]
    intro g
    rw [hmB_iff] at g
    exact q (stF_cong (fun t ht => by unfold vO; rw [g t ht]))
theorem s_mX_back2 {F : sm_MI → sm_ML → Prop} {I2 : sm_MI} (hB : sm_Bs T) (h8 : N ≤ 8) (h : mX N ν f u I I1) (ha : mAs I1 I2) (hF : ∀ I', mX N ν f u I I' → I' 106 = I2 106 → F I' L) : sm_CV n mX12_takeBack T I2 L [.ref 76] F := by
  obtain ⟨h1, h2, h3, h4, h5⟩ := h
  have hf : Fr qMQ I1 (sm_uI (sm_fill I2 92 8 (I2 97)) 76 34 (I2 76 44)) := (ha.1.f (fun _ => rfl)).u rfl
  refine s_m_takeBack hB (hF _ ⟨h1.tr (hf.mono MQ_X), ?_, ?_, fun w hw => ?_, fun w hw => ?_⟩ ?_)
  · rw [← h2]
    funext t
    unfold mU
    by_cases ht : t < N
    · rw [if_pos ht, if_pos ht, sm_uI_ne (by decide)]
      have : t < 8 := by omega
      simp only [sm_fill, if_true, this]
      exact ha.2.1 t this
    · rw [if_neg ht, if_neg ht]
  · rw [sm_uI_at, pk_us, ha.2.2, h3]
  · rw [hf.at 93 (fun _ => rfl)]; exact h4 w hw
  · rw [hf.at 93 (fun _ => rfl)]; exact h5 w hw
  · rw [sm_uI_ne (by decide)]; funext j; simp [sm_fill]
theorem s_m_comeHome {F : Bool → sm_MI → sm_ML → Prop} {k : Nat} (hR : RR A W H S N R ν lb b T I L) (h0 : 0 < H) (hk : k < 2 ^ 30) (hX : mX N ν (fun _ => -1) u I I1)
    (h : ∀ I', mX N ν (fun _ => -1) u I I' → I' 106 = I1 106 → F (hmB (nU0 A W H S N ν lb k u) (mU N (I 90)) N) I' L) : sm_CZ (n + 9) mX12_comeHome T I1 L [.ref 76, .int (nI k)] F := by
  have hB := hR.hB
  have v4 := hR.va.2.2.2.1
  refine c_X12_comeHome hB (fun x hx => s_m_aside2 hB (fun I3 ha h92 h34 hrest => s_m_calmNights (n := n) (E := E0 A lb 0) (z := zz u) hB (mX_ml hR hX) (vE_mk hR.va h0) hR.now.2.1 rfl rfl rfl hk (mD_frQ (mX_D hR hX) ha.1) (h34.trans hX.2.2.1) (by rw [h92]; exact hX.2.1) (fun I4 f4 hD4 _ hu4 => ?_)))
  have e28 : I4 76 28 = nI N := hD4.1.1.2.2.1
  have e90 : I4 90 = I 90 := by rw [f4.at 90 (fun _ => rfl), hrest 90 (by decide) (by decide), hX.1.at 90 (fun _ => rfl)]
  have e106 : I4 106 = I1 106 := by rw [f4.at 106 (fun _ => rfl), hrest 106 (by decide) (by decide)]
  have hu4' : mU N (I4 92) = nU0 A W H S N ν lb k u := hu4
  have key : ∀ d t, t + d = N → sm_V x 0 0 T I4 L 13 [some (.ref 76), some (.int (nI k)), some (.int (sm_z (hmB (nU0 A W H S N ν lb k u) (mU N (I 90)) t))), some (.int (nI t))] [] := by
    intro d
    induction d with
    | zero =>
      intro t e
      have : t = N := by omega
      subst this
      exact u_X12_comeHome_13 hB hx ⟨fun _ => s_mX_back2 hB v4 hX (ha.go f4) (fun I5 hX5 e5 => h I5 hX5 (e5.trans e106)), fun q => absurd (by rw [e28]; exact nI_le (Nat.le_refl _) (by omega)) q⟩
    | succ d ih =>
      intro t e
      have go := ih (t + 1) (by omega)
      rw [hmB] at go
      refine u_X12_comeHome_13 hB hx ⟨fun q => absurd q (by rw [e28]; exact nI_ge (by omega) (by omega)), fun _ => ⟨fun q => ?_, fun q => ⟨vp_in_nI (by omega) (by decide), vp_in_nI (by omega) (by decide), ?_⟩⟩⟩
      · rw [q, Bool.false_and] at go; rw [nI_1]; exact go
      · rw [q, Bool.true_and] at go
        rw [nI_clamp (by omega), nI_1, e90, ← mU_at (N := N) (I4 92) (show t < N by omega), hu4', ← mU_at (N := N) (I 90) (show t < N by omega)]
        refine ⟨fun y => ?_, fun y => ?_⟩
        · rw [decide_eq_false y] at go; exact go
        · rw [decide_eq_true y] at go; exact go
  exact key N 0 (by omega)
theorem m_homing {F : Int32 → sm_MI → sm_ML → Prop} {k : Nat} {wh : Int32} {c : Nat → Bool} (hR : RR A W H S N R ν lb b T I L) (h0 : 0 < H) (hH6 : H ≤ 6) (hN4 : N ≤ 4) (hk1 : 1 ≤ k) (hk2 : k ≤ 60) (hwh : qW wh 0 1 = true)
    (hc : ∀ s, s < H ^ N → hmB (nU0 A W H S N ν lb k (plL H N s)) (mU N (I 90)) N = c s)
    (hG : ∀ I' L', RR A W H S N R ν lb b T I' L' → F (if (hoM c (fun s => elC (plL H N s) (mU N (I 92)) N) (fun s => dgF (vO (plL H N s)) N) (H ^ N)).1 = -1 then -1 else if wh = 0 then (hoM c (fun s => elC (plL H N s) (mU N (I 92)) N) (fun s => dgF (vO (plL H N s)) N) (H ^ N)).2 else (hoM c (fun s => elC (plL H N s) (mU N (I 92)) N) (fun s => dgF (vO (plL H N s)) N) (H ^ N)).1) I' L') : sm_CI (n + 20) mX12_homing T I L [.ref 76, .int (nI k), .int wh] F := by
  have hB := hR.hB
  have v4 := hR.va.2.2.2.1
  obtain ⟨_, _, ⟨c1, c2, c3, c4, c5⟩, _, _⟩ := hR.st
  have hM : H ^ N ≤ 1296 := by
    have h1 : H ^ N ≤ 6 ^ N := Nat.pow_le_pow_left hH6 N
    have h2 : 6 ^ N ≤ 6 ^ 4 := Nat.pow_le_pow_right (by decide) hN4
    have h3 : 6 ^ 4 = 1296 := by decide
    omega
  generalize hmv : (fun s => elC (plL H N s) (mU N (I 92)) N) = mv at hG
  generalize hdg : (fun s => dgF (vO (plL H N s)) N) = dg at hG
  have hmv' : ∀ s, elC (plL H N s) (mU N (I 92)) N = mv s := fun s => by rw [← hmv]
  have hdg' : ∀ s, dgF (vO (plL H N s)) N = dg s := fun s => by rw [← hdg]
  refine c_X12_homing hB (fun x hx => ⟨fun q => absurd q (by rw [c1]; exact nI_ne0 h0 (by omega)), fun _ => ⟨fun q => absurd (by rw [c3] at q; exact q) (nI_nlt (a := 4) (by omega) (by omega)), fun _ => ⟨fun q => absurd (by rw [c1] at q; exact q) (nI_nlt (a := 6) (by omega) (by omega)), fun _ => s_m_in hB ?_⟩⟩⟩)
  rw [hwh]
  refine ⟨fun _ => s_m_areNights hB ?_, fun y => absurd y (by decide)⟩
  rw [c1, an_ok h0 (by omega), q_60 hk1 hk2]
  refine ⟨fun _ => ?_, fun y => absurd y (by decide)⟩
  -- the end
  have l245 : ∀ d t (J : sm_MI) (u : Nat → Int32) (a4 a5 : Int32) (u7 u8 u9 u10 u11 : Option Value), t + d = N → mX N ν (fun _ => -1) u I J → (∀ y, y < t → u y = mU N (I 92) y) → (∀ y, y < N → J 106 y = I 92 y) → (a4, a5) = hoM c mv dg (H ^ N) → sm_V x 0 0 T J L 245 [some (.ref 76), some (.int (nI k)), some (.int wh), some (.int (nI (H ^ N))), some (.int a4), some (.int a5), some (.int (nI t)), u7, u8, u9, u10, u11] [] := by
    intro d
    induction d with
    | zero =>
      intro t J u a4 a5 u7 u8 u9 u10 u11 e hX hu h106 ha
      have ht : t = N := by omega
      subst ht
      have e28 : J 76 28 = nI t := (hX.1 76 28 rfl).trans c3
      have euu : u = mU t (I 92) := by
        funext y
        rcases Nat.lt_or_ge y t with q | q
        · exact hu y q
        · rw [← hX.2.1]; unfold mU; rw [if_neg (by omega), if_neg (by omega)]
      subst euu
      have hg := hG J L (mX_RR hR hX)
      rw [← ha] at hg
      refine u_X12_homing_245 hB hx ⟨fun _ => ⟨fun y => ⟨fun y2 => ?_, fun y2 => ?_⟩, fun y => ?_⟩, fun q => absurd (by rw [e28]; exact nI_le (Nat.le_refl _) (by omega)) q⟩
      · rw [if_neg y, if_neg y2] at hg; exact hg
      · rw [if_neg y, if_pos y2] at hg; exact hg
      · rw [if_pos y] at hg; exact hg
    | succ d ih =>
      intro t J u a4 a5 u7 u8 u9 u10 u11 e hX hu h106 ha
      have e28 : J 76 28 = nI N := (hX.1 76 28 rfl).trans c3
      refine u_X12_homing_245 hB hx ⟨fun q => absurd q (by rw [e28]; exact nI_ge (by omega) (by omega)), fun _ => ⟨vp_in_nI (by omega) (by decide), vp_in_nI (by omega) (by decide), ?_⟩⟩
      rw [nI_clamp (by omega), h106 t (by omega), nI_1]
      refine ih (t + 1) _ _ a4 a5 _ _ _ _ _ (by omega) (mX_lie hX (show t < N by omega)) (fun y hy => ?_) (fun y hy => by rw [sm_uI_ne (by decide)]; exact h106 y hy) ha
      by_cases ey : y = t
      · subst ey; rw [pk_us, mU_at _ (by omega)]
      · rw [pk_un ey]; exact hu y (by omega)
  -- over all starts
  have l97 : ∀ d s (J : sm_MI) (u : Nat → Int32) (u7 u8 u9 u10 u11 : Option Value), s + d = H ^ N → mX N ν (fun _ => -1) u I J → (∀ y, y < N → J 106 y = I 92 y) → sm_V x 0 0 T J L 97 [some (.ref 76), some (.int (nI k)), some (.int wh), some (.int (nI (H ^ N))), some (.int (hoM c mv dg s).1), some (.int (hoM c mv dg s).2), some (.int (nI s)), u7, u8, u9, u10, u11] [] := by
    intro d
    induction d with
    | zero =>
      intro s J u u7 u8 u9 u10 u11 e hX h106
      have hs : s = H ^ N := by omega
      refine u_X12_homing_97 hB hx ⟨fun _ => l245 N 0 J u _ _ _ _ _ _ _ (by omega) hX (fun y hy => absurd hy (by omega)) h106 (by rw [← hs]), fun q => absurd (by rw [hs]; exact nI_le (Nat.le_refl _) (by omega)) q⟩
    | succ d ih =>
      intro s J u u7 u8 u9 u10 u11 e hX h106
      have hs : s < H ^ N := by omega
      have e28 : J 76 28 = nI N := (hX.1 76 28 rfl).trans c3
      refine u_X12_homing_97 hB hx ⟨fun q => absurd q (nI_ge (by omega) (by omega)), fun _ => ?_⟩
      rw [e28]
      have inner : ∀ kk dd (J : sm_MI) (u : Nat → Int32), kk + dd = N → mX N ν (fun _ => -1) u I J → (∀ y, kk ≤ y → y < N → u y = plL H N s y) → (∀ y, y < N → J 106 y = I 92 y) → sm_V x 0 0 T J L 124 [some (.ref 76), some (.int (nI k)), some (.int wh), some (.int (nI (H ^ N))), some (.int (hoM c mv dg s).1), some (.int (hoM c mv dg s).2), some (.int (nI s)), some (.int (nI (s / H ^ dd))), some (.int (nI (dgS (dgt H N s) N dd))), some (.int (nI (10 ^ dd))), some (.int (nI (cnS (fun t => decide (plL H N s t ≠ mU N (I 92) t)) N dd))), some (.int (nI kk - 1))] [] := by
        intro kk
        induction kk with
        | zero =>
          intro dd J u e2 hX hu h106
          have hdd : dd = N := by omega
          subst hdd
          have euu : u = plL H dd s := by
            funext y
            rcases Nat.lt_or_ge y dd with q | q
            · exact hu y (by omega) q
            · rw [← hX.2.1, pl_hi q]; unfold mU; rw [if_neg (by omega)]
          subst euu
          have ed : dgS (dgt H dd s) dd dd = dg s := by
            rw [dgS_all, ← hdg' s]
            exact stF_cong (fun t ht => (vO_pl h0 (by omega) ht).symm)
          have ep : cnS (fun t => decide (plL H dd s t ≠ mU dd (I 92) t)) dd dd = mv s := by
            rw [cnS_all, ← hmv' s]; rfl
          rw [ed, ep]
          have es : hoM c mv dg (s + 1) = if ((hoM c mv dg s).1 = -1 ∨ ¬ (hoM c mv dg s).2 ≤ nI (mv s)) ∧ c s = true then (nI (dg s), nI (mv s)) else hoM c mv dg s := rfl
          have on : ∀ (J2 : sm_MI) (o : Bool), mX dd ν (fun _ => -1) (plL H dd s) I J2 → (∀ y, y < dd → J2 106 y = I 92 y) → ((hoM c mv dg s).1 = -1 ∨ ¬ (hoM c mv dg s).2 ≤ nI (mv s)) → o = c s →
              (o = false → sm_V x 0 0 T J2 L 97 [some (.ref 76), some (.int (nI k)), some (.int wh), some (.int (nI (H ^ dd))), some (.int (hoM c mv dg s).1), some (.int (hoM c mv dg s).2), some (.int (nI s + 1)), some (.int (nI (s / H ^ dd))), some (.int (nI (dg s))), some (.int (nI (10 ^ dd))), some (.int (nI (mv s))), some (.int (nI 0 - 1))] []) ∧ (o = true → sm_V x 0 0 T J2 L 97 [some (.ref 76), some (.int (nI k)), some (.int wh), some (.int (nI (H ^ dd))), some (.int (nI (dg s))), some (.int (nI (mv s))), some (.int (nI s + 1)), some (.int (nI (s / H ^ dd))), some (.int (nI (dg s))), some (.int (nI (10 ^ dd))), some (.int (nI (mv s))), some (.int (nI 0 - 1))] []) := by
            intro J2 o hX2 h2 hcond ho
            have go := ih (s + 1) J2 _ (some (.int (nI (s / H ^ dd)))) (some (.int (nI (dg s)))) (some (.int (nI (10 ^ dd)))) (some (.int (nI (mv s)))) (some (.int (nI 0 - 1))) (by omega) hX2 h2
            rw [es] at go
            rw [nI_1]
            refine ⟨fun z => ?_, fun z => ?_⟩
            · rw [if_neg (fun y => by rw [← ho, z] at y; exact absurd y.2 (by decide))] at go; exact go
            · rw [if_pos ⟨hcond, by rw [← ho, z]⟩] at go; exact go
          refine u_X12_homing_124 hB hx ⟨fun _ => ⟨fun q => s_m_comeHome (n := n + 10) hR h0 (by omega) hX (fun J2 hX2 e106 => ?_), fun q => ⟨fun r => ?_, fun r => s_m_comeHome (n := n + 10) hR h0 (by omega) hX (fun J2 hX2 e106 => ?_)⟩⟩, fun q => absurd (by decide) q⟩
          · rw [hc s hs]
            exact on J2 _ hX2 (fun y hy => by rw [e106]; exact h106 y hy) (Or.inl q) rfl
          · have go := ih (s + 1) J _ (some (.int (nI (s / H ^ dd)))) (some (.int (nI (dg s)))) (some (.int (nI (10 ^ dd)))) (some (.int (nI (mv s)))) (some (.int (nI 0 - 1))) (by omega) hX h106
            rw [es, if_neg (fun y => y.1.elim q (fun z => z r))] at go
            rw [nI_1]
            exact go
          · rw [hc s hs]
            exact on J2 _ hX2 (fun y hy => by rw [e106]; exact h106 y hy) (Or.inr r) rfl
        | succ kk ihk =>
          intro dd J u e2 hX hu h106
          have hkN : kk < N := by omega
          have e1 : nI (kk + 1) - 1 = nI kk := pk_sub (a := kk + 1) (b := 1) (by omega)
          have e26 : J 76 26 = nI H := (hX.1 76 26 rfl).trans c1
          have hdv : s / H ^ dd < 2 ^ 31 := by have := Nat.div_le_self s (H ^ dd); omega
          have hrem : nI (s / H ^ dd) - nI (s / H ^ dd) / nI H * nI H = nI (dgt H N s kk) := by
            unfold dgt
            rw [pk_rem hdv h0 (by omega), show N - 1 - kk = dd by omega]
          have hdiv : nI (s / H ^ dd) / nI H = nI (s / H ^ (dd + 1)) := by
            rw [pk_div hdv h0 (by omega), Nat.div_div_eq_div_mul, ← Nat.pow_succ]
          have hd : dgt H N s kk < H := Nat.mod_lt _ h0
          rw [e1]
          refine u_X12_homing_124 hB hx ⟨fun q => absurd q (nI_pos (by omega)), fun _ => ⟨by rw [e26]; exact nI_ne0 h0 (by omega), vp_in_nI (by omega) (by decide), fun I5 h5 => ⟨vp_in_nI (by omega) (by decide), fun v6 h6 => ⟨vp_in_nI (by omega) (by decide), vp_in_nI (by omega) (by decide), ?_⟩⟩⟩⟩
          rw [e26, hrem, nI_clamp (by omega)] at h5
          rw [nI_clamp (by omega)] at h6 ⊢
          have e92 : I5 92 kk = nI (dgt H N s kk) := by rw [h5, sm_uI_at, pk_us]
          have e106 : ∀ y, y < N → I5 106 y = I 92 y := fun y hy => by rw [h5, sm_uI_ne (by decide)]; exact h106 y hy
          have e26' : I5 76 26 = nI H := by rw [h5]; exact e26
          have epl : plL H N s kk = nI (dgt H N s kk) := by unfold plL; rw [if_pos hkN]
          have hX5 : mX N ν (fun _ => -1) (upd u kk (nI (dgt H N s kk))) I I5 := by rw [h5]; exact mX_lie hX hkN
          have hu5 : ∀ y, kk ≤ y → y < N → upd u kk (nI (dgt H N s kk)) y = plL H N s y := by
            intro y h1 h2
            by_cases ey : y = kk
            · subst ey; rw [pk_us, epl]
            · rw [pk_un ey]; exact hu y (by omega) h2
          have e6 : v6 = nI (dgS (dgt H N s) N (dd + 1)) := by
            rw [h6, e92, pk_mul, nI_add, dgS, show N - 1 - dd = kk by omega]
          have e10 : nI (10 ^ dd) * 10 = nI (10 ^ (dd + 1)) := by
            rw [Nat.pow_succ]; exact pk_mul (10 ^ dd) 10
          have e2' : nI kk + (-1) = nI kk - 1 := by rw [Int32.sub_eq_add_neg]
          have go := ihk (dd + 1) I5 _ (by omega) hX5 hu5 e106
          rw [cnS, show N - 1 - dd = kk by omega] at go
          clear h5
          rw [e92, e106 kk hkN, e26', hdiv, e6, e10, e2', ← mU_at (N := N) (I 92) hkN, ← epl]
          refine ⟨fun q => ⟨nI_ne0 h0 (by omega), ?_⟩, fun q => ⟨nI_ne0 h0 (by omega), ?_⟩⟩
          · rw [if_neg (by simpa using q), Nat.add_zero] at go
            rw [Int32.add_zero]; exact go
          · rw [if_pos (by simpa using q)] at go
            rw [nI_1]; exact go
      have go := inner N 0 J u (by omega) hX (fun y h1 h2 => absurd h1 (by omega)) h106
      rw [Nat.pow_zero, Nat.div_one] at go
      exact go
  -- own kept
  have l52 : ∀ d t (J : sm_MI), t + d = N → mX N ν (fun _ => -1) (mU N (I 92)) I J → J 92 = I 92 → (∀ y, y < t → J 106 y = I 92 y) → sm_V x 0 0 T J L 52 [some (.ref 76), some (.int (nI k)), some (.int wh), some (.int (nI (H ^ t))), some (.int (nI t)), none, none, none, none, none, none, none] [] := by
    intro d
    induction d with
    | zero =>
      intro t J e hX h92 h106
      have : t = N := by omega
      subst this
      have e28 : J 76 28 = nI t := (hX.1 76 28 rfl).trans c3
      exact u_X12_homing_52 hB hx ⟨fun _ => l97 (H ^ t) 0 J _ _ _ _ _ _ (by omega) hX h106, fun q => absurd (by rw [e28]; exact nI_le (Nat.le_refl _) (by omega)) q⟩
    | succ d ih =>
      intro t J e hX h92 h106
      have e28 : J 76 28 = nI N := (hX.1 76 28 rfl).trans c3
      refine u_X12_homing_52 hB hx ⟨fun q => absurd q (by rw [e28]; exact nI_ge (by omega) (by omega)), fun _ => ⟨vp_in_nI (by omega) (by decide), vp_in_nI (by omega) (by decide), fun I1 h1 => ?_⟩⟩
      rw [nI_clamp (by omega)] at h1
      have e26 : I1 76 26 = nI H := by rw [h1]; exact (hX.1 76 26 rfl).trans c1
      have e3 : nI (H ^ t) * nI H = nI (H ^ (t + 1)) := by rw [Nat.pow_succ]; exact pk_mul _ _
      rw [e26, e3, nI_1, h1]
      obtain ⟨x1, x2, x3, x4, x5⟩ := hX
      refine ih (t + 1) _ (by omega) ⟨x1.u rfl, by rw [sm_uI_ne (by decide)]; exact x2, x3, fun w hw => by rw [sm_uI_ne (by decide)]; exact x4 w hw, fun w hw => by rw [sm_uI_ne (by decide)]; exact x5 w hw⟩ (by rw [sm_uI_ne (by decide)]; exact h92) (fun y hy => ?_)
      rw [sm_uI_at]
      by_cases ey : y = t
      · subst ey; rw [pk_us, h92]
      · rw [pk_un ey]; exact h106 y (by omega)
  exact l52 N 0 I (by omega) (mX_rf hR) rfl (fun y hy => absurd hy (by omega))
theorem p_homing {G : Int32 → Int32 → sm_MI → sm_ML → Prop} {m wh : Int32} (hR : RR A W H S N R ν lb b T I L) (h : ∀ v I' L', RR A W H S N R ν lb b T I' L' → G v v I' L') :
    sm_CI (n + 20) mX11_homing T I L [.ref 0, .int m, .int wh] (fun r1 I1 L1 => sm_CI (n + 20) mX12_homing T I1 L1 [.ref 76, .int m, .int wh] (fun r2 I2 L2 => G r1 r2 I2 L2)) := by
  have hB := hR.hB
  obtain ⟨⟨a1, a2, a3, a4, a5⟩, aw, ⟨c1, c2, c3, c4, c5⟩, _, c6, c7⟩ := hR.st
  have v1 := hR.va.2.1
  have v4 := hR.va.2.2.2.1
  have bad : (H = 0 ∨ 4 < N ∨ 6 < H ∨ qW wh 0 1 = false) → sm_CI (n + 20) mX12_homing T I L [.ref 76, .int m, .int wh] (fun r2 I2 L2 => G (-1000000) r2 I2 L2) := by
    intro w
    refine c_X12_homing hB (fun x hx => ⟨fun _ => h _ _ _ hR, fun q1 => ⟨fun _ => h _ _ _ hR, fun q2 => ⟨fun _ => h _ _ _ hR, fun q3 => s_m_in hB ⟨fun q4 => ?_, fun _ => h _ _ _ hR⟩⟩⟩⟩)
    rcases w with w | w | w | w
    · exact absurd (by rw [c1, w]; rfl) q1
    · exact absurd (by rw [c3]; exact nI_lt (a := 4) w (by omega)) q2
    · exact absurd (by rw [c1]; exact nI_lt (a := 6) w (by omega)) q3
    · rw [q4] at w; exact absurd w (by decide)
  refine c_X11_homing hB (fun x hx => s_isTold hB ?_)
  rw [a1]
  refine ⟨fun q => bad (Or.inl ?_), fun q1 => s_within hB ⟨fun q2 => ?_, fun q => bad (Or.inr (Or.inr (Or.inr q)))⟩⟩
  · rcases Nat.eq_zero_or_pos H with z | z
    · exact z
    · exact absurd ((q_told (by omega)).mpr z) (of_decide_eq_false q)
  have h0 : 0 < H := (q_told (by omega)).mp (of_decide_eq_true q1)
  rw [a3, a1]
  refine ⟨fun q => bad (Or.inr (Or.inl ?_)), fun q3 => ⟨fun q4 => s_within hB ⟨fun q5 => ?_, fun q5 => ?_⟩, fun q => bad (Or.inr (Or.inr (Or.inl ?_)))⟩⟩
  · rcases Nat.lt_or_ge 4 N with z | z
    · exact z
    · exact absurd q (nI_nlt (a := 4) z (by decide))
  · have hN4 : N ≤ 4 := by
      rcases Nat.lt_or_ge 4 N with z | z
      · exact absurd (nI_lt (a := 4) z (by omega)) q3
      · exact z
    have hH6 : H ≤ 6 := (nI_leI (b := 6) (by omega) (by decide)).mp q4
    obtain ⟨k, hk1, hk2, rfl⟩ := qW_rng (lo := 1) (hi := 60) (by decide) (by decide) q5
    have hM : H ^ N ≤ 1296 := by
      have h1 : H ^ N ≤ 6 ^ N := Nat.pow_le_pow_left hH6 N
      have h2 : 6 ^ N ≤ 6 ^ 4 := Nat.pow_le_pow_right (by decide) hN4
      have h3 : 6 ^ 4 = 1296 := by decide
      omega
    have hV : vE (E0 A lb 0) H S N R := vE_mk hR.va h0
    refine s_landAll (n := n + 11) hR h0 hH6 hN4 hk2 (fun I1 L1 hR1 f1 hl => ?_)
    refine s_startOf (n := n + 18) (H := H) (N := N) hB ((f1 24 0 rfl).trans a1) ((f1 24 2 rfl).trans a3) v4 ?_
    have e24 : cU N (I1 24 3) = mU N (I 90) := by rw [f1 24 3 rfl]; exact c6
    rw [e24]
    have hgl : stF H (vO (mU N (I 90))) N < H ^ N := stF_lt (fun t ht => (vO_in v1 c7 ht).1)
    generalize hcd : (fun s => decide (lnd A W H S N ν lb k s = stF H (vO (mU N (I 90))) N)) = c
    have hc' : ∀ s, decide (lnd A W H S N ν lb k s = stF H (vO (mU N (I 90))) N) = c s := fun s => by rw [← hcd]
    generalize hmv : (fun s => elC (plL H N s) (cU N (I 35 0)) N) = mv
    generalize hdg : (fun s => dgF (vO (plL H N s)) N) = dg
    have hmv' : ∀ s, elC (plL H N s) (cU N (I 35 0)) N = mv s := fun s => by rw [← hmv]
    have hdg' : ∀ s, dgF (vO (plL H N s)) N = dg s := fun s => by rw [← hdg]
    have hmlt : ∀ s, mv s < 2 ^ 31 := fun s => by
      rw [← hmv']; have := cntOf_le (fun t => decide (plL H N s t ≠ cU N (I 35 0) t)) N
      unfold elC; omega
    have hdlt : ∀ s, dg s < 2 ^ 31 := fun s => by
      rw [← hdg']
      have h1 : dgF (vO (plL H N s)) N < 10 ^ N := stF_lt (fun t ht => by
        rw [vO_pl h0 v1 ht]
        have : dgt H N s t < H := Nat.mod_lt _ h0
        omega)
      have h2 : 10 ^ N ≤ 10 ^ 4 := Nat.pow_le_pow_right (by decide) hN4
      omega
    have mod : ∀ (v : Int32), v = (if wh = 0 then (hoF c mv dg (H ^ N)).1 else (hoF c mv dg (H ^ N)).2) → sm_CI (n + 20) mX12_homing T I1 L1 [.ref 76, .int (nI k), .int wh] (fun r2 I2 L2 => G v r2 I2 L2) := by
      intro v hv
      have eu : mU N (I1 92) = cU N (I 35 0) := by rw [← hR1.u, f1 35 0 rfl]
      have e90 : I1 90 = I 90 := f1.at 90 (fun _ => rfl)
      refine m_homing (c := c) hR1 h0 hH6 hN4 hk1 hk2 q2 (fun s hs => ?_) (fun I' L' hR' => ?_)
      · rw [e90, hmB_st v1 (nU0_gR hV (plL_gR h0) k) c7]
        exact hc' s
      · rw [eu, hmv, hdg]
        obtain ⟨g1, g2, g3⟩ := hoM_F (c := c) hmlt hdlt (H ^ N)
        have ev : (if (hoM c mv dg (H ^ N)).1 = -1 then -1 else if wh = 0 then (hoM c mv dg (H ^ N)).2 else (hoM c mv dg (H ^ N)).1) = v := by
          rw [hv]
          by_cases y : (hoM c mv dg (H ^ N)).1 = -1
          · rw [if_pos y, g2 y]; split <;> rfl
          · rw [if_neg y, g3 y]
        rw [ev]
        exact h _ _ _ hR'
    have key : ∀ d s (u7 u8 : Option Value), s + d = H ^ N → sm_V x 0 0 T I1 L1 89 [some (.ref 0), some (.int (nI k)), some (.int wh), some (.int (nI (stF H (vO (mU N (I 90))) N))), some (.int (hoF c mv dg s).1), some (.int (hoF c mv dg s).2), some (.int (nI s)), u7, u8] [] := by
      intro d
      induction d with
      | zero =>
        intro s u7 u8 e
        have hs : s = H ^ N := by omega
        refine u_X11_homing_89 hB hx (s_starts (n := n + 19) (H := H) (N := N) hB ((f1 24 0 rfl).trans a1) ((f1 24 2 rfl).trans a3) v4 ⟨fun _ => ⟨fun y => mod _ ?_, fun y => mod _ ?_⟩, fun q => absurd (by rw [hs]; exact nI_le (Nat.le_refl _) (by omega)) q⟩)
        · rw [if_neg y, hs]
        · rw [if_pos y, hs]
      | succ d ih =>
        intro s u7 u8 e
        have hs : s < H ^ N := by omega
        refine u_X11_homing_89 hB hx (s_starts (n := n + 19) (H := H) (N := N) hB ((f1 24 0 rfl).trans a1) ((f1 24 2 rfl).trans a3) v4 ⟨fun q => absurd q (nI_ge (by omega) (by omega)), fun _ => s_placesOf (n := n + 18) (H := H) (N := N) hB ((f1 24 0 rfl).trans a1) h0 v1 ((f1 24 2 rfl).trans a3) v4 (by omega) (fun p hp => s_elsewhere (n := n + 18) (N := N) hB ((f1 24 2 rfl).trans a3) v4 (s_BC (s_at (t_70 hB) (t_71 hB) (by omega) (by decide) ?_)))⟩)
        have e35 : cU N (I1 35 0) = cU N (I 35 0) := by rw [f1 35 0 rfl]
        rw [hp, e35, elC_BC v4, hmv', hl s hs]
        have es : hoF c mv dg (s + 1) = if c s = true ∧ ((hoF c mv dg s).1 = -1 ∨ ¬ (hoF c mv dg s).1 ≤ nI (mv s)) then (nI (mv s), nI (dg s)) else hoF c mv dg s := rfl
        have go := ih (s + 1) (some (.int p)) (some (.int (nI (mv s)))) (by omega)
        rw [es] at go
        have hlt := lnd_lt (W := W) (ν := ν) hV (i := k) (st := s)
        rw [nI_1]
        refine ⟨fun q => ?_, fun q => ?_⟩
        · have hcs : ¬ c s = true := fun y => q (by rw [← hc' s] at y; rw [of_decide_eq_true y])
          rw [if_neg (fun y => hcs y.1)] at go
          exact go
        · have hcs : c s = true := by
            rw [← hc' s]
            exact decide_eq_true ((nI_eq (by omega) (by omega)).mp q)
          have dgo : (hoF c mv dg s).1 = -1 ∨ ¬ (hoF c mv dg s).1 ≤ nI (mv s) → sm_CI (n + 19) mX8_digitsOf T I1 L1 [.ref 24, .int p] (fun r12 I11 L11 => sm_V x 0 0 T I11 L11 89 [some (.ref 0), some (.int (nI k)), some (.int wh), some (.int (nI (stF H (vO (mU N (I 90))) N))), some (.int (nI (mv s))), some (.int r12), some (.int (nI (s + 1))), some (.int p), some (.int (nI (mv s)))] []) := by
            intro y
            refine s_digitsOf (n := n + 18) (N := N) hB ((f1 24 2 rfl).trans a3) v4 ?_
            rw [hp, hdg']
            rw [if_pos ⟨hcs, y⟩] at go
            exact go
          refine ⟨fun y => dgo (Or.inl y), fun y => ⟨fun y2 => ?_, fun y2 => dgo (Or.inr y2)⟩⟩
          rw [if_neg (fun z => z.2.elim y (fun z2 => z2 y2))] at go
          exact go
    exact key (H ^ N) 0 none none (by omega)
  · refine c_X12_homing hB (fun y hy => ⟨fun z => absurd z (by rw [c1]; exact nI_ne0 h0 (by omega)), fun _ => ⟨fun z => absurd (by rw [← c3]; exact z) q3, fun _ => ⟨fun z => ?_, fun _ => s_m_in hB ?_⟩⟩⟩)
    · rw [c1] at z
      rcases Nat.lt_or_ge 6 H with y | y
      · exact absurd q4 (nI_ge (a := 6) y (by omega))
      · exact absurd z (nI_nlt (a := 6) y (by decide))
    · rw [q2]
      refine ⟨fun _ => s_m_areNights hB ?_, fun z => absurd z (by decide)⟩
      rw [c1, an_ok h0 (by omega), q5]
      exact ⟨fun z => absurd z (by decide), fun _ => h _ _ _ hR⟩
  · rcases Nat.lt_or_ge 6 H with z | z
    · exact z
    · exact absurd (nI_le (a := H) (b := 6) z (by decide)) q
end
