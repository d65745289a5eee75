section
variable {n : Nat} {T : List sm_Sh} {I I' I1 : sm_MI} {L L' : sm_ML} {A : Nat → Nat → Int32} {H S N R ν lb b ν' lb' b' : Nat} {W : Nat → (Nat → Int32) → Int32} {f u : Nat → Int32}
theorem s_roundKey {F : Int32 → sm_MI → sm_ML → Prop} (hB : sm_Bs T) (h : F (ckey (qMs (I 24 4) (I 24 5) (I 53 1)) (I 53 0)) I L) : sm_CI (n + 2) mX0_roundKey T I L [.ref 53] F :=
  c_X0_roundKey hB (s_moonStand hB h)
theorem s_firstOf {F : Int32 → sm_MI → sm_ML → Prop} {v : Int32} {j : Nat} (hB : sm_Bs T) (hj : j < 201) (e : I 69 j = v) (hne : ∀ k, k < j → I 69 k ≠ v) (h : F (nI j) I L) : sm_CI (n + 1) mX11_firstOf T I L [.ref 68, .int v] F := by
  refine c_X11_firstOf hB (fun x hx => ?_)
  have key : ∀ d i, i + d = j → sm_V x 0 0 T I L 2 [some (.ref 68), some (.int v), some (.int (nI i))] [] := by
    intro d
    induction d with
    | zero =>
      intro i ei
      have : i = j := by omega
      subst this
      refine u_X11_firstOf_2 hB hx (s_len (t_68 hB) (t_69 hB) ⟨fun q => absurd q (nI_ge (by omega) (by omega)), fun _ => s_at (t_68 hB) (t_69 hB) hj (by decide) ⟨fun q => absurd e q, fun _ => h⟩⟩)
    | succ d ih =>
      intro i ei
      refine u_X11_firstOf_2 hB hx (s_len (t_68 hB) (t_69 hB) ⟨fun q => absurd q (nI_ge (by omega) (by omega)), fun _ => s_at (t_68 hB) (t_69 hB) (by omega) (by decide) ⟨fun _ => ?_, fun q => absurd q (hne i (by omega))⟩⟩)
      rw [nI_1]
      exact ih (i + 1) (by omega)
  exact key j 0 (by omega)
theorem p_round {G : Int32 → Int32 → sm_MI → sm_ML → Prop} {wh : Int32} (hR : RR A W H S N R ν lb b T I L) (h : ∀ v I' L', RR A W H S N R ν lb b T I' L' → G v v I' L') :
    sm_CI (n + 20) mX11_round T I L [.ref 0, .int wh] (fun r1 I1 L1 => sm_CI (n + 20) mX12_round T I1 L1 [.ref 76, .int wh] (fun r2 I2 L2 => G r1 r2 I2 L2)) := by
  have hB := hR.hB
  obtain ⟨⟨a1, a2, a3, a4, a5⟩, _, ⟨c1, c2, c3, c4, c5⟩, _, _⟩ := hR.st
  have v1 := hR.va.2.1
  have v4 := hR.va.2.2.2.1
  have hb := hR.bb
  have hν := hR.now.1
  have bad : (H = 0 ∨ qW wh 0 1 = false) → sm_CI (n + 20) mX12_round T I L [.ref 76, .int wh] (fun r2 I2 L2 => G (-1) r2 I2 L2) := by
    intro w
    refine c_X12_round hB (fun x hx => ⟨fun _ => h _ _ _ hR, fun q => s_m_in hB ⟨fun r => ?_, fun _ => h _ _ _ hR⟩⟩)
    rcases w with w | w
    · subst w; exact absurd c1 q
    · rw [r] at w; exact absurd w (by decide)
  refine c_X11_round hB (fun x hx => s_isTold hB ?_)
  rw [a1]
  refine ⟨fun q => bad (Or.inl ?_), fun q1 => s_within hB ⟨fun q4 => ?_, fun q => bad (Or.inr q)⟩⟩
  · rcases Nat.eq_zero_or_pos H with z | z
    · exact z
    · exact absurd ((q_told (by omega)).mpr z) (of_decide_eq_false q)
  have h0 : 0 < H := (q_told (by omega)).mp (of_decide_eq_true q1)
  generalize hK : roK A W H S N ν lb (cU N (I 35 0)) = K
  have hK' : ∀ j, stM (roS A ν j) (nU0 A W H S N ν lb j (cU N (I 35 0))) N = K j := fun j => by rw [← hK]; rfl
  -- the model's run, whatever the class found
  have mod : ∀ (I2 : sm_MI) (L2 : sm_ML) (o : Option (Nat × Nat)), RR A W H S N R ν lb b T I2 L2 → Fr PQ I I2 → roO K o → sm_CI (n + 20) mX12_round T I2 L2 [.ref 76, .int wh] (fun r2 I2 L2 => G (roV wh o) r2 I2 L2) := by
    intro I2 L2 o hR2 f2 ho
    refine m_round hR2 h0 q4 ?_ (fun I' L' hR' => h _ _ _ hR')
    rw [← hR2.u, f2 35 0 rfl, hK]
    exact ho
  -- keys
  have hN0 : ∀ j, nU0 A W H S N ν lb j (cU N (I 35 0)) N = 0 := by
    intro j
    have e1 : nU0 A W H S N ν lb j (cU N (I 35 0)) N = (zz (cU N (I 35 0))).1 N := ngs_hi (E := mkE A (nI lb) (-1) 0 (-1) 0 (fun _ => -1)) v4 rfl (Nat.le_refl _) j
    rw [e1]
    show cU N (I 35 0) N = 0
    rw [hR.u]
    unfold mU
    rw [if_neg (Nat.lt_irrefl _)]
  have kiff : ∀ (j k : Nat) (p p' : Int32), cU N p = nU0 A W H S N ν lb j (cU N (I 35 0)) → cU N p' = nU0 A W H S N ν lb k (cU N (I 35 0)) → (ckey (roS A ν j) p = ckey (roS A ν k) p' ↔ K j = K k) := by
    intro j k p p' e e'
    obtain ⟨s, hs, es⟩ := qMs_lt (fl := A 0 4) (a := nI (ν + j)) hR.va.2.2.2.2.2.2.1
    obtain ⟨s', hs', es'⟩ := qMs_lt (fl := A 0 4) (a := nI (ν + k)) hR.va.2.2.2.2.2.2.1
    have g := ckey_iff (N := N) (p := p) (p' := p') v4 hs hs' (by rw [e]; exact hN0 j) (by rw [e']; exact hN0 k)
    rw [← hK' j, ← hK' k]
    unfold roS
    rw [es, es', ← e, ← e']
    exact g
  refine s_begin_R (n := n + 18) hR (fun I1 z g f1 e65 e67 e12 hD hz z1 zc zd => ?_)
  have kst : ∀ (i : Nat) (I2 : sm_MI) (L2 : sm_ML) (Fk : Int32 → sm_MI → sm_ML → Prop), cD (E0 A lb g) W H S N R I (ν + i) I2 → Fk (ckey (roS A ν i) (I2 53 0)) I2 L2 → sm_CI (n + 19) mX0_roundKey T I2 L2 [.ref 53] Fk := by
    intro i I2 L2 Fk hD2 hF
    refine s_roundKey (n := n + 17) hB ?_
    obtain ⟨_, _, _, d4, d5⟩ := hD2.1.1
    rw [d4, d5, hD2.2.1]
    exact hF
  refine kst 0 I1 _ _ hD (s_set (i := 0) (t_68 hB) (t_69 hB) (by decide) (by decide) ?_)
  have fr69 : ∀ (J : sm_MI) (i : Nat) (v : Int32), Fr PQ I J → Fr PQ I (sm_uI J 69 i v) := fun J i v fJ => fJ.u rfl
  have cd69 : ∀ (J : sm_MI) (i m : Nat) (v : Int32), cD (E0 A lb g) W H S N R I m J → cD (E0 A lb g) W H S N R I m (sm_uI J 69 i v) := by
    intro J i m v hJ
    obtain ⟨⟨x1, x2, x3⟩, x4, x5, x6, x7⟩ := hJ
    refine ⟨⟨x1, x2, x3⟩, x4, Cok_fr x5 (sm_uI_ne (by decide)) (sm_uI_ne (by decide)), x6, fun k hk => ?_⟩
    rw [sm_uI_ne (by omega)]; exact x7 k hk
  have cz69 : ∀ (J : sm_MI) (L2 : sm_ML) (i : Nat) (v : Int32) (y : w_St), cZ N J L2 y → cZ N (sm_uI J 69 i v) L2 y := by
    intro J L2 i v y hJ
    obtain ⟨x1, x2, x3, x4, x5⟩ := hJ
    exact ⟨x1, x2, x3, by rw [sm_uI_ne (by decide)]; exact x4, by rw [sm_uI_ne (by decide)]; exact x5⟩
  have ez : ∀ i, (ngs (E0 A lb g) W H S N ν i z).1 = nU0 A W H S N ν lb i (cU N (I 35 0)) := fun i => nU_eq z1 i
  have key : ∀ d i (I2 : sm_MI) (u3 : Option Value), i + 1 + d = 201 → Fr PQ I I2 → cD (E0 A lb g) W H S N R I (ν + i) I2 → cZ N I2 (sm_uL L 53 3 (ngs (E0 A lb g) W H S N ν i z).2.2.1) (ngs (E0 A lb g) W H S N ν i z) → (∀ j, j < i + 1 → ∃ p, cU N p = nU0 A W H S N ν lb j (cU N (I 35 0)) ∧ I2 69 j = ckey (roS A ν j) p) → (∀ j k, j < k → k < i + 1 → K j ≠ K k) → sm_V x 0 0 T I2 (sm_uL L 53 3 (ngs (E0 A lb g) W H S N ν i z).2.2.1) 49 [some (.ref 0), some (.int wh), some (.int (nI (i + 1))), u3] [] := by
    intro d
    induction d with
    | zero =>
      intro i I2 u3 e f2 hD2 hz2 hst hne
      have : i = 200 := by omega
      subst this
      refine u_X11_round_49 hB hx ⟨fun _ => ?_, fun q => absurd (nI_lt (a := 200) (b := 201) (by decide) (by decide)) q⟩
      exact mod I2 _ none (RR_c (v := (ngs (E0 A lb g) W H S N ν 200 z).2.2.1) hR f2 (Cok_of hD2)) f2 (fun j k h1 h2 => hne j k h1 (by omega))
    | succ d ih =>
      intro i I2 u3 e f2 hD2 hz2 hst hne
      refine u_X11_round_49 hB hx ⟨fun q => absurd q (nI_nlt (a := 200) (by omega) (by omega)), fun _ => s_goOneNight (n := n + 13) hB hR.rl (vE_mk hR.va h0) (Or.inl rfl) (by omega) hD2 hz2 (fun I3 f3 hD3 hz3 => ?_)⟩
      rw [sm_uL_2] at hz3 ⊢
      have f4 : Fr PQ I I3 := f2.tr (f3.mono PN_PQ)
      have hz4 : cZ N I3 (sm_uL L 53 3 (ngs (E0 A lb g) W H S N ν (i + 1) z).2.2.1) (ngs (E0 A lb g) W H S N ν (i + 1) z) := hz3
      show sm_CI (n + 19) mX0_roundKey T I3 (sm_uL L 53 3 (ngs (E0 A lb g) W H S N ν (i + 1) z).2.2.1) [.ref 53] _
      refine kst (i + 1) I3 _ _ hD3 (s_set (t_68 hB) (t_69 hB) (by omega) (by decide) ?_)
      have e69 : ∀ j, j < i + 2 → ∃ p, cU N p = nU0 A W H S N ν lb j (cU N (I 35 0)) ∧ (sm_uI I3 69 (i + 1) (ckey (roS A ν (i + 1)) (I3 53 0))) 69 j = ckey (roS A ν j) p := by
        intro j hj
        rw [sm_uI_at]
        by_cases ej : j = i + 1
        · subst ej
          rw [pk_us]
          exact ⟨I3 53 0, by rw [hz4.1, ez], rfl⟩
        · obtain ⟨p, hp1, hp2⟩ := hst j (by omega)
          refine ⟨p, hp1, ?_⟩
          rw [pk_un ej, f3.at 69 (fun _ => rfl), hp2]
      have e53 : (sm_uI I3 69 (i + 1) (ckey (roS A ν (i + 1)) (I3 53 0))) 53 0 = I3 53 0 := rfl
      have f5 := fr69 I3 (i + 1) (ckey (roS A ν (i + 1)) (I3 53 0)) f4
      have hD5 := cd69 I3 (i + 1) (ν + i + 1) (ckey (roS A ν (i + 1)) (I3 53 0)) hD3
      have hz5 := cz69 I3 _ (i + 1) (ckey (roS A ν (i + 1)) (I3 53 0)) _ hz4
      have h53 : cU N (I3 53 0) = nU0 A W H S N ν lb (i + 1) (cU N (I 35 0)) := by rw [hz4.1, ez]
      generalize I3 53 0 = p3 at *
      generalize sm_uI I3 69 (i + 1) (ckey (roS A ν (i + 1)) p3) = I5 at *
      refine kst (i + 1) I5 _ _ hD5 ?_
      rw [e53]
      obtain ⟨j, hj1, hj2, hj3⟩ := least_of (fun j => I5 69 j = ckey (roS A ν (i + 1)) p3) (i + 1) (by
        obtain ⟨p, hp1, hp2⟩ := e69 (i + 1) (by omega)
        show I5 69 (i + 1) = _
        rw [hp2, (kiff (i + 1) (i + 1) p p3 hp1 h53).mpr rfl])
      refine s_firstOf (n := n + 18) hB (by omega) hj2 hj3 ?_
      have hKj : ∀ k, k < i + 2 → (I5 69 k = ckey (roS A ν (i + 1)) p3 ↔ K k = K (i + 1)) := by
        intro k hk
        obtain ⟨p, hp1, hp2⟩ := e69 k hk
        rw [hp2]
        exact kiff k (i + 1) p p3 hp1 h53
      refine ⟨fun q => ?_, fun q => ?_⟩
      · have hji : j = i + 1 := by
          have := (nI_leI (by omega) (by omega)).mp q
          omega
        rw [nI_1]
        refine ih (i + 1) I5 _ (by omega) f5 hD5 hz5 e69 (fun j' k h1 h2 => ?_)
        rcases Nat.lt_or_ge k (i + 1) with y | y
        · exact hne j' k h1 y
        · have hk : k = i + 1 := by omega
          subst hk
          intro g2
          exact hj3 j' (by omega) ((hKj j' (by omega)).mpr g2)
      · have hji : j < i + 1 := by
          rcases Nat.lt_or_ge j (i + 1) with y | y
          · exact y
          · exact absurd (nI_le y (by omega)) q
        have hR5 := RR_c (v := (ngs (E0 A lb g) W H S N ν (i + 1) z).2.2.1) hR f5 (Cok_of hD5)
        have hm := mod I5 _ (some (j, i + 1)) hR5 f5 ⟨hji, by omega, (hKj j (by omega)).mp hj2, fun k hk g2 => hj3 k hk ((hKj k (by omega)).mpr g2), fun j' k h1 h2 => hne j' k h1 h2⟩
        have ev : roV wh (some (j, i + 1)) = if wh = 0 then nI j else nI (i + 1) - nI j := rfl
        rw [ev] at hm
        refine ⟨fun y => ?_, fun y => ?_⟩
        · rw [if_neg y] at hm; exact hm
        · rw [if_pos y] at hm; exact hm
  have hz' : cZ N I1 (sm_uL L 53 3 (ngs (E0 A lb g) W H S N ν 0 z).2.2.1) (ngs (E0 A lb g) W H S N ν 0 z) := hz
  have hp0 : cU N (I1 53 0) = nU0 A W H S N ν lb 0 (cU N (I 35 0)) := by rw [hz.1, z1]; rfl
  refine key 200 0 _ none (by omega) (fr69 _ _ _ f1) (cd69 _ _ _ _ hD) (cz69 _ _ _ _ _ hz') (fun j hj => ?_) (fun j k h1 h2 => by omega)
  have : j = 0 := by omega
  subst this
  exact ⟨I1 53 0, hp0, by rw [sm_uI_at, pk_us]⟩
end
