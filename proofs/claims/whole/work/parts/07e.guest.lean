/-! ===== guest ===== -/
theorem nI_nm1 : ∀ h, h < 8 → nI h ≠ -1 := by decide +kernel
theorem fmN_mod {a H : Nat} (ha : a < 2 ^ 31) : fmN (nI a) H = a % H := by
  unfold fmN
  rw [nI_toInt ha, ← Int.natCast_emod, Int.toNat_natCast]
section
variable {n : Nat} {T : List sm_Sh} {I I' I1 : sm_MI} {L L' : sm_ML} {A : Nat → Nat → Int32} {H S N R ν lb b ν' lb' b' : Nat} {W : Nat → (Nat → Int32) → Int32} {f u : Nat → Int32}
theorem nst_cS {E : Nat → Nat → Int32} {z : w_St} {j : Nat} : ∀ w, w ≤ j → (nst E W H N ν w z).2.2.2.1 j = z.2.2.2.1 j
  | 0, _ => rfl
  | w + 1, h => by
    have ih := nst_cS (E := E) (z := z) (j := j) w (by omega)
    show crC (w_o E H N w (strE E W N ν w (fvB E w (nst E W H N ν w z).2.2.1) (nst E W H N ν w z).2.1 (nst E W H N ν w z).1) (nst E W H N ν w z).1) w (nst E W H N ν w z).2.2.2.1 j = _
    generalize w_o E H N w (strE E W N ν w (fvB E w (nst E W H N ν w z).2.2.1) (nst E W H N ν w z).2.1 (nst E W H N ν w z).1) (nst E W H N ν w z).1 = o
    cases o with
    | none => exact ih
    | some s =>
      show upd _ w _ j = _
      rw [pk_un (by omega), ih]
/-- with a guest -/
abbrev Eg (A : Nat → Nat → Int32) (lb gh gs : Nat) : Nat → Nat → Int32 := mkE A (nI lb) (-1) 0 (nI gh) (nI gs) (fun _ => -1)
theorem m_guest {F : Int32 → sm_MI → sm_ML → Prop} {gh gs k : Nat} {wh : Int32} {z : w_St} (hR : RR A W H S N R ν lb b T I L) (hh : gh < H) (hs : gs ≤ 7) (hk1 : 1 ≤ k) (hk2 : k ≤ 60) (hs7 : qW (nI gs) 0 7 = true) (hwh : qW wh 0 1 = true) (z1 : z.1 = mU N (I 92)) (zc : ∀ j, j < 6 → z.2.2.2.1 j = 0)
    (h : ∀ I' L', RR A W H S N R ν lb b T I' L' → F (if wh = 0 then nI (elC (ngs (Eg A lb gh gs) W H S N ν k z).1 (nU0 A W H S N ν lb k (mU N (I 92))) N) else (ngs (Eg A lb gh gs) W H S N ν k z).2.2.2.1 S) I' L') : sm_CI (n + 20) mX12_guest T I L [.ref 76, .int (nI gh), .int (nI gs), .int (nI k), .int wh] F := by
  have hB := hR.hB
  have v1 := hR.va.2.1
  have v3 := hR.va.2.2.1
  have v4 := hR.va.2.2.2.1
  have h0 : 0 < H := by omega
  obtain ⟨_, _, ⟨c1, c2, c3, c4, c5⟩, _, _⟩ := hR.st
  refine c_X12_guest hB (fun x hx => s_m_isHouse hB ?_)
  rw [c1, qW_natI hh (by omega)]
  refine ⟨fun y => absurd y (by decide), fun _ => s_m_in hB ?_⟩
  rw [hs7]
  refine ⟨fun y => absurd y (by decide), fun _ => s_m_areNights hB ?_⟩
  rw [c1, an_ok h0 (by omega), q_60 hk1 hk2]
  refine ⟨fun y => absurd y (by decide), fun _ => s_m_in hB ?_⟩
  rw [hwh]
  refine ⟨fun _ => s_m_noteEnds (n := n + 10) hR h0 (by omega) (fun I1 hR1 e107 e92 => s_m_aside2 hB (fun I2 ha h92 h34 hrest => ?_)), fun y => absurd y (by decide)⟩
  have e26 : I2 76 26 = nI H := (ha.1 76 26 rfl).trans hR1.st.2.2.1.1
  rw [e26]
  refine ⟨nI_ne0 h0 (by omega), fun v hv => ?_⟩
  have hto : v = nI ((gh + gs) % H) := by
    rw [hv, nI_add]
    exact pk_rem (by omega) h0 (by omega)
  subst hto
  have hlt : (gh + gs) % H < H := Nat.mod_lt _ h0
  have hfm : fmN (nI gh + nI gs) H = (gh + gs) % H := by rw [nI_add]; exact fmN_mod (by omega)
  generalize hE : Eg A lb gh gs = E at h
  have E00 : E 0 0 = nI lb := by rw [← hE]; rfl
  have E02 : E 0 2 = 0 := by rw [← hE]; rfl
  have E05 : E 0 5 = nI gh := by rw [← hE]; rfl
  have E06 : E 0 6 = nI gs := by rw [← hE]; rfl
  have hV : vE E H S N R := by rw [← hE]; exact vE_mk hR1.va h0
  have hD0 : mD E H S N I1 I2 := by rw [← hE]; exact mD_frQ (mD_now hR1) ha.1
  have hgst : ∀ y : w_St, gst E H S N y = (crU y.1 (crO (nI lb) N false (nI gh) (nI ((gh + gs) % H)) y.1) (nI ((gh + gs) % H)), y.2.1, y.2.2.1, crC (crO (nI lb) N false (nI gh) (nI ((gh + gs) % H)) y.1) S y.2.2.2.1, crD (crO (nI lb) N false (nI gh) (nI ((gh + gs) % H)) y.1) S y.2.2.2.2) := by
    intro y
    unfold gst
    rw [E05, E06, E00, hfm, if_neg (nI_nm1 gh (by omega))]
  have key : ∀ d i (I3 : sm_MI) (u8 : Option Value), i + d = k → mAs I1 I3 → mD E H S N I1 I3 → I3 107 = I1 107 → I3 76 34 = nI (ν + i) → mU N (I3 92) = (ngs E W H S N ν i z).1 → sm_V x 0 0 T I3 L 63 [some (.ref 76), some (.int (nI gh)), some (.int (nI gs)), some (.int (nI k)), some (.int wh), some (.int (nI ((gh + gs) % H))), some (.int ((ngs E W H S N ν i z).2.2.2.1 S)), some (.int (nI i)), u8] [] := by
    intro d
    induction d with
    | zero =>
      intro i I3 u8 e ha3 hD3 h107 hn3 hu3
      have : i = k := by omega
      subst this
      refine u_X12_guest_63 hB hx ⟨fun _ => s_m_elsewhere hB hD3.1.1.2.2.1 v4 (s_m_back2 hR1 ha3 (fun I4 hR4 _ _ => ?_)), fun q => absurd (nI_le (Nat.le_refl _) (by omega)) q⟩
      have hh := h I4 L hR4
      rw [hu3, h107, e107]
      refine ⟨fun y => ?_, fun y => ?_⟩
      · rw [if_neg y] at hh; exact hh
      · rw [if_pos y] at hh; exact hh
    | succ d ih =>
      intro i I3 u8 e ha3 hD3 h107 hn3 hu3
      refine u_X12_guest_63 hB hx ⟨fun q => absurd q (nI_ge (by omega) (by omega)), fun _ => s_m_calmNight (n := n + 12) (z := ngs E W H S N ν i z) hB hR1.ml hV hR1.now.2.1 E00 E02 hD3 hn3 hu3 (fun I4 f4 hD4 hn4 hu4 _ => s_m_thingsIn hB hD4.1.1.2.2.1 v4 ?_)⟩
      have ha4 := ha3.go f4
      have h107' : I4 107 = I1 107 := (f4.at 107 (fun _ => rfl)).trans h107
      have e1 : ngs E W H S N ν (i + 1) z = gst E H S N (nst E W H N (ν + i) S (ngs E W H S N ν i z)) := rfl
      have ecS : (nst E W H N (ν + i) S (ngs E W H S N ν i z)).2.2.2.1 S = (ngs E W H S N ν i z).2.2.2.1 S := nst_cS S (Nat.le_refl _)
      rw [hgst, ← hu4] at e1
      have e33 : I4 76 33 = nI lb := hD4.1.2.2.1.trans E00
      have hlt : thS (mU N (I4 92)) (nI gh) N < 256 := thS_lt v4
      have no : crO (nI lb) N false (nI gh) (nI ((gh + gs) % H)) (mU N (I4 92)) = none → sm_V x 0 0 T I4 L 63 [some (.ref 76), some (.int (nI gh)), some (.int (nI gs)), some (.int (nI k)), some (.int wh), some (.int (nI ((gh + gs) % H))), some (.int ((ngs E W H S N ν i z).2.2.2.1 S)), some (.int (nI i + 1)), some (.int (nI (thS (mU N (I4 92)) (nI gh) N)))] [] := by
        intro ho
        rw [ho] at e1
        have g := ih (i + 1) I4 (some (.int (nI (thS (mU N (I4 92)) (nI gh) N)))) (by omega) ha4 hD4 h107' hn4 (by rw [e1]; rfl)
        rw [e1] at g
        rw [nI_1, ← ecS]
        exact g
      refine ⟨fun q => no (crO_none (Or.inl ?_)), fun q => ⟨fun q2 => no (crO_none (Or.inr (Or.inl q2.symm))), fun q2 => ?_⟩⟩
      · rcases Nat.eq_zero_or_pos (thS (mU N (I4 92)) (nI gh) N) with g | g
        · exact g
        · exact absurd q (nI_ne0 g (by omega))
      rw [e33]
      refine s_m_has hB hR1.now.2.1 (by omega) ⟨fun q3 => no (crO_none (Or.inr (Or.inr (Or.inl (of_decide_eq_true q3))))), fun q3 => ?_⟩
      rw [e33]
      refine s_m_has hB hR1.now.2.1 (by omega) ⟨fun q4 => no (crO_none (Or.inr (Or.inr (Or.inr (of_decide_eq_true q4))))), fun q4 => s_NT ?_⟩
      have hz0 : thS (mU N (I4 92)) (nI gh) N ≠ 0 := fun g => q (by rw [g]; rfl)
      have ho : crO (nI lb) N false (nI gh) (nI ((gh + gs) % H)) (mU N (I4 92)) = some (thg false (thS (mU N (I4 92)) (nI gh) N)) := by
        unfold crO
        rw [if_neg hz0, if_neg (fun g => q2 g.symm), if_neg (of_decide_eq_false q3), if_neg (of_decide_eq_false q4)]
      rw [thg_lo v4 hz0]
      have ⟨ht, _⟩ := thg_in v4 hz0 false
      rw [ho] at e1
      generalize thg false (thS (mU N (I4 92)) (nI gh) N) = t at ht e1 ⊢
      refine ⟨vp_in_nI (by omega) (by decide), ?_⟩
      rw [nI_clamp (by omega)]
      have ha5 : mAs I1 (sm_uI I4 92 t (nI ((gh + gs) % H))) := ⟨ha4.1.u rfl, fun j hj => ha4.2.1 j hj, ha4.2.2⟩
      have hD5 : mD E H S N I1 (sm_uI I4 92 t (nI ((gh + gs) % H))) := mD_up (P := MN) hD4 (Fr.rf.u rfl) (fun _ _ h => h)
      have g := ih (i + 1) (sm_uI I4 92 t (nI ((gh + gs) % H))) (some (.int (nI (thS (mU N (I4 92)) (nI gh) N)))) (by omega) ha5 hD5 (by rw [sm_uI_ne (by decide)]; exact h107') hn4 (by rw [e1, sm_uI_at, mU_upd _ ht]; rfl)
      have ec : (ngs E W H S N ν (i + 1) z).2.2.2.1 S = (ngs E W H S N ν i z).2.2.2.1 S + 1 := by
        rw [e1, ← ecS]
        exact pk_us
      rw [ec] at g
      rw [nI_1]
      exact g
  have e0 : (ngs E W H S N ν 0 z).2.2.2.1 S = 0 := zc S (by omega)
  have go := key k 0 I2 none (by omega) ha hD0 (hrest 107 (by decide) (by decide)) (h34.trans hR1.n34) (by rw [h92, e92]; exact z1.symm)
  rw [e0] at go
  exact go
theorem p_guest {G : Int32 → Int32 → sm_MI → sm_ML → Prop} {a st m wh : Int32} (hR : RR A W H S N R ν lb b T I L) (h : ∀ v I' L', RR A W H S N R ν lb b T I' L' → G v v I' L') :
    sm_CI (n + 20) mX11_guest T I L [.ref 0, .int a, .int st, .int m, .int wh] (fun r1 I1 L1 => sm_CI (n + 20) mX12_guest T I1 L1 [.ref 76, .int a, .int st, .int m, .int wh] (fun r2 I2 L2 => G r1 r2 I2 L2)) := by
  have hB := hR.hB
  obtain ⟨⟨a1, a2, a3, a4, a5⟩, _, ⟨c1, c2, c3, c4, c5⟩, _, _⟩ := hR.st
  have v1 := hR.va.2.1
  have v3 := hR.va.2.2.1
  have v4 := hR.va.2.2.2.1
  have hb := hR.bb
  have hν := hR.now.1
  have bad : (qW a 0 (nI H - 1) = false ∨ qW st 0 7 = false ∨ qW m 1 60 = false ∨ qW wh 0 1 = false) → sm_CI (n + 20) mX12_guest T I L [.ref 76, .int a, .int st, .int m, .int wh] (fun r2 I2 L2 => G (-1) r2 I2 L2) := by
    intro w
    refine c_X12_guest hB (fun x hx => s_m_isHouse hB ?_)
    rw [c1]
    refine ⟨fun _ => h _ _ _ hR, fun q1 => s_m_in hB ⟨fun _ => h _ _ _ hR, fun q2 => s_m_areNights hB ?_⟩⟩
    obtain ⟨t, ht, e⟩ := qW_nat (by omega) q1
    rw [c1, an_ok (by omega) (by omega)]
    refine ⟨fun _ => h _ _ _ hR, fun q3 => s_m_in hB ⟨fun q4 => ?_, fun _ => h _ _ _ hR⟩⟩
    rcases w with w | w | w | w
    · rw [q1] at w; exact absurd w (by decide)
    · rw [q2] at w; exact absurd w (by decide)
    · rw [q3] at w; exact absurd w (by decide)
    · rw [q4] at w; exact absurd w (by decide)
  refine c_X11_guest hB (s_hasHouse hB ?_)
  rw [a1]
  refine ⟨fun q => bad (Or.inl q), fun q1 => s_within hB ⟨fun q2 => s_within hB ⟨fun q => bad (Or.inr (Or.inr (Or.inl q))), fun q3 => s_within hB ⟨fun q4 => ?_, fun q => bad (Or.inr (Or.inr (Or.inr q)))⟩⟩, fun q => bad (Or.inr (Or.inl q))⟩⟩
  obtain ⟨gh, hgh, rfl⟩ := qW_nat (by omega) q1
  obtain ⟨gs, _, hgs, rfl⟩ := qW_rng (lo := 0) (hi := 7) (by decide) (by decide) q2
  obtain ⟨k, hk1, hk2, rfl⟩ := qW_rng (lo := 1) (hi := 60) (by decide) (by decide) q3
  have h0 : 0 < H := by omega
  refine s_dreamOf' (n := n + 11) hR h0 (by omega) (fun I1 L1 hR1 f1 hu1 => s_begin_R (n := n + 18) hR1 (fun I2 z g f2 e65 e67 e12 hD hz z1 zc zd => ?_))
  have f3 : Fr PQ I1 (sm_uI (sm_uI I2 53 11 (nI gh)) 53 12 (nI gs)) := (f2.u rfl).u rfl
  have hD2 : cD (Eg A lb gh gs) W H S N R I1 ν (sm_uI (sm_uI I2 53 11 (nI gh)) 53 12 (nI gs)) := cD_of hR1 f3 hD.2.1 hD.1.2.2.1 hD.1.2.2.2.2.1 hD.1.2.2.2.1 rfl rfl (fun w hw => ((hD.1.2.1) w hw).2.2.2.2.2) (by rw [sm_uI_ne (by decide), sm_uI_ne (by decide)]; exact e65) (by rw [sm_uI_ne (by decide), sm_uI_ne (by decide)]; exact e67)
  have hz2 : cZ N (sm_uI (sm_uI I2 53 11 (nI gh)) 53 12 (nI gs)) (sm_uL L1 53 3 z.2.2.1) z := ⟨hz.1, hz.2.1, hz.2.2.1, by rw [sm_uI_ne (by decide), sm_uI_ne (by decide)]; exact hz.2.2.2.1, by rw [sm_uI_ne (by decide), sm_uI_ne (by decide)]; exact hz.2.2.2.2⟩
  refine s_goOn (n := n + 12) hB hR1.rl (vE_mk hR1.va h0) (Or.inr ⟨gh, by omega, rfl⟩) (by omega) (by omega) hD2 hz2 (fun I3 f4 hD3 hz3 => ?_)
  have f5 : Fr PQ I1 I3 := f3.tr (f4.mono PN_PQ)
  rw [sm_uL_2] at hz3 ⊢
  have hR3 := RR_c (v := (ngs (Eg A lb gh gs) W H S N ν k z).2.2.1) hR1 f5 (Cok_of hD3)
  have eu : mU N (I3 92) = cU N (I 35 0) := by rw [← hR3.u, f5 35 0 rfl, f1 35 0 rfl]
  have z1' : z.1 = mU N (I3 92) := by rw [z1, eu, f1 35 0 rfl]
  refine ⟨fun y => s_elsewhere hB hD3.1.1.2.2.1 v4 (s_BC ?_), fun y => ?_⟩
  · have y0 : wh = 0 := by
      obtain ⟨j, hj1, hj2, e⟩ := qW_rng (lo := 0) (hi := 1) (by decide) (by decide) q4
      rcases Nat.lt_or_ge j 1 with z | z
      · rw [e, show j = 0 by omega]; rfl
      · exact absurd (by rw [e, show j = 1 by omega]; rfl) y
    refine m_guest hR3 hgh hgs hk1 hk2 q2 q4 z1' zc (fun I' L' hR' => ?_)
    rw [if_pos y0, hz3.1, hu1, elC_BC v4, eu]
    exact h _ _ _ hR'
  · have e24 : I3 24 1 = nI S := hD3.1.1.2.1
    rw [e24]
    refine s_at (t_56 hB) (t_57 hB) (by omega) (by decide) ?_
    refine m_guest hR3 hgh hgs hk1 hk2 q2 q4 z1' zc (fun I' L' hR' => ?_)
    rw [if_neg (by rw [y]; decide), hz3.2.2.2.1]
    exact h _ _ _ hR'
end
