section
variable {n : Nat} {T : List sm_Sh} {I I' I1 : sm_MI} {L L' : sm_ML} {A : Nat → Nat → Int32} {H S N R ν lb b ν' lb' b' : Nat} {W : Nat → (Nat → Int32) → Int32} {f u : Nat → Int32} {g g' : Int32} {r : Nat}
theorem s_m_draw {F : Int32 → sm_MI → sm_ML → Prop} (hB : sm_Bs T) (h : F (Int64.toInt32 (qDr (nxD (L 76 36)))) I (sm_uL L 76 36 (nxD (L 76 36)))) : sm_CI n mX12_draw T I L [.ref 76] F := by
  refine c_X12_draw hB ?_
  rw [sm_uL_s]
  exact h
theorem MN_PMN (k j : Nat) (h : PMN k j = false) : MN k j = false := (Bool.or_eq_false_iff.mp h).1
theorem PKm_PMN (k j : Nat) (h : PMN k j = false) : PKm k j = false := (Bool.or_eq_false_iff.mp h).2
theorem PMN_code {k j : Nat} (h1 : 78 ≤ k) (h2 : k ≤ 84) : PMN k j = false := by
  rw [Bool.eq_false_iff]
  intro q
  simp only [PMN, MN, PKm, Bool.or_eq_true, Bool.and_eq_true, beq_iff_eq] at q
  omega
theorem PMN_lo {k j : Nat} (h : k < 76) : PMN k j = false := by
  rw [Bool.eq_false_iff]
  intro q
  simp only [PMN, MN, PKm, Bool.or_eq_true, Bool.and_eq_true, beq_iff_eq] at q
  omega
theorem PMN_hi {k j : Nat} (h : 110 ≤ k) : PMN k j = false := by
  rw [Bool.eq_false_iff]
  intro q
  simp only [PMN, MN, PKm, Bool.or_eq_true, Bool.and_eq_true, beq_iff_eq] at q
  omega
theorem mD_frN {E : Nat → Nat → Int32} {I0 I I' : sm_MI} (h : mD E H S N I0 I) (hf : Fr PMN I I') : mD E H S N I0 I' := by
  have g : ∀ k j, PMN k j = false → I' k j = I k j := hf
  obtain ⟨⟨⟨a1, a2, a3, a4, a5⟩, b, ⟨c1, c2⟩⟩, hq⟩ := h
  refine ⟨⟨⟨(g 76 26 rfl).trans a1, (g 76 27 rfl).trans a2, (g 76 28 rfl).trans a3, (g 76 29 rfl).trans a4, (g 76 30 rfl).trans a5⟩, fun w hw => ?_, ⟨(g 76 33 rfl).trans c1, (g 76 39 rfl).trans c2⟩⟩, fun k h1 h2 => (hf.at k (fun j => PMN_code h1 h2)).trans (hq k h1 h2)⟩
  obtain ⟨b1, b2, b3, b4, b5, b6⟩ := b w hw
  exact ⟨(g 89 _ rfl).trans b1, (g 89 _ rfl).trans b2, (g 89 _ rfl).trans b3, (g 89 _ rfl).trans b4, (g 91 w rfl).trans b5, (g 93 w rfl).trans b6⟩
theorem s_m_night23 {F : Int32 → sm_MI → sm_ML → Prop} {x : sm_Cx} {k i : Nat} {I0 Ib : sm_MI} {Lb : sm_ML} {zq : w_St} (hB : sm_Bs T) (hR : mRL T W R I0) (hV : vE (Er A lb r 0) H S N R) (hlb : lb < 256) (hr : r ≤ 100) (hx : sm_Ok x mX12_nights (n + 7) (sm_KI T F)) (hr35 : Ib 76 35 = nI r)
    (hk : ∀ (I' : sm_MI) (L' : sm_ML) (u3 u4 : Option Value), Fr MN Ib I' → mD (Er A lb r 0) H S N I0 I' → I' 76 34 = nI (ν + 1) → mU N (I' 92) = (nst (Er A lb r 0) W H N ν S zq).1 → L' 76 36 = (nst (Er A lb r 0) W H N ν S zq).2.2.1 → (∀ j, j ≠ 76 → L' j = Lb j) → L' 76 59 = Lb 76 59 → sm_V x 0 0 T I' L' 12 [some (.ref 76), some (.int (nI k)), some (.int (nI i + 1)), u3, u4] []) :
    ∀ d w (Im : sm_MI) (Lm : sm_ML) (u4 : Option Value), w + d = S → Fr MN Ib Im → mD (Er A lb r 0) H S N I0 Im → Im 76 34 = nI ν → mU N (Im 92) = (nst (Er A lb r 0) W H N ν w zq).1 → Lm 76 36 = (nst (Er A lb r 0) W H N ν w zq).2.2.1 → (0 < w → Im 94 (w - 1) = (nst (Er A lb r 0) W H N ν w zq).2.1) → (∀ j, j ≠ 76 → Lm j = Lb j) → Lm 76 59 = Lb 76 59 →
      sm_V x 0 0 T Im Lm 23 [some (.ref 76), some (.int (nI k)), some (.int (nI i)), some (.int (nI w)), u4] [] := by
  have v3 := hV.2.2.1
  intro d
  induction d with
  | zero =>
    intro w Im Lm u4 e f1 hD hn hu hd hs hL hL2
    have hw : w = S := by omega
    subst hw
    refine u_X12_nights_23 hB hx ⟨fun _ => hk _ Lm _ _ (f1.u rfl) (mD_up (P := MN) hD (Fr.rf.u rfl) (fun _ _ h => h)) ?_ ?_ hd hL hL2, fun q => absurd (by rw [hD.1.1.2.1]; exact nI_le (Nat.le_refl _) (by omega)) q⟩
    · rw [sm_uI_at, pk_us, hn, nI_1]
    · rw [sm_uI_ne (by decide), hu]
  | succ d ih =>
    intro w Im Lm u4 e f1 hD hn hu hd hs hL hL2
    obtain ⟨b1, b2, b3, b4, b5, b6⟩ := hD.1.2.1 w (by omega)
    have hnb : ¬ nI w = (Er A lb r 0) 0 1 := nI_nm1 w (by omega)
    -- one walk, then on
    have walk : ∀ (fv : Bool) (L2 : sm_ML) (u5 : Option Value), fv = fvB (Er A lb r 0) w (nst (Er A lb r 0) W H N ν w zq).2.2.1 → (fv = true → (Er A lb r 0) 3 w = 3) → L2 76 36 = fvD (Er A lb r 0) w (nst (Er A lb r 0) W H N ν w zq).2.2.1 → (∀ j, j ≠ 76 → L2 j = Lb j) → L2 76 59 = Lb 76 59 → sm_CI (n + 6) mX12_walk T Im L2 [.ref 76, .int (nI w), .int (Im 76 34), .int (sm_z fv)] (fun r4 I3 L3 => sm_V x 0 0 T I3 L3 23 [some (.ref 76), some (.int (nI k)), some (.int (nI i)), some (.int (nI w + 1)), u5] []) := by
      intro fv L2 u5 hfv hf3 hd2 hl hl2
      rw [hn, nI_1]
      refine s_m_walk (n := n) hB hR hV hD (by omega) hlb rfl hf3 hs (fun I' f2 h94 hu' => ?_)
      have est : strE (Er A lb r 0) W N ν w fv (nst (Er A lb r 0) W H N ν w zq).2.1 (mU N (Im 92)) = strE (Er A lb r 0) W N ν w (fvB (Er A lb r 0) w (nst (Er A lb r 0) W H N ν w zq).2.2.1) (nst (Er A lb r 0) W H N ν w zq).2.1 (nst (Er A lb r 0) W H N ν w zq).1 := by rw [hfv, hu]
      rw [est] at h94 hu'
      rw [hu] at hu'
      refine ih (w + 1) I' L2 u5 (by omega) (f1.tr (f2.mono MW_MN)) (mD_up (P := MW) hD f2 MW_MN) ((f2 76 34 rfl).trans hn) hu' hd2 (fun _ => ?_) hl hl2
      rw [h94, Nat.add_sub_cancel, pk_us]
      rfl
    refine u_X12_nights_23 hB hx ⟨fun q => absurd q (by rw [hD.1.1.2.1]; exact nI_ge (by omega) (by omega)), fun _ => s_m_of (k := 2) hB (by omega) (by decide) ?_⟩
    rw [b3]
    have hfC : ∀ y : ¬ ((Er A lb r 0) 3 w = 3 ∧ r ≠ 0), fvC (Er A lb r 0) w = false := by
      intro y
      unfold fvC
      rw [Bool.eq_false_iff]
      intro z
      simp only [Bool.and_eq_true, decide_eq_true_eq, Bool.not_eq_true', decide_eq_false_iff_not] at z
      refine y ⟨z.1.1, fun e => z.2 ?_⟩
      subst e; rfl
    refine ⟨fun q => ?_, fun q => ⟨fun q2 => ?_, fun q2 => s_m_draw hB ⟨fun q3 => ?_, fun q3 => ?_⟩⟩⟩
    · have := hfC (fun y => q y.1)
      refine walk false Lm _ (by unfold fvB; rw [this]; rfl) (fun y => absurd y (by decide)) ?_ hL hL2
      unfold fvD; rw [this, if_neg (by decide), hd]
    · have hr0 : r = 0 := by
        have e : Im 76 35 = nI r := (f1 76 35 rfl).trans hr35
        rw [e] at q2
        rcases Nat.eq_zero_or_pos r with y | y
        · exact y
        · exact absurd q2 (nI_nle y (by omega))
      have := hfC (fun y => y.2 hr0)
      refine walk false Lm _ (by unfold fvB; rw [this]; rfl) (fun y => absurd y (by decide)) ?_ hL hL2
      unfold fvD; rw [this, if_neg (by decide), hd]
    all_goals
      have e35 : Im 76 35 = nI r := (f1 76 35 rfl).trans hr35
      have hr0 : r ≠ 0 := fun y => q2 (by rw [e35, y]; decide)
      have hC : fvC (Er A lb r 0) w = true := by
        unfold fvC
        simp only [Bool.and_eq_true, decide_eq_true_eq, Bool.not_eq_true', decide_eq_false_iff_not]
        exact ⟨⟨q, hnb⟩, nI_ne0 (by omega) (by omega)⟩
      rw [e35, hd] at q3
      have hdd : (sm_uL Lm 76 36 (nxD (Lm 76 36))) 76 36 = fvD (Er A lb r 0) w (nst (Er A lb r 0) W H N ν w zq).2.2.1 := by
        rw [sm_uL_s, hd]; unfold fvD; rw [if_pos hC]
      have hl : ∀ j, j ≠ 76 → (sm_uL Lm 76 36 (nxD (Lm 76 36))) j = Lb j := fun j hj => (sm_uL_ne hj).trans (hL j hj)
      have hl2 : (sm_uL Lm 76 36 (nxD (Lm 76 36))) 76 59 = Lb 76 59 := by rw [← hL2]; simp [sm_uL]
    · refine walk false _ _ ?_ (fun y => absurd y (by decide)) hdd hl hl2
      unfold fvB
      rw [hC, Bool.true_and]
      exact ((qFv_iff _ hr).mp q3).symm
    · refine walk true _ _ ?_ (fun _ => q) hdd hl hl2
      unfold fvB
      rw [hC, Bool.true_and]
      cases hq : qFv (nxD (nst (Er A lb r 0) W H N ν w zq).2.2.1) ((Er A lb r 0) 0 2) with
      | true => rfl
      | false => exact absurd ((qFv_iff _ hr).mpr hq) q3
/-- the model after i nights -/
def nMI (A : Nat → Nat → Int32) (W : Nat → (Nat → Int32) → Int32) (H S N lb r ν : Nat) (q0 : uD) (h : Nat → uD) (tot : Nat) (I : sm_MI) (L : sm_ML) (i : Nat) (Im : sm_MI) (Lm : sm_ML) : Prop :=
  Fr PMN I Im ∧ mU N (Im 92) = (nSq A W H S N lb r ν q0 i).1 ∧ Im 76 34 = nI (ν + i) ∧ Lm 76 36 = (nSq A W H S N lb r ν q0 i).2 ∧ (∃ ct, pMst N h (tot + i) ct Im Lm) ∧ (∀ j, j ≠ 76 → j ≠ 96 → Lm j = L j) ∧ Lm 76 59 = L 76 59
theorem s_m_nights_l {F : Int32 → sm_MI → sm_ML → Prop} {x : sm_Cx} {q0 : uD} {h : Nat → uD} {tot k : Nat} (hB : sm_Bs T) (hR : mRL T W R I) (hV : vE (Er A lb r 0) H S N R) (hlb : lb < 256) (hr : r ≤ 100) (hk : k ≤ 60) (hx : sm_Ok x mX12_nights (n + 7) (sm_KI T F)) (hr35 : I 76 35 = nI r) (hD : mD (Er A lb r 0) H S N I I) (hh : ∀ i, h (tot + i) = nSq A W H S N lb r ν q0 i)
    (hfin : ∀ Im Lm, nMI A W H S N lb r ν q0 h tot I L k Im Lm → F (nI (ν + k)) Im Lm) :
    ∀ d i (Im : sm_MI) (Lm : sm_ML) (u3 u4 : Option Value), i + d = k → nMI A W H S N lb r ν q0 h tot I L i Im Lm → sm_V x 0 0 T Im Lm 12 [some (.ref 76), some (.int (nI k)), some (.int (nI i)), u3, u4] [] := by
  intro d
  induction d with
  | zero =>
    intro i Im Lm u3 u4 e hI
    have : i = k := by omega
    subst this
    refine u_X12_nights_12 hB hx ⟨fun _ => ?_, fun q => absurd (nI_le (Nat.le_refl _) (by omega)) q⟩
    rw [hI.2.2.1]
    exact hfin Im Lm hI
  | succ d ih =>
    intro i Im Lm u3 u4 e hI
    obtain ⟨i1, i2, i3, i4, ⟨ct, i5⟩, i6, i7⟩ := hI
    refine u_X12_nights_12 hB hx ⟨fun q => absurd q (nI_ge (by omega) (by omega)), fun _ => s_m_keep (n := n + 6) hB hV.2.2.2.1 i5 (by rw [i2, hh]) (by rw [i4, hh]) (fun I2 L2 f2 l2 hp2 => ?_)⟩
    have f3 : Fr PMN I I2 := i1.tr (f2.mono PKm_PMN)
    refine s_m_night23 (n := n) (ν := ν + i) (Ib := I2) (Lb := L2) (zq := zD (nSq A W H S N lb r ν q0 i)) (I0 := I) hB hR hV hlb hr hx ((f3 76 35 rfl).trans hr35) (fun I3 L3 u3' u4' f4 hD3 hn3 hu3 hd3 hL3 hL3' => ?_) S 0 I2 L2 _ (by omega) Fr.rf (mD_frN hD f3) ((f2 76 34 rfl).trans i3) ?_ ?_ (fun q => absurd q (by decide)) (fun _ _ => rfl) rfl
    · rw [nI_1]
      obtain ⟨ct', p1, p2, p3⟩ := hp2
      refine ih (i + 1) I3 L3 _ _ (by omega) ⟨f3.tr (f4.mono MN_PMN), hu3, hn3, hd3, ⟨ct', p1, (f4 76 42 rfl).trans p2, fun m hm => ?_⟩, fun j h1 h2 => ?_, ?_⟩
      · rw [f4.at 95 (fun _ => rfl), hL3 96 (by decide)]
        exact p3 m hm
      · rw [hL3 j h1, l2 j h2, i6 j h1 h2]
      · rw [hL3', l2 76 (by decide), i7]
    · rw [f2.at 92 (fun _ => rfl), i2]; rfl
    · rw [l2 76 (by decide), i4]; rfl
theorem p_nights {G : Int32 → Int32 → sm_MI → sm_ML → Prop} {m : Int32} (hR : RR A W H S N R ν lb b T I L) (hb60 : b + 60 < 2 ^ 29) (h : ∀ v ν' I' L', RR A W H S N R ν' lb (b + 60) T I' L' → G v v I' L') :
    sm_CI (n + 20) mX11_nights T I L [.ref 0, .int m] (fun r1 I1 L1 => sm_CI (n + 20) mX12_nights T I1 L1 [.ref 76, .int m] (fun r2 I2 L2 => G r1 r2 I2 L2)) := by
  have hB := hR.hB
  obtain ⟨⟨a1, a2, a3, a4, a5⟩, _, ⟨c1, c2, c3, c4, c5⟩, _, _⟩ := hR.st
  have v1 := hR.va.2.1
  have v4 := hR.va.2.2.2.1
  have hRb := RR_b (b' := b + 60) hR (by omega) hb60
  have bad : (H = 0 ∨ qW m 1 60 = false) → sm_CI (n + 20) mX12_nights T I L [.ref 76, .int m] (fun r2 I2 L2 => G (-1) r2 I2 L2) := by
    intro w
    refine c_X12_nights hB (fun x hx => s_m_areNights hB ?_)
    rw [c1]
    refine ⟨fun q => ?_, fun _ => h _ _ _ _ hRb⟩
    rw [Bool.and_eq_true] at q
    rcases w with w | w
    · have := (q_told (by omega)).mp (of_decide_eq_true q.1); omega
    · rw [q.2] at w; exact absurd w (by decide)
  refine c_X11_nights hB (fun x hx => s_isTold hB ?_)
  rw [a1]
  refine ⟨fun q => bad (Or.inl ?_), fun q1 => s_within hB ⟨fun q4 => ?_, fun q => bad (Or.inr q)⟩⟩
  · rcases Nat.eq_zero_or_pos H with z | z
    · exact z
    · exact absurd ((q_told (by omega)).mpr z) (of_decide_eq_false q)
  have h0 : 0 < H := (q_told (by omega)).mp (of_decide_eq_true q1)
  obtain ⟨k, hk1, hk2, rfl⟩ := qW_rng (lo := 1) (hi := 60) (by decide) (by decide) q4
  obtain ⟨g1, g2, g3, g4, g5, g6, g7⟩ := hR.gn
  obtain ⟨nx, ct, p1, p2, p3, p4, p5, p6, p7⟩ := hR.gp
  obtain ⟨r, hr, r1, r2⟩ := hR.gk
  -- all that was
  let hs : Nat → uD := fun j => if j < ct then (cU N (I 39 ((nx + 60 - ct + j) % 60)), qDw (I 41 ((nx + 60 - ct + j) % 60)) (I 43 ((nx + 60 - ct + j) % 60))) else nSq A W H S N lb r ν (cU N (I 35 0), L 35 3) (j - ct)
  have hsl : ∀ j, j < ct → hs j = (cU N (I 39 ((nx + 60 - ct + j) % 60)), qDw (I 41 ((nx + 60 - ct + j) % 60)) (I 43 ((nx + 60 - ct + j) % 60))) := fun j hj => if_pos hj
  have hsh : ∀ i, hs (ct + i) = nSq A W H S N lb r ν (cU N (I 35 0), L 35 3) i := fun i => by
    show (if ct + i < ct then _ else nSq A W H S N lb r ν (cU N (I 35 0), L 35 3) (ct + i - ct)) = _
    rw [if_neg (by omega), Nat.add_sub_cancel_left]
  have hV : ∀ r, vE (Er A lb r 0) H S N R := fun r => vE_mk hR.va h0
  have hgR : ∀ j, gR H N (hs j).1 := by
    intro j
    rcases Nat.lt_or_ge j ct with q | q
    · rw [hsl j q]; exact (p7 j q).2.1
    · obtain ⟨i, rfl⟩ : ∃ i, j = ct + i := ⟨j - ct, by omega⟩
      rw [hsh i]
      exact gR_nSq hV g7 i
  generalize hs = hst at hsl hsh hgR
  refine s_nights_l (n := n + 13) (q0 := (cU N (I 35 0), L 35 3)) (h := hst) (tot := ct) hR h0 hk2 hx r1 hsh (fun Ic Lc hC => ?_) k 0 I L (by omega) ⟨Fr.rf, rfl, g3, g4, rfl, hR.c, ⟨nx, ct, p1, by omega, p4, p5, fun j hj => ?_⟩, rfl, rfl, rfl⟩
  · obtain ⟨i1, i2, i3, i4, i5, i6, ⟨nx', ct', j1, j2, j3, j4, j5⟩, i8, i9, i10⟩ := hC
    have fc : ∀ k, 76 ≤ k → Ic k = I k := fun k hk => i1.at k (fun j => PNt_big hk)
    have hml : mRL T W R Ic := mRL_up hR.ml (fun k h1 h2 => fc k (by omega))
    have hD : mD (Er A lb r 0) H S N Ic Ic := by
      have := mD_of (I1 := Ic) (gh := -1) (gs := 0) (rk := nI r) (f := fun _ => -1) (lk := nI lb) (bed := -1) hR (fun j _ _ => by rw [fc 76 (by decide)]) (by rw [fc 76 (by decide)]; exact g5) (by rw [fc 76 (by decide)]; exact hR.rest.2.2.1) (fc 89 (by decide)) (fc 91 (by decide)) (fun w hw => by rw [fc 93 (by decide)]; exact hR.rest.2.2.2 w (by have := hR.va.2.2.1; omega)) (fun k h1 _ => fc k (by omega))
      exact ⟨this.1, fun _ _ _ => rfl⟩
    refine c_X12_nights hB (fun y hy => s_m_areNights hB ?_)
    rw [fc 76 (by decide), c1, an_ok h0 (by omega), q_60 hk1 hk2]
    refine ⟨fun _ => ?_, fun z => absurd z (by decide)⟩
    refine s_m_nights_l (n := n + 13) (q0 := (cU N (I 35 0), L 35 3)) (h := hst) (tot := ct) (ν := ν) hB hml (hV r) g2 hr hk2 hy (by rw [fc 76 (by decide)]; exact r2) hD hsh (fun Im Lm hM => ?_) k 0 Ic Lc none none (by omega) ⟨Fr.rf, ?_, ?_, ?_, ⟨ct, by omega, ?_, fun j hj => ?_⟩, fun _ _ _ => rfl, rfl⟩
    · obtain ⟨m1, m2, m3, m4, ⟨cm, m5, m6, m7⟩, m8, m9⟩ := hM
      have hcm : cm = ct' := by omega
      subst hcm
      refine h _ (ν + k) _ _ ?_
      have lo : ∀ k, k < 76 → Im k = Ic k := fun k hk => m1.at k (fun j => PMN_lo hk)
      have ex1 : ∀ k j, PNt k j = true → (53 ≤ k ∧ k ≤ 67) ∨ k = 69 ∨ k = 71 ∨ k = 73 ∨ k = 75 ∨ k = 39 ∨ k = 41 ∨ k = 43 ∨ (k = 37 ∧ (j = 3 ∨ j = 4)) ∨ k = 35 := by
        intro k j q
        simp only [PNt, PQ, PKc, Bool.or_eq_true, Bool.and_eq_true, Nat.beq_eq, Nat.ble_eq, beq_iff_eq] at q
        omega
      have ex2 : ∀ k j, PMN k j = true → k = 92 ∨ k = 94 ∨ k = 85 ∨ k = 86 ∨ k = 98 ∨ k = 95 ∨ (k = 76 ∧ (j = 34 ∨ j = 42)) := by
        intro k j q
        simp only [PMN, MN, PKm, Bool.or_eq_true, Bool.and_eq_true, beq_iff_eq] at q
        omega
      have fr : ∀ P : Nat → Nat → Bool, (∀ k j, (PNt k j = true ∨ PMN k j = true) → P k j = true) → Fr P I Im := by
        intro P q
        refine (i1.mono (fun k j h1 => ?_)).tr (m1.mono (fun k j h1 => ?_))
        · cases h2 : PNt k j with
          | false => rfl
          | true => rw [q k j (Or.inl h2)] at h1; exact absurd h1 (by decide)
        · cases h2 : PMN k j with
          | false => rfl
          | true => rw [q k j (Or.inr h2)] at h1; exact absurd h1 (by decide)
      have fS : Fr kS I Im := fr kS (fun k j q => by
        unfold kS
        rw [Bool.not_eq_true', Bool.eq_false_iff]
        intro z
        simp only [Bool.or_eq_true, Bool.and_eq_true, Nat.beq_eq, Nat.ble_eq] at z
        rcases q with q | q
        · have := ex1 k j q; omega
        · have := ex2 k j q; omega)
      have fT : Fr kT I Im := fr kT (fun k j q => by
        unfold kT
        rw [Bool.not_eq_true', Bool.eq_false_iff]
        intro z
        simp only [Bool.or_eq_true, Bool.and_eq_true, Nat.beq_eq, Nat.ble_eq] at z
        rcases q with q | q
        · have := ex1 k j q; omega
        · have := ex2 k j q; omega)
      have fI : Fr kI I Im := fr kI (fun k j q => by
        unfold kI
        rw [Bool.not_eq_true', Bool.eq_false_iff]
        intro z
        simp only [Bool.or_eq_true, Bool.and_eq_true, Nat.beq_eq, Nat.ble_eq] at z
        rcases q with q | q
        · have := ex1 k j q; omega
        · have := ex2 k j q; omega)
      have fE : Fr kE I Im := fr kE (fun k j q => by
        unfold kE
        rw [Bool.not_eq_true', Bool.eq_false_iff]
        intro z
        simp only [Bool.or_eq_true, Bool.and_eq_true, Nat.beq_eq, Nat.ble_eq] at z
        rcases q with q | q
        · have := ex1 k j q; omega
        · have := ex2 k j q; omega)
      have fK : Fr kR I Im := fr kR (fun k j q => by
        unfold kR
        rw [Bool.not_eq_true', Bool.eq_false_iff]
        intro z
        simp only [Bool.or_eq_true, Bool.and_eq_true, Nat.beq_eq, Nat.ble_eq] at z
        rcases q with q | q
        · have := ex1 k j q; omega
        · have := ex2 k j q; omega)
      have fM : Fr kM I Im := fr kM (fun k j q => by
        unfold kM
        rw [Bool.not_eq_true', Bool.eq_false_iff]
        intro z
        simp only [Bool.or_eq_true, Bool.and_eq_true, Nat.beq_eq, Nat.ble_eq] at z
        rcases q with q | q
        · have := ex1 k j q; omega
        · have := ex2 k j q; omega)
      refine RR_mk hB hb60 (gS_t hR.st fS) hR.va ⟨by omega, g2, ?_, ?_, ?_, ?_, ?_⟩ (gT_t hR.gt fT) (gI_t hR.gi (by omega) fI ?_ ?_) ⟨nx', cm, j1, by omega, by omega, ?_, ?_, m6, fun i hi => ⟨?_, ?_, ?_⟩⟩ (gE_t hR.ge fE) (gK_t hR.gk fK) (gM_t hR.gm fM) ?_ m3 (Cok_fr i6 (lo 65 (by decide)) (lo 67 (by decide))) (sRL_up hR.rl (fun k hk => (m1.at k (fun j => PMN_hi hk)).trans (fc k (by omega)))) (mRL_up hR.ml (fun k h1 h2 => (m1.at k (fun j => PMN_code h1 h2)).trans (fc k (by omega))))
      · rw [lo 35 (by decide)]; exact i3
      · rw [lo 35 (by decide)]; exact i4
      · rw [m1 76 33 rfl, fc 76 (by decide)]; exact g5
      · rw [m8 35 (by decide) (by decide), i5, m4]
      · rw [lo 35 (by decide), i2, ← hsh k]; exact hgR _
      · rw [m8 36 (by decide) (by decide), i8]
      · rw [m9, i9]
      · rw [lo 37 (by decide)]; exact j3
      · rw [lo 37 (by decide)]; exact j4
      · rw [lo 39 (by decide), (j5 i hi).1]; exact (m7 i hi).1.symm
      · rw [lo 39 (by decide), (j5 i hi).1]; exact hgR _
      · rw [lo 41 (by decide), lo 43 (by decide), (j5 i hi).2]; exact (m7 i hi).2.symm
      · rw [lo 35 (by decide), i2, m2]
    · rw [fc 92 (by decide), ← hR.u]; rfl
    · rw [fc 76 (by decide)]; exact hR.n34
    · rw [i9]; exact g6.symm
    · rw [fc 76 (by decide)]; exact p6
    · rw [hsl _ (by omega), fc 95 (by decide), i10]
      have e : ct + 0 - ct + j = j := by omega
      rw [e]
      obtain ⟨y1, y2, y3⟩ := p7 j hj
      exact ⟨y1.symm, y3.symm⟩
  · have e : ct + 0 - ct + j = j := by omega
    rw [e, hsl j hj]
    exact ⟨rfl, rfl⟩
end
