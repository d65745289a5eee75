section
variable {n : Nat} {T : List sm_Sh} {I I' I1 I0 : sm_MI} {L L' : sm_ML} {A : Nat → Nat → Int32} {H S N R ν lb b ν' lb' b' t w : Nat} {W : Nat → (Nat → Int32) → Int32} {f u : Nat → Int32} {g g' hh s : Int32}
theorem s_feverish {F : Int32 → sm_MI → sm_ML → Prop} (hB : sm_Bs T) (hS : I 24 1 = nI S) (h5 : S ≤ 5) (hk : ∀ w, w < S → I 30 w = A 3 w) (h : F (nI (fcnt A S)) I L) : sm_CI (n + 1) mX8_feverish T I L [.ref 24] F := by
  refine c_X8_feverish hB (fun x hx => ?_)
  have key : ∀ d w, w + d = S → sm_V x 0 0 T I L 4 [some (.ref 24), some (.int (nI (cntOf (fun w => decide (A 3 w = 3)) w))), some (.int (nI w))] [] := by
    intro d
    induction d with
    | zero =>
      intro w e
      have : w = S := by omega
      subst this
      exact u_X8_feverish_4 hB hx ⟨fun _ => h, fun q => absurd (by rw [hS]; exact nI_le (Nat.le_refl _) (by omega)) q⟩
    | succ d ih =>
      intro w e
      refine u_X8_feverish_4 hB hx ⟨fun q => absurd q (by rw [hS]; exact nI_ge (by omega) (by omega)), fun _ => s_at (t_29 hB) (t_30 hB) (by omega) (by decide) ?_⟩
      rw [hk w (by omega), nI_1]
      have go := ih (w + 1) (by omega)
      rw [cntOf] at go
      refine ⟨fun q => ?_, fun q => ?_⟩
      · rw [if_neg (by simpa using q), Nat.add_zero] at go; exact go
      · rw [if_pos (by simpa using q)] at go; rw [nI_1]; exact go
  exact key S 0 (by omega)
theorem m_odds {F : Int32 → sm_MI → sm_ML → Prop} {t k h : Nat} {s : Int32} (hR : RR A W H S N R ν lb b T I L) (ht : t < N) (hh : h < H) (hk1 : 1 ≤ k) (hk2 : k ≤ 8) (hkq : qW (nI k) 1 8 = true) {r : Nat} (hr : r ≤ 100) (er : I 76 35 = nI r)
    (hG : ∀ I' L', RR A W H S N R ν lb b T I' L' → F (if k * fcnt A S ≤ 12 then Int64.toInt32 (od A W H S N lb t (nI h) (nI r) (k * S) 0 ν (mU N (I 92)) s 1000000000) else -1) I' L') : sm_CI (n + 60) mX12_odds T I L [.ref 76, .int (nI t), .int (nI k), .int (nI h)] F := by
  have hB := hR.hB
  have h0 := gV_H hR.va ht
  have v1 := hR.va.2.1
  have v3 := hR.va.2.2.1
  have v4 := hR.va.2.2.2.1
  have hb := hR.bb
  have hν := hR.now.1
  have hS0 : 0 < S := by rcases hR.va.1 with g | g <;> omega
  have hV : vE (E0 A lb 0) H S N R := vE_mk hR.va h0
  obtain ⟨_, _, ⟨c1, c2, c3, c4, c5⟩, cw, _⟩ := hR.st
  refine c_X12_odds hB (fun x hx => s_m_isThing hB ?_)
  rw [c3, qW_natI ht (by omega)]
  refine ⟨fun y => absurd y (by decide), fun _ => s_m_isHouse hB ?_⟩
  rw [c1, qW_natI hh (by omega)]
  refine ⟨fun y => absurd y (by decide), fun _ => s_m_in hB ?_⟩
  rw [hkq]
  refine ⟨fun _ => ?_, fun y => absurd y (by decide)⟩
  have hfc : fcnt A S ≤ 5 := Nat.le_trans (cntOf_le _ S) v3
  have hkf : k * fcnt A S ≤ 8 * 5 := Nat.mul_le_mul hk2 hfc
  have hkS : k * S ≤ 8 * 5 := Nat.mul_le_mul hk2 v3
  have key : ∀ d w, w + d = S → sm_V x 0 0 T I L 34 [some (.ref 76), some (.int (nI t)), some (.int (nI k)), some (.int (nI h)), some (.int (nI (cntOf (fun w => decide (A 3 w = 3)) w))), some (.int (nI w)), none] [] := by
    intro d
    induction d with
    | zero =>
      intro w e
      have : w = S := by omega
      subst this
      have em : nI k * nI (cntOf (fun w => decide (A 3 w = 3)) w) = nI (k * fcnt A w) := pk_mul k _
      refine u_X12_odds_34 hB hx ⟨fun _ => ⟨fun q => ?_, fun q => ?_⟩, fun q => absurd (by rw [c2]; exact nI_le (Nat.le_refl _) (by omega)) q⟩
      · rw [em] at q
        have hle : k * fcnt A w ≤ 12 := (nI_leI (a := k * fcnt A w) (b := 12) (by omega) (by decide)).mp q
        refine s_m_aside2 hB (fun I1 ha h92 h34 hrest => ?_)
        have e27 : I1 76 27 = nI w := (ha.1 76 27 rfl).trans c2
        have ekS : nI k * nI w = nI (k * w) := pk_mul k w
        rw [e27, ekS]
        refine m_odds_l (L := L) (I0 := I) hB hR.ml hV hS0 hR.now.2.1 ht (r := r) (M := k * w) (ν0 := ν) hr (by omega) (by omega) (k * w) (n + 59) _ I1 0 s 1000000000 (by omega) (by omega) ⟨by decide, by decide⟩ (mD_frQ (mD_now hR) ha.1) ((ha.1 76 35 rfl).trans er) (by rw [ha.2.2, hR.n34]) (fun y => absurd y (by rw [Nat.zero_mod]; decide)) (fun I2 f2 k92 k94 _ _ => ?_)
        have hq : Fr qMQ I1 I2 := f2.mono (fun a j q => by
          rw [Bool.eq_false_iff] at q ⊢
          intro z
          apply q
          simp only [MOd, MW, Bool.or_eq_true, beq_iff_eq] at z
          simp only [qMQ, Bool.or_eq_true, Bool.and_eq_true, Nat.beq_eq, Nat.ble_eq]
          omega)
        have ha2 : mAs I I2 := ⟨ha.1.tr hq, fun j hj => (f2 97 j rfl).trans (ha.2.1 j hj), (f2 76 44 rfl).trans ha.2.2⟩
        refine s_m_back hR ha2 (fun I4 _ _ hR4 => ?_)
        have g1 := hG I4 L hR4
        rw [if_pos hle] at g1
        rw [Nat.zero_mod, Nat.zero_div, Nat.add_zero, h92]
        exact g1
      · rw [em] at q
        have hle : ¬ k * fcnt A w ≤ 12 := fun y => q (nI_le (a := k * fcnt A w) (b := 12) y (by decide))
        have g1 := hG I L hR
        rw [if_neg hle] at g1
        exact g1
    | succ d ih =>
      intro w e
      have b3 : I 89 (4 * w + 2) = A 3 w := (cw w (by omega)).2.2.1
      refine u_X12_odds_34 hB hx ⟨fun q => absurd q (by rw [c2]; exact nI_ge (by omega) (by omega)), fun _ => s_m_of (k := 2) hB (by omega) (by decide) ?_⟩
      rw [b3, nI_1]
      have go := ih (w + 1) (by omega)
      rw [cntOf] at go
      refine ⟨fun q => ?_, fun q => ?_⟩
      · rw [if_neg (by simpa using q), Nat.add_zero] at go; rw [Int32.add_zero]; exact go
      · rw [if_pos (by simpa using q)] at go; rw [nI_1]; exact go
  exact key S 0 (by omega)
theorem p_odds {G : Int32 → Int32 → sm_MI → sm_ML → Prop} {a m c : Int32} (hR : RR A W H S N R ν lb b T I L) (h : ∀ v I' L', RR A W H S N R ν lb b T I' L' → G v v I' L') :
    sm_CI (n + 60) mX11_odds T I L [.ref 0, .int a, .int m, .int c] (fun r1 I1 L1 => sm_CI (n + 60) mX12_odds T I1 L1 [.ref 76, .int a, .int m, .int c] (fun r2 I2 L2 => G r1 r2 I2 L2)) := by
  have hB := hR.hB
  obtain ⟨⟨a1, a2, a3, a4, a5⟩, aw, ⟨c1, c2, c3, c4, c5⟩, _, _⟩ := hR.st
  have v1 := hR.va.2.1
  have v3 := hR.va.2.2.1
  have v4 := hR.va.2.2.2.1
  have hb := hR.bb
  have hν := hR.now.1
  obtain ⟨r, hr, r1, r2⟩ := hR.gk
  have bad : (qW a 0 (nI N - 1) = false ∨ qW c 0 (nI H - 1) = false ∨ qW m 1 8 = false) → sm_CI (n + 60) mX12_odds T I L [.ref 76, .int a, .int m, .int c] (fun r2 I2 L2 => G (-1) r2 I2 L2) := by
    intro w
    refine c_X12_odds hB (fun x hx => s_m_isThing hB ?_)
    rw [c3]
    refine ⟨fun _ => h _ _ _ hR, fun q1 => s_m_isHouse hB ?_⟩
    rw [c1]
    refine ⟨fun _ => h _ _ _ hR, fun q2 => s_m_in hB ⟨fun q3 => ?_, fun _ => h _ _ _ hR⟩⟩
    rcases w with w | w | w
    · rw [q1] at w; exact absurd w (by decide)
    · rw [q2] at w; exact absurd w (by decide)
    · rw [q3] at w; exact absurd w (by decide)
  refine c_X11_odds hB (s_hasThing hB ?_)
  rw [a3]
  refine ⟨fun q => bad (Or.inl q), fun q1 => s_hasHouse hB ?_⟩
  rw [a1]
  refine ⟨fun q => bad (Or.inr (Or.inl q)), fun q2 => s_within hB ⟨fun q3 => ?_, fun q => bad (Or.inr (Or.inr q))⟩⟩
  obtain ⟨t, ht, rfl⟩ := qW_nat (by omega) q1
  obtain ⟨hs, hhs, rfl⟩ := qW_nat (by omega) q2
  obtain ⟨k, hk1, hk2, rfl⟩ := qW_rng (lo := 1) (hi := 8) (by decide) (by decide) q3
  have h0 : 0 < H := by omega
  have hS0 : 0 < S := by rcases hR.va.1 with g | g <;> omega
  have hfc : fcnt A S ≤ 5 := Nat.le_trans (cntOf_le _ S) v3
  have hkf : k * fcnt A S ≤ 8 * 5 := Nat.mul_le_mul hk2 hfc
  have hkS : k * S ≤ 8 * 5 := Nat.mul_le_mul hk2 v3
  refine s_feverish (n := n + 58) (A := A) hB a2 v3 (fun w hw => (aw w hw).2.2.1) ?_
  have em : nI k * nI (fcnt A S) = nI (k * fcnt A S) := pk_mul k _
  rw [em]
  refine ⟨fun q => ?_, fun q => ?_⟩
  · have hle : k * fcnt A S ≤ 12 := (nI_leI (a := k * fcnt A S) (b := 12) (by omega) (by decide)).mp q
    refine s_begin_R (n := n + 58) hR (fun I1 z g f1 e65 e67 e12 hD hz z1 zc zd => ?_)
    have e11 : I1 0 11 = nI r := (f1 0 11 rfl).trans r1
    rw [e11]
    have f2 : Fr PQ I (sm_uI (sm_uI (sm_uI I1 53 14 (nI t)) 53 15 (nI hs)) 53 16 (nI r)) := ((f1.u rfl).u rfl).u rfl
    have hD2 : cD (E0 A lb g) W H S N R I ν (sm_uI (sm_uI (sm_uI I1 53 14 (nI t)) 53 15 (nI hs)) 53 16 (nI r)) := cD_of hR f2 hD.2.1 hD.1.2.2.1 hD.1.2.2.2.2.1 hD.1.2.2.2.1 hD.1.2.2.2.2.2.1 hD.1.2.2.2.2.2.2 (fun w hw => ((hD.1.2.1) w hw).2.2.2.2.2) (by rw [sm_uI_ne (by decide), sm_uI_ne (by decide), sm_uI_ne (by decide)]; exact e65) (by rw [sm_uI_ne (by decide), sm_uI_ne (by decide), sm_uI_ne (by decide)]; exact e67)
    refine c_X0_partsInto hB (c_X0_partsFrom hB (fun x hx => ?_))
    have hcf := cfv_all (A := A) hS0 k
    refine s_parts_l (g := g) (hh := nI hs) hB hR.rl (vE_mk hR.va h0) hS0 ht hr (k * S) 12 (n + 26) x _ _ _ 0 k ν 0 0 0 (nI k) 1000000000 (by omega) (by omega) (by omega) (fun e => by omega) (by omega) (by omega) ?_ (by omega) ⟨by decide, by decide⟩ hx ⟨hD2, rfl, rfl, rfl⟩ (fun I2 f3 hC2 => ?_)
    · rw [if_neg (by omega), hcf]; exact hle
    · rw [if_neg (by omega), if_neg (by omega)]
      have f4 : Fr PQ I I2 := f2.tr (f3.mono PN_PQ)
      have hR2 := RR_c (v := z.2.2.1) hR f4 (Cok_mk hC2)
      have eu : mU N (I2 92) = cU N (I 35 0) := by rw [← hR2.u, f4 35 0 rfl]
      have ez : cU N ((sm_uI (sm_uI (sm_uI I1 53 14 (nI t)) 53 15 (nI hs)) 53 16 (nI r)) 53 0) = cU N (I 35 0) := hz.1.trans z1
      rw [ez]
      refine m_odds (n := n) (s := (sm_uI (sm_uI (sm_uI I1 53 14 (nI t)) 53 15 (nI hs)) 53 16 (nI r)) 53 13) hR2 ht hhs hk1 hk2 q3 hr ((f4 76 35 rfl).trans r2) (fun I' L' hR' => ?_)
      rw [if_pos hle, eu]
      exact h _ _ _ hR'
  · have hle : ¬ k * fcnt A S ≤ 12 := fun y => q (nI_le (a := k * fcnt A S) (b := 12) y (by decide))
    refine m_odds (n := n) (s := 0) hR ht hhs hk1 hk2 q3 hr r2 (fun I' L' hR' => ?_)
    rw [if_neg hle]
    exact h _ _ _ hR'
end
