section
variable {n : Nat} {T : List sm_Sh} {I I' : sm_MI} {L L' : sm_ML} {A : Nat → Nat → Int32} {H S N R ν lb b ν' lb' b' : Nat} {W : Nat → (Nat → Int32) → Int32}
theorem s_m_undo_l {F : Int32 → sm_MI → sm_ML → Prop} {x : sm_Cx} {c : Nat} (hB : sm_Bs T) (hc : c < 60) (hx : sm_Ok x mX12_undo n (sm_KI T F)) (hI : I 76 42 = nI c) (h : F (I 76 34 - 1) (sm_uI (sm_fill I 92 8 (fun t => I 95 (8 * c + t))) 76 34 (I 76 34 - 1)) (sm_uL L 76 36 (L 96 c))) :
    ∀ d i, i + d = 8 → sm_V x 0 0 T (sm_fill I 92 i (fun t => I 95 (8 * c + t))) L 21 [some (.ref 76), some (.int (nI i))] []
  | 0, i, e => by
    have : i = 8 := by omega
    subst this
    have e42 : (sm_fill I 92 8 (fun t => I 95 (8 * c + t))) 76 42 = nI c := hI
    refine u_X12_undo_21 hB hx ⟨fun _ => ?_, fun q => absurd (nI_le (a := 8) (b := 8) (by omega) (by omega)) q⟩
    rw [e42, nI_clamp (by omega)]
    exact ⟨vp_in_nI hc (by decide), fun I1 h1 => by subst h1; exact h⟩
  | d + 1, i, e => by
    have e42 : (sm_fill I 92 i (fun t => I 95 (8 * c + t))) 76 42 = nI c := hI
    have e8 : (8 : Int32) * nI c + nI i = nI (8 * c + i) := by
      have : (8 : Int32) * nI c = nI (8 * c) := pk_mul 8 c
      rw [this, nI_add]
    refine u_X12_undo_21 hB hx ⟨fun q => absurd q (nI_ge (b := 8) (by omega) (by omega)), fun _ => ?_⟩
    rw [e42, e8, nI_clamp (by omega), nI_clamp (by omega), nI_1]
    refine ⟨vp_in_nI (by omega) (by decide), vp_in_nI (by omega) (by decide), ?_⟩
    have := s_m_undo_l (F := F) hB hc hx hI h d (i + 1) (by omega)
    rw [← sm_fill_s] at this
    exact this
theorem p_undo {G : Int32 → Int32 → sm_MI → sm_ML → Prop} (hR : RR A W H S N R ν lb b T I L) (h : ∀ v ν' I' L', RR A W H S N R ν' lb b T I' L' → G v v I' L') :
    sm_CI (n + 20) mX11_undo T I L [.ref 0] (fun r1 I1 L1 => sm_CI (n + 20) mX12_undo T I1 L1 [.ref 76] (fun r2 I2 L2 => G r1 r2 I2 L2)) := by
  have hB := hR.hB
  have v4 := hR.va.2.2.2.1
  have hb := hR.bb
  obtain ⟨g1, g2, g3, g4, g5, g6, g7⟩ := hR.gn
  obtain ⟨nx, ct, p1, p2, p3, p4, p5, p6, p7⟩ := hR.gp
  refine c_X11_undo hB (c_X1_takeBack hB ⟨fun q => ?_, fun q => ⟨fun _ => c_X12_undo hB (fun x hx => ⟨fun z => absurd ((p6.trans p5.symm).trans q) z, fun _ => h _ _ _ _ hR⟩), fun z => absurd z (by decide)⟩⟩)
  have hct : 0 < ct := by
    rcases Nat.eq_zero_or_pos ct with z | z
    · exact absurd (by rw [p5, z]; rfl) q
    · exact z
  intro I1 h1 I2 h2
  have hs : (nI nx + 60 - 1) - (nI nx + 60 - 1) / 60 * 60 = nI ((nx + 59) % 60) := by
    have e1 : nI nx + 60 = nI (nx + 60) := nI_add nx 60
    have e2 : nI (nx + 60) - 1 = nI (nx + 59) := pk_sub (a := nx + 60) (b := 1) (by omega)
    rw [e1, e2]
    exact pk_rem (d := 60) (by omega) (by decide) (by decide)
  have hc1 : nI ct - 1 = nI (ct - 1) := pk_sub (a := ct) (b := 1) hct
  have e2 : I2 = sm_uI (sm_uI I 37 4 (nI (ct - 1))) 37 3 (nI ((nx + 59) % 60)) := by
    have e3 : I1 37 3 = nI nx := by rw [h1]; exact p4
    rw [h2, e3, hs, h1, p5, hc1]
  clear h1 h2
  subst e2
  have hslot : (nx + 59) % 60 < 60 := Nat.mod_lt _ (by decide)
  have hsl : (nx + 60 - ct + (ct - 1)) % 60 = (nx + 59) % 60 := by rw [show nx + 60 - ct + (ct - 1) = nx + 59 by omega]
  obtain ⟨q1, q2, q3⟩ := p7 (ct - 1) (by omega)
  rw [hsl] at q1 q2 q3
  refine s_at (t_38 hB) (t_39 hB) hslot (by decide) ?_
  intro I5 h5
  have e5 : I5 37 3 = nI ((nx + 59) % 60) := by rw [h5]; rfl
  rw [e5]
  refine s_at (t_40 hB) (t_41 hB) hslot (by decide) ?_
  rw [e5]
  refine s_at (t_42 hB) (t_43 hB) hslot (by decide) ?_
  have e6 : ∀ v, sm_uI I5 35 1 v = sm_uI (sm_uI (sm_uI (sm_uI I 37 4 (nI (ct - 1))) 37 3 (nI ((nx + 59) % 60))) 35 0 (I 39 ((nx + 59) % 60))) 35 1 v := by intro v; rw [h5]; rfl
  have e7 : I5 35 1 = nI ν := by rw [h5]; exact g3
  have e8 : I5 41 = I 41 := by rw [h5, sm_uI_ne (by decide), sm_uI_ne (by decide), sm_uI_ne (by decide)]
  have e9 : I5 43 = I 43 := by rw [h5, sm_uI_ne (by decide), sm_uI_ne (by decide), sm_uI_ne (by decide)]
  have hν1 : nI ν - 1 = nI (ν - 1) := pk_sub (a := ν) (b := 1) (by omega)
  rw [e6, e7, e8, e9, hν1]
  refine ⟨fun z => absurd z (by decide), fun _ => ?_⟩
  generalize hJ : sm_uI (sm_uI (sm_uI (sm_uI I 37 4 (nI (ct - 1))) 37 3 (nI ((nx + 59) % 60))) 35 0 (I 39 ((nx + 59) % 60))) 35 1 (nI (ν - 1)) = J
  have eJ : J 35 1 = nI (ν - 1) := by rw [← hJ]; rfl
  have j42 : J 76 42 = nI ct := by rw [← hJ]; exact p6
  have jq : qDw (I 41 ((nx + 59) % 60)) (I 43 ((nx + 59) % 60)) = L 96 (ct - 1) := q3
  rw [eJ, show ((Int32.toInt64 (I 41 ((nx + 59) % 60))) <<< (Int32.toInt64 32 &&& 63)) ||| ((Int32.toInt64 (I 43 ((nx + 59) % 60))) &&& 4294967295) = L 96 (ct - 1) from jq]
  refine c_X12_undo hB (fun x hx => ⟨fun _ => ?_, fun z => absurd (j42.symm.trans z) (nI_ne0 hct (by omega))⟩)
  rw [j42, hc1]
  have key := s_m_undo_l (I := sm_uI J 76 42 (nI (ct - 1))) (L := sm_uL L 35 3 (L 96 (ct - 1))) (c := ct - 1) hB (by omega) hx rfl ?_ 8 0 (by omega)
  · rw [sm_fill_0] at key; exact key
  · have j34 : (sm_uI J 76 42 (nI (ct - 1))) 76 34 = nI ν := by rw [← hJ]; exact hR.n34
    have j95 : (sm_uI J 76 42 (nI (ct - 1))) 95 = I 95 := by rw [← hJ]; rw [sm_uI_ne (by decide), sm_uI_ne (by decide), sm_uI_ne (by decide), sm_uI_ne (by decide), sm_uI_ne (by decide)]
    have l96 : (sm_uL L 35 3 (L 96 (ct - 1))) 96 (ct - 1) = L 96 (ct - 1) := by rw [sm_uL_ne (by decide)]
    rw [j34, hν1, j95, l96]
    refine h _ (ν - 1) _ _ ?_
    generalize hI : sm_uI (sm_fill (sm_uI J 76 42 (nI (ct - 1))) 92 8 (fun t => I 95 (8 * (ct - 1) + t))) 76 34 (nI (ν - 1)) = I9
    have f : ∀ P : Nat → Nat → Bool, P 37 4 = true → P 37 3 = true → P 35 0 = true → P 35 1 = true → P 76 42 = true → (∀ j, P 92 j = true) → P 76 34 = true → Fr P I I9 := by
      intro P p1 p2 p3 p4 p5 p6 p7
      rw [← hI, ← hJ]
      exact (((((((Fr.rf.u p1).u p2).u p3).u p4).u p5).f p6).u p7)
    have l35 : (sm_uL (sm_uL L 35 3 (L 96 (ct - 1))) 76 36 (L 96 (ct - 1))) 35 3 = L 96 (ct - 1) := by simp [sm_uL]
    have l76 : (sm_uL (sm_uL L 35 3 (L 96 (ct - 1))) 76 36 (L 96 (ct - 1))) 76 36 = L 96 (ct - 1) := by simp [sm_uL]
    have l36 : (sm_uL (sm_uL L 35 3 (L 96 (ct - 1))) 76 36 (L 96 (ct - 1))) 36 3 = L 36 3 := by simp [sm_uL]
    have l59 : (sm_uL (sm_uL L 35 3 (L 96 (ct - 1))) 76 36 (L 96 (ct - 1))) 76 59 = L 76 59 := by simp [sm_uL]
    have l96' : ∀ i, (sm_uL (sm_uL L 35 3 (L 96 (ct - 1))) 76 36 (L 96 (ct - 1))) 96 i = L 96 i := by intro i; simp [sm_uL]
    obtain ⟨w1, w2, w3⟩ := RR_n hR (f kC rfl rfl rfl rfl rfl (fun _ => rfl) rfl)
    have e35 : I9 35 0 = I 39 ((nx + 59) % 60) := by rw [← hI, ← hJ]; rfl
    have e92 : mU N (I9 92) = mU N (fun t => I 95 (8 * (ct - 1) + t)) := by
      rw [← hI, sm_uI_ne (by decide)]
      exact mU_fill v4 _ _ _
    have k1 : Fr (fun k j => (k == 37 && (j == 3 || j == 4)) || (k == 76 && j == 42) || k == 35 || k == 92 || (k == 76 && j == 34)) I I9 := f _ rfl rfl rfl rfl rfl (fun _ => rfl) rfl
    refine RR_mk hB hR.bb (gS_t hR.st (f kS rfl rfl rfl rfl rfl (fun _ => rfl) rfl)) hR.va ⟨by omega, g2, ?_, ?_, ?_, ?_, ?_⟩ (gT_t hR.gt (f kT rfl rfl rfl rfl rfl (fun _ => rfl) rfl)) (gI_t hR.gi (Nat.le_refl _) (f kI rfl rfl rfl rfl rfl (fun _ => rfl) rfl) l36 l59) ⟨(nx + 59) % 60, ct - 1, hslot, by omega, by omega, ?_, ?_, ?_, fun i hi => ?_⟩ (gE_t hR.ge (f kE rfl rfl rfl rfl rfl (fun _ => rfl) rfl)) (gK_t hR.gk (f kR rfl rfl rfl rfl rfl (fun _ => rfl) rfl)) (gM_t hR.gm (f kM rfl rfl rfl rfl rfl (fun _ => rfl) rfl)) ?_ ?_ w1 w2 w3
    · rw [← hI, ← hJ]; rfl
    · rw [← hI, ← hJ]; exact g4
    · rw [← hI, ← hJ]; exact g5
    · rw [l35, l76]
    · rw [e35]; exact q2
    · rw [← hI, ← hJ]; rfl
    · rw [← hI, ← hJ]; rfl
    · rw [← hI, ← hJ]; rfl
    · have hz : ((nx + 59) % 60 + 60 - (ct - 1) + i) % 60 = (nx + 60 - ct + i) % 60 := by omega
      rw [hz, l96', k1.at 39 (fun _ => rfl), k1.at 41 (fun _ => rfl), k1.at 43 (fun _ => rfl), k1.at 95 (fun _ => rfl)]
      exact p7 i (by omega)
    · rw [e35, e92]; exact q1
    · rw [← hI, sm_uI_at, pk_us]
end
