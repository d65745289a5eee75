section
variable {n : Nat} {T : List sm_Sh} {I I' : sm_MI} {L L' : sm_ML} {A : Nat → Nat → Int32} {H S N R ν lb b ν' lb' b' : Nat} {W : Nat → (Nat → Int32) → Int32}
theorem s_add {F : sm_MI → sm_ML → Prop} {a1 a2 a3 : Int32} {q : Bool} {sc lt m : Nat} (hB : sm_Bs T) (h4 : I 44 4 = nI sc) (hs : sc < 20) (h5 : I 44 5 = nI lt) (hlt : lt ≤ 30) (hm : m ≤ 30) (h2 : a2 = nI m)
    (h : F (sm_uI (sm_uI (sm_uI (sm_uI (sm_uI (sm_uI I 46 sc a1) 48 sc a2) 50 sc a3) 52 sc (sm_z q)) 44 4 (nI (sc + 1))) 44 5 (nI (if lt < m then m else lt))) L) : sm_CV (n + 1) mX6_add T I L [.ref 44, .int a1, .int a2, .int a3, .int (sm_z q)] F := by
  have hmx : (if nI lt < nI m then nI m else nI lt) = nI (if lt < m then m else lt) := by
    by_cases z : lt < m
    · rw [if_pos (nI_lt z (by omega)), if_pos z]
    · rw [if_neg (nI_nlt (by omega) (by omega)), if_neg z]
  have i1 : (sm_uI I 46 sc a1) 44 4 = nI sc := h4
  have i2 : (sm_uI (sm_uI I 46 sc a1) 48 sc a2) 44 4 = nI sc := h4
  have i3 : (sm_uI (sm_uI (sm_uI I 46 sc a1) 48 sc a2) 50 sc a3) 44 4 = nI sc := h4
  have i4 : ∀ v, (sm_uI (sm_uI (sm_uI (sm_uI I 46 sc a1) 48 sc a2) 50 sc a3) 52 sc v) 44 4 = nI sc := fun v => h4
  have i5 : ∀ v w, (sm_uI (sm_uI (sm_uI (sm_uI (sm_uI I 46 sc a1) 48 sc a2) 50 sc a3) 52 sc v) 44 4 w) 44 5 = nI lt := fun v w => h5
  refine c_X6_add hB ?_
  rw [h4]
  refine s_set (t_45 hB) (t_46 hB) hs (by decide) ?_
  rw [i1]
  refine s_set (t_47 hB) (t_48 hB) hs (by decide) ?_
  rw [i2]
  refine s_set (t_49 hB) (t_50 hB) hs (by decide) ?_
  rw [i3]
  refine ⟨fun z => s_set (t_51 hB) (t_52 hB) hs (by decide) (fun I5 e5 => ?_), fun z => s_set (t_51 hB) (t_52 hB) hs (by decide) (fun I5 e5 => ?_)⟩
  · subst z
    rw [i4, nI_1] at e5
    have e6 : I5 44 5 = nI lt := by rw [e5]; exact i5 _ _
    rw [e6, h2, hmx, e5, h2]
    rw [h2] at h
    exact h
  · subst z
    rw [i4, nI_1] at e5
    have e6 : I5 44 5 = nI lt := by rw [e5]; exact i5 _ _
    rw [e6, h2, hmx, e5, h2]
    rw [h2] at h
    exact h
theorem p_see {G : Int32 → Int32 → sm_MI → sm_ML → Prop} {a m c : Int32} {q : Bool} (hR : RR A W H S N R ν lb b T I L) (h : ∀ v I' L', RR A W H S N R ν lb b T I' L' → G v v I' L') :
    sm_CI (n + 20) mX11_see T I L [.ref 0, .int a, .int m, .int c, .int (sm_z q)] (fun r1 I1 L1 => sm_CI (n + 20) mX12_see T I1 L1 [.ref 76, .int a, .int m, .int c, .int (sm_z q)] (fun r2 I2 L2 => G r1 r2 I2 L2)) := by
  have hB := hR.hB
  obtain ⟨⟨a1, a2, a3, a4, a5⟩, _, ⟨c1, c2, c3, c4, c5⟩, _, c6⟩ := hR.st
  have v1 := hR.va.2.1
  have v4 := hR.va.2.2.2.1
  obtain ⟨sc, lt, s1, s2, s3, s4, s5, s6⟩ := hR.ge
  have bad : (qW a 0 (nI N - 1) = false ∨ qW c 0 (nI H - 1) = false ∨ qW m 1 30 = false ∨ sc = 20) → sm_CI (n + 20) mX12_see T I L [.ref 76, .int a, .int m, .int c, .int (sm_z q)] (fun r2 I2 L2 => G (-1) r2 I2 L2) := by
    intro w
    refine c_X12_see hB (s_m_isThing hB ?_)
    rw [c3]
    refine ⟨fun _ => h _ _ _ hR, fun q1 => s_m_isHouse hB ?_⟩
    rw [c1]
    refine ⟨fun _ => h _ _ _ hR, fun q2 => s_m_in hB ⟨fun _ => h _ _ _ hR, fun q3 => ⟨fun q4 => ?_, fun _ => h _ _ _ hR⟩⟩⟩
    rcases w with w | w | w | w
    · rw [q1] at w; exact absurd w (by decide)
    · rw [q2] at w; exact absurd w (by decide)
    · rw [q3] at w; exact absurd w (by decide)
    · exact absurd (by rw [s4, w]; rfl) q4
  refine c_X11_see hB (s_hasThing hB ?_)
  rw [a3]
  refine ⟨fun q => bad (Or.inl q), fun q1 => s_hasHouse hB ?_⟩
  rw [a1]
  refine ⟨fun q2 => s_within hB ⟨fun q => bad (Or.inr (Or.inr (Or.inl q))), fun q3 => ⟨fun q4 => ?_, fun q4 => bad (Or.inr (Or.inr (Or.inr ?_)))⟩⟩, fun q => bad (Or.inr (Or.inl q))⟩
  · obtain ⟨t, ht, rfl⟩ := qW_nat (by omega) q1
    obtain ⟨k, hk, rfl⟩ := qW_nat (by omega) q2
    obtain ⟨m', hm1, hm2, rfl⟩ := qW_rng (lo := 1) (hi := 30) (by decide) (by decide) q3
    rw [s3] at q4
    have hsc : sc < 20 := q_ltI (y := 20) q4 (by omega) (by omega)
    refine s_add hB s3 hsc s5 s2 hm2 rfl ?_
    generalize hJ : sm_uI (sm_uI (sm_uI (sm_uI (sm_uI (sm_uI I 46 sc (nI t)) 48 sc (nI m')) 50 sc (nI k)) 52 sc (sm_z q)) 44 4 (nI (sc + 1))) 44 5 (nI (if lt < m' then m' else lt)) = J
    have j44 : J 44 4 = nI (sc + 1) := by rw [← hJ]; rfl
    have j76 : ∀ j, J 76 j = I 76 j := by intro j; rw [← hJ]; rfl
    rw [j44]
    refine c_X12_see hB (s_m_isThing hB ?_)
    rw [j76, c3, q1]
    refine ⟨fun y => absurd y (by decide), fun _ => s_m_isHouse hB ?_⟩
    rw [j76, c1, q2]
    refine ⟨fun y => absurd y (by decide), fun _ => s_m_in hB ?_⟩
    rw [show qW (nI m') 1 30 = true from q3]
    refine ⟨fun y => absurd y (by decide), fun _ => ⟨fun _ => ?_, fun y => absurd ((s4.symm.trans (j76 51).symm).trans y) (fun e => by have := (nI_eq (a := sc) (b := 20) (by omega) (by omega)).mp e; omega)⟩⟩
    rw [j76, s4, nI_clamp (by omega)]
    have hin : vp_in (nI sc) 20 := vp_in_nI hsc (by decide)
    refine ⟨hin, fun I7 h7 => ?_⟩
    have k7 : I7 76 51 = nI sc := by rw [h7]; exact (j76 51).trans s4
    rw [k7, nI_clamp (by omega)]
    refine ⟨hin, fun I8 h8 => ?_⟩
    have k8 : I8 76 51 = nI sc := by rw [h8]; exact k7
    rw [k8, nI_clamp (by omega)]
    refine ⟨hin, fun I9 h9 => ?_⟩
    have k9 : I9 76 51 = nI sc := by rw [h9]; exact k8
    rw [k9, nI_clamp (by omega)]
    refine ⟨hin, fun I10 h10 I11 h11 => ?_⟩
    have k10 : I10 76 51 = nI sc := by rw [h10]; exact k9
    rw [k10, nI_1] at h11
    have k11 : I11 76 51 = nI (sc + 1) := by rw [h11]; rfl
    rw [k11]
    refine h _ _ _ ?_
    have hI : I11 = sm_uI (sm_uI (sm_uI (sm_uI (sm_uI J 100 sc (nI t)) 101 sc (nI m')) 102 sc (nI k)) 103 sc (sm_z q)) 76 51 (nI (sc + 1)) := by rw [h11, h10, h9, h8, h7]
    clear h7 h8 h9 h10 h11 k7 k8 k9 k10
    have f : ∀ P : Nat → Nat → Bool, P 46 sc = true → P 48 sc = true → P 50 sc = true → P 52 sc = true → P 44 4 = true → P 44 5 = true → P 100 sc = true → P 101 sc = true → P 102 sc = true → P 103 sc = true → P 76 51 = true → Fr P I I11 := by
      intro P p1 p2 p3 p4 p5 p6 p7 p8 p9 p10 p11
      rw [hI, ← hJ]
      exact (((((((((((Fr.rf.u p1).u p2).u p3).u p4).u p5).u p6).u p7).u p8).u p9).u p10).u p11)
    obtain ⟨m1, m2, m3⟩ := gN_t (L' := L) hR (f kN rfl rfl rfl rfl rfl rfl rfl rfl rfl rfl rfl) rfl rfl
    obtain ⟨w1, w2, w3⟩ := RR_n hR (f kC rfl rfl rfl rfl rfl rfl rfl rfl rfl rfl rfl)
    have x46 : I11 46 = upd (I 46) sc (nI t) := by rw [hI, ← hJ]; simp only [sm_uI_at, sm_uI_ne (show (46 : Nat) ≠ 76 by decide), sm_uI_ne (show (46 : Nat) ≠ 100 by decide), sm_uI_ne (show (46 : Nat) ≠ 101 by decide), sm_uI_ne (show (46 : Nat) ≠ 102 by decide), sm_uI_ne (show (46 : Nat) ≠ 103 by decide), sm_uI_ne (show (46 : Nat) ≠ 44 by decide), sm_uI_ne (show (46 : Nat) ≠ 48 by decide), sm_uI_ne (show (46 : Nat) ≠ 50 by decide), sm_uI_ne (show (46 : Nat) ≠ 52 by decide)]
    have x48 : I11 48 = upd (I 48) sc (nI m') := by rw [hI, ← hJ]; simp only [sm_uI_at, sm_uI_ne (show (48 : Nat) ≠ 76 by decide), sm_uI_ne (show (48 : Nat) ≠ 100 by decide), sm_uI_ne (show (48 : Nat) ≠ 101 by decide), sm_uI_ne (show (48 : Nat) ≠ 102 by decide), sm_uI_ne (show (48 : Nat) ≠ 103 by decide), sm_uI_ne (show (48 : Nat) ≠ 44 by decide), sm_uI_ne (show (48 : Nat) ≠ 46 by decide), sm_uI_ne (show (48 : Nat) ≠ 50 by decide), sm_uI_ne (show (48 : Nat) ≠ 52 by decide)]
    have x50 : I11 50 = upd (I 50) sc (nI k) := by rw [hI, ← hJ]; simp only [sm_uI_at, sm_uI_ne (show (50 : Nat) ≠ 76 by decide), sm_uI_ne (show (50 : Nat) ≠ 100 by decide), sm_uI_ne (show (50 : Nat) ≠ 101 by decide), sm_uI_ne (show (50 : Nat) ≠ 102 by decide), sm_uI_ne (show (50 : Nat) ≠ 103 by decide), sm_uI_ne (show (50 : Nat) ≠ 44 by decide), sm_uI_ne (show (50 : Nat) ≠ 46 by decide), sm_uI_ne (show (50 : Nat) ≠ 48 by decide), sm_uI_ne (show (50 : Nat) ≠ 52 by decide)]
    have x52 : I11 52 = upd (I 52) sc (sm_z q) := by rw [hI, ← hJ]; simp only [sm_uI_at, sm_uI_ne (show (52 : Nat) ≠ 76 by decide), sm_uI_ne (show (52 : Nat) ≠ 100 by decide), sm_uI_ne (show (52 : Nat) ≠ 101 by decide), sm_uI_ne (show (52 : Nat) ≠ 102 by decide), sm_uI_ne (show (52 : Nat) ≠ 103 by decide), sm_uI_ne (show (52 : Nat) ≠ 44 by decide), sm_uI_ne (show (52 : Nat) ≠ 46 by decide), sm_uI_ne (show (52 : Nat) ≠ 48 by decide), sm_uI_ne (show (52 : Nat) ≠ 50 by decide)]
    have jj : ∀ k, k ≠ 46 → k ≠ 48 → k ≠ 50 → k ≠ 52 → k ≠ 44 → J k = I k := by
      intro k h1 h2 h3 h4 h5
      rw [← hJ, sm_uI_ne h5, sm_uI_ne h5, sm_uI_ne h4, sm_uI_ne h3, sm_uI_ne h2, sm_uI_ne h1]
    have x100 : I11 100 = upd (I 100) sc (nI t) := by rw [hI]; simp only [sm_uI_at, sm_uI_ne (show (100 : Nat) ≠ 76 by decide), sm_uI_ne (show (100 : Nat) ≠ 101 by decide), sm_uI_ne (show (100 : Nat) ≠ 102 by decide), sm_uI_ne (show (100 : Nat) ≠ 103 by decide), jj 100 (by decide) (by decide) (by decide) (by decide) (by decide)]
    have x101 : I11 101 = upd (I 101) sc (nI m') := by rw [hI]; simp only [sm_uI_at, sm_uI_ne (show (101 : Nat) ≠ 76 by decide), sm_uI_ne (show (101 : Nat) ≠ 100 by decide), sm_uI_ne (show (101 : Nat) ≠ 102 by decide), sm_uI_ne (show (101 : Nat) ≠ 103 by decide), jj 101 (by decide) (by decide) (by decide) (by decide) (by decide)]
    have x102 : I11 102 = upd (I 102) sc (nI k) := by rw [hI]; simp only [sm_uI_at, sm_uI_ne (show (102 : Nat) ≠ 76 by decide), sm_uI_ne (show (102 : Nat) ≠ 100 by decide), sm_uI_ne (show (102 : Nat) ≠ 101 by decide), sm_uI_ne (show (102 : Nat) ≠ 103 by decide), jj 102 (by decide) (by decide) (by decide) (by decide) (by decide)]
    have x103 : I11 103 = upd (I 103) sc (sm_z q) := by rw [hI]; simp only [sm_uI_at, sm_uI_ne (show (103 : Nat) ≠ 76 by decide), sm_uI_ne (show (103 : Nat) ≠ 100 by decide), sm_uI_ne (show (103 : Nat) ≠ 101 by decide), sm_uI_ne (show (103 : Nat) ≠ 102 by decide), jj 103 (by decide) (by decide) (by decide) (by decide) (by decide)]
    have x44 : I11 44 4 = nI (sc + 1) ∧ I11 44 5 = nI (if lt < m' then m' else lt) := by rw [hI, ← hJ]; exact ⟨rfl, rfl⟩
    refine RR_mk hB hR.bb (gS_t hR.st (f kS rfl rfl rfl rfl rfl rfl rfl rfl rfl rfl rfl)) hR.va m1 (gT_t hR.gt (f kT rfl rfl rfl rfl rfl rfl rfl rfl rfl rfl rfl)) (gI_t hR.gi (Nat.le_refl _) (f kI rfl rfl rfl rfl rfl rfl rfl rfl rfl rfl rfl) rfl rfl) (gP_t hR.gp (Nat.le_refl _) (f kP rfl rfl rfl rfl rfl rfl rfl rfl rfl rfl rfl) (fun _ => rfl)) ⟨sc + 1, if lt < m' then m' else lt, by omega, by split <;> omega, x44.1, k11, x44.2, fun j hj => ?_⟩ (gK_t hR.gk (f kR rfl rfl rfl rfl rfl rfl rfl rfl rfl rfl rfl)) (gM_t hR.gm (f kM rfl rfl rfl rfl rfl rfl rfl rfl rfl rfl rfl)) m2 m3 w1 w2 w3
    rw [x46, x48, x50, x52, x100, x101, x102, x103]
    by_cases e : j = sc
    · subst e
      simp only [pk_us]
      exact ⟨⟨t, ht, rfl, rfl⟩, ⟨m', hm1, by split <;> omega, rfl, rfl⟩, ⟨k, hk, rfl, rfl⟩, ⟨q, rfl, rfl⟩⟩
    · simp only [pk_un e]
      obtain ⟨e1, ⟨m2, e2, e3, e4⟩, e5, e6⟩ := s6 j (by omega)
      exact ⟨e1, ⟨m2, e2, by split <;> omega, e4⟩, e5, e6⟩
  · rw [s3] at q4
    have := q_nltI (y := 20) q4 (by omega) (by omega)
    omega
end
