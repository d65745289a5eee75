section
variable {n : Nat} {T : List sm_Sh} {I I' : sm_MI} {L L' : sm_ML} {A : Nat → Nat → Int32} {H S N R ν lb b ν' lb' b' : Nat} {W : Nat → (Nat → Int32) → Int32}
theorem s_m_image_l {F : Int32 → sm_MI → sm_ML → Prop} {x : sm_Cx} (hB : sm_Bs T) (hx : sm_Ok x mX12_image n (sm_KI T F)) (h : F (I 76 34) (sm_uI (sm_uI (sm_uI (sm_fill I 108 8 (I 92)) 76 57 (I 76 33)) 76 58 (I 76 34)) 76 60 (sm_z true)) (sm_uL L 76 59 (L 76 36))) :
    ∀ d i, i + d = 8 → sm_V x 0 0 T (sm_fill I 108 i (I 92)) L 11 [some (.ref 76), some (.int (nI i))] []
  | 0, i, e => by
    have : i = 8 := by omega
    subst this
    exact u_X12_image_11 hB hx ⟨fun _ I1 h1 I2 h2 => by subst h1; subst h2; exact h, fun q => absurd (nI_le (a := 8) (b := 8) (by omega) (by omega)) q⟩
  | d + 1, i, e => u_X12_image_11 hB hx ⟨fun q => absurd q (nI_ge (b := 8) (by omega) (by omega)), fun _ => ⟨vp_in_nI (by omega) (by decide), vp_in_nI (by omega) (by decide), by
      rw [nI_clamp (by omega), nI_1]
      have := s_m_image_l hB hx h d (i + 1) (by omega)
      rw [← sm_fill_s] at this
      exact this⟩⟩
theorem mU_fill {N m : Nat} (h : N ≤ m) (f : Nat → Int32) (J : sm_MI) (k : Nat) : mU N (sm_fill J k m f k) = mU N f := by
  funext t
  unfold mU sm_fill
  by_cases ht : t < N
  · have h2 : t < m := by omega
    simp [ht, h2]
  · rw [if_neg ht, if_neg ht]
theorem p_image {G : Int32 → Int32 → sm_MI → sm_ML → Prop} (hR : RR A W H S N R ν lb b T I L) (h : ∀ v I' L', RR A W H S N R ν lb b T I' L' → G v v I' L') :
    sm_CI (n + 20) mX11_image T I L [.ref 0] (fun r1 I1 L1 => sm_CI (n + 20) mX12_image T I1 L1 [.ref 76] (fun r2 I2 L2 => G r1 r2 I2 L2)) := by
  have hB := hR.hB
  obtain ⟨⟨a1, a2, a3, a4, a5⟩, _, ⟨c1, c2, c3, c4, c5⟩, _, c6⟩ := hR.st
  have v1 := hR.va.2.1
  have v4 := hR.va.2.2.2.1
  obtain ⟨g1, g2, g3, g4, g5, g6, g7⟩ := hR.gn
  refine c_X11_image hB (s_isTold hB ?_)
  rw [a1]
  refine ⟨fun q => c_X7_copy_kn hB (fun I1 h1 I2 h2 I4 h4 => ?_), fun q => c_X12_image hB (fun x hx => ⟨fun z => absurd ?_ z, fun _ => h _ _ _ hR⟩)⟩
  · have h0 : 0 < H := (q_told (by omega)).mp (of_decide_eq_true q)
    have e : I4 = sm_uI (sm_uI (sm_uI (sm_uI I 36 0 (I 35 0)) 36 1 (I 35 1)) 36 2 (I 35 2)) 0 7 (sm_z true) := by subst h1; subst h2; subst h4; rfl
    clear h1 h2 h4
    subst e
    refine c_X12_image hB (fun x hx => ⟨fun _ => ?_, fun z => absurd (show nI H = 0 from c1.symm.trans z) (nI_ne0 h0 (by omega))⟩)
    have key := s_m_image_l (I := sm_uI (sm_uI (sm_uI (sm_uI I 36 0 (I 35 0)) 36 1 (I 35 1)) 36 2 (I 35 2)) 0 7 (sm_z true)) (L := sm_uL L 36 3 (L 35 3)) hB hx ?_ 8 0 (by omega)
    · rw [sm_fill_0] at key; exact key
    · have e1 : (sm_uI (sm_uI (sm_uI (sm_uI I 36 0 (I 35 0)) 36 1 (I 35 1)) 36 2 (I 35 2)) 0 7 (sm_z true)) 35 1 = I 76 34 := g3.trans hR.n34.symm
      have e2 : (sm_uI (sm_uI (sm_uI (sm_uI I 36 0 (I 35 0)) 36 1 (I 35 1)) 36 2 (I 35 2)) 0 7 (sm_z true)) 76 34 = I 76 34 := rfl
      have e3 : (sm_uI (sm_uI (sm_uI (sm_uI I 36 0 (I 35 0)) 36 1 (I 35 1)) 36 2 (I 35 2)) 0 7 (sm_z true)) 76 33 = I 76 33 := rfl
      have e4 : (sm_uI (sm_uI (sm_uI (sm_uI I 36 0 (I 35 0)) 36 1 (I 35 1)) 36 2 (I 35 2)) 0 7 (sm_z true)) 92 = I 92 := by rw [sm_uI_ne (by decide), sm_uI_ne (by decide), sm_uI_ne (by decide), sm_uI_ne (by decide)]
      have e5 : (sm_uL L 36 3 (L 35 3)) 76 36 = L 35 3 := by rw [sm_uL_ne (by decide)]; exact g6.symm
      rw [e1, e2, e3, e4, e5]
      refine h _ _ _ ?_
      generalize hI : sm_uI (sm_uI (sm_uI (sm_fill (sm_uI (sm_uI (sm_uI (sm_uI I 36 0 (I 35 0)) 36 1 (I 35 1)) 36 2 (I 35 2)) 0 7 (sm_z true)) 108 8 (I 92)) 76 57 (I 76 33)) 76 58 (I 76 34)) 76 60 (sm_z true) = I9
      have f : ∀ P : Nat → Nat → Bool, P 36 0 = true → P 36 1 = true → P 36 2 = true → P 0 7 = true → (∀ j, P 108 j = true) → P 76 57 = true → P 76 58 = true → P 76 60 = true → Fr P I I9 := by
        intro P p1 p2 p3 p4 p5 p6 p7 p8
        rw [← hI]
        exact ((((((((Fr.rf.u p1).u p2).u p3).u p4).f p5).u p6).u p7).u p8)
      have l35 : (sm_uL (sm_uL L 36 3 (L 35 3)) 76 59 (L 35 3)) 35 3 = L 35 3 := by rw [sm_uL_ne (by decide), sm_uL_ne (by decide)]
      have l76 : (sm_uL (sm_uL L 36 3 (L 35 3)) 76 59 (L 35 3)) 76 36 = L 76 36 := by simp [sm_uL]
      have l36 : (sm_uL (sm_uL L 36 3 (L 35 3)) 76 59 (L 35 3)) 36 3 = L 35 3 := by simp [sm_uL]
      have l59 : (sm_uL (sm_uL L 36 3 (L 35 3)) 76 59 (L 35 3)) 76 59 = L 35 3 := by simp [sm_uL]
      obtain ⟨m1, m2, m3⟩ := gN_t hR (f kN rfl rfl rfl rfl (fun _ => rfl) rfl rfl rfl) l35 l76
      obtain ⟨w1, w2, w3⟩ := RR_n hR (f kC rfl rfl rfl rfl (fun _ => rfl) rfl rfl rfl)
      refine RR_mk hB hR.bb (gS_t hR.st (f kS rfl rfl rfl rfl (fun _ => rfl) rfl rfl rfl)) hR.va m1 (gT_t hR.gt (f kT rfl rfl rfl rfl (fun _ => rfl) rfl rfl rfl)) ?_ (gP_t hR.gp (Nat.le_refl _) (f kP rfl rfl rfl rfl (fun _ => rfl) rfl rfl rfl) (fun i => by rw [sm_uL_ne (by decide), sm_uL_ne (by decide)])) (gE_t hR.ge (f kE rfl rfl rfl rfl (fun _ => rfl) rfl rfl rfl)) (gK_t hR.gk (f kR rfl rfl rfl rfl (fun _ => rfl) rfl rfl rfl)) (gM_t hR.gm (f kM rfl rfl rfl rfl (fun _ => rfl) rfl rfl rfl)) m2 m3 w1 w2 w3
      have e36 : I9 36 0 = I 35 0 := by rw [← hI]; rfl
      have e361 : I9 36 1 = I 35 1 := by rw [← hI]; rfl
      have e362 : I9 36 2 = I 35 2 := by rw [← hI]; rfl
      have e108 : mU N (I9 108) = mU N (I 92) := by
        rw [← hI, sm_uI_ne (by decide), sm_uI_ne (by decide), sm_uI_ne (by decide)]
        exact mU_fill v4 _ _ _
      refine ⟨true, by rw [← hI]; rfl, by rw [← hI]; rfl, fun _ => ⟨h0, ?_, ?_, ⟨ν, g1, ?_, ?_⟩, ⟨lb, g2, ?_, ?_⟩, ?_⟩⟩
      · rw [e36, e108]; exact hR.u
      · rw [e36]; exact g7
      · rw [e361]; exact g3
      · rw [← hI]; exact hR.n34
      · rw [e362]; exact g4
      · rw [← hI]; exact g5
      · rw [l36, l59]
  · have q0 : H = 0 := by
      rcases Nat.eq_zero_or_pos H with z | z
      · exact z
      · exact absurd ((q_told (by omega)).mpr z) (of_decide_eq_false q)
    rw [c1, q0]; rfl
theorem s_m_back_l {F : Int32 → sm_MI → sm_ML → Prop} {x : sm_Cx} (hB : sm_Bs T) (hx : sm_Ok x mX12_back n (sm_KI T F)) (h : F (I 76 58) (sm_uI (sm_uI (sm_uI (sm_fill I 92 8 (I 108)) 76 33 (I 76 57)) 76 34 (I 76 58)) 76 42 0) (sm_uL L 76 36 (L 76 59))) :
    ∀ d i, i + d = 8 → sm_V x 0 0 T (sm_fill I 92 i (I 108)) L 11 [some (.ref 76), some (.int (nI i))] []
  | 0, i, e => by
    have : i = 8 := by omega
    subst this
    exact u_X12_back_11 hB hx ⟨fun _ I1 h1 I2 h2 => by subst h1; subst h2; exact h, fun q => absurd (nI_le (a := 8) (b := 8) (by omega) (by omega)) q⟩
  | d + 1, i, e => u_X12_back_11 hB hx ⟨fun q => absurd q (nI_ge (b := 8) (by omega) (by omega)), fun _ => ⟨vp_in_nI (by omega) (by decide), vp_in_nI (by omega) (by decide), by
      rw [nI_clamp (by omega), nI_1]
      have := s_m_back_l hB hx h d (i + 1) (by omega)
      rw [← sm_fill_s] at this
      exact this⟩⟩
theorem p_back {G : Int32 → Int32 → sm_MI → sm_ML → Prop} (hR : RR A W H S N R ν lb b T I L) (h : ∀ v ν' lb' I' L', RR A W H S N R ν' lb' b T I' L' → G v v I' L') :
    sm_CI (n + 20) mX11_back T I L [.ref 0] (fun r1 I1 L1 => sm_CI (n + 20) mX12_back T I1 L1 [.ref 76] (fun r2 I2 L2 => G r1 r2 I2 L2)) := by
  have hB := hR.hB
  have v4 := hR.va.2.2.2.1
  obtain ⟨hi, i1, i2, i3⟩ := hR.gi
  refine c_X11_back hB ⟨fun q => c_X7_copy_nk hB (fun I1 h1 I2 h2 => c_X1_forget hB ?_), fun q => c_X12_back hB (fun x hx => ⟨fun z => absurd ((i2.trans i1.symm).trans q) z, fun _ => h _ _ _ _ _ hR⟩)⟩
  have hit : hi = true := by
    cases hi
    · exact absurd (i1.trans rfl) q
    · rfl
  obtain ⟨f1, f2, f3, ⟨m, hm, f4, f4'⟩, ⟨l, hl, f5, f5'⟩, f6⟩ := i3 hit
  have e : sm_uI (sm_uI I2 35 2 (I2 36 2)) 37 4 0 = sm_uI (sm_uI (sm_uI (sm_uI I 35 0 (I 36 0)) 35 1 (I 36 1)) 35 2 (I 36 2)) 37 4 0 := by subst h1; subst h2; rfl
  rw [e]
  refine c_X12_back hB (fun x hx => ⟨fun _ => ?_, fun z => absurd ((i1.trans i2.symm).trans z) q⟩)
  have key := s_m_back_l (I := sm_uI (sm_uI (sm_uI (sm_uI I 35 0 (I 36 0)) 35 1 (I 36 1)) 35 2 (I 36 2)) 37 4 0) (L := sm_uL L 35 3 (L 36 3)) hB hx ?_ 8 0 (by omega)
  · rw [sm_fill_0] at key; exact key
  · have e1 : (sm_uI (sm_uI (sm_uI (sm_uI I 35 0 (I 36 0)) 35 1 (I 36 1)) 35 2 (I 36 2)) 37 4 0) 35 1 = I 76 58 := f4.trans f4'.symm
    have e2 : (sm_uI (sm_uI (sm_uI (sm_uI I 35 0 (I 36 0)) 35 1 (I 36 1)) 35 2 (I 36 2)) 37 4 0) 76 58 = I 76 58 := rfl
    have e3 : (sm_uI (sm_uI (sm_uI (sm_uI I 35 0 (I 36 0)) 35 1 (I 36 1)) 35 2 (I 36 2)) 37 4 0) 76 57 = I 76 57 := rfl
    have e4 : (sm_uI (sm_uI (sm_uI (sm_uI I 35 0 (I 36 0)) 35 1 (I 36 1)) 35 2 (I 36 2)) 37 4 0) 108 = I 108 := by rw [sm_uI_ne (by decide), sm_uI_ne (by decide), sm_uI_ne (by decide), sm_uI_ne (by decide)]
    have e5 : (sm_uL L 35 3 (L 36 3)) 76 59 = L 36 3 := by rw [sm_uL_ne (by decide)]; exact f6.symm
    rw [e1, e2, e3, e4, e5]
    refine h _ m l _ _ ?_
    generalize hI : sm_uI (sm_uI (sm_uI (sm_fill (sm_uI (sm_uI (sm_uI (sm_uI I 35 0 (I 36 0)) 35 1 (I 36 1)) 35 2 (I 36 2)) 37 4 0) 92 8 (I 108)) 76 33 (I 76 57)) 76 34 (I 76 58)) 76 42 0 = I9
    have f : ∀ P : Nat → Nat → Bool, P 35 0 = true → P 35 1 = true → P 35 2 = true → P 37 4 = true → (∀ j, P 92 j = true) → P 76 33 = true → P 76 34 = true → P 76 42 = true → Fr P I I9 := by
      intro P p1 p2 p3 p4 p5 p6 p7 p8
      rw [← hI]
      exact ((((((((Fr.rf.u p1).u p2).u p3).u p4).f p5).u p6).u p7).u p8)
    have l35 : (sm_uL (sm_uL L 35 3 (L 36 3)) 76 36 (L 36 3)) 35 3 = L 36 3 := by simp [sm_uL]
    have l76 : (sm_uL (sm_uL L 35 3 (L 36 3)) 76 36 (L 36 3)) 76 36 = L 36 3 := by simp [sm_uL]
    have l36 : (sm_uL (sm_uL L 35 3 (L 36 3)) 76 36 (L 36 3)) 36 3 = L 36 3 := by simp [sm_uL]
    have l59 : (sm_uL (sm_uL L 35 3 (L 36 3)) 76 36 (L 36 3)) 76 59 = L 76 59 := by simp [sm_uL]
    obtain ⟨w1, w2, w3⟩ := RR_n hR (f kC rfl rfl rfl rfl (fun _ => rfl) rfl rfl rfl)
    have e35 : I9 35 0 = I 36 0 := by rw [← hI]; rfl
    have e92 : mU N (I9 92) = mU N (I 108) := by
      rw [← hI, sm_uI_ne (by decide), sm_uI_ne (by decide), sm_uI_ne (by decide)]
      exact mU_fill v4 _ _ _
    obtain ⟨nx, ct, p1, p2, p3, p4, p5, p6, p7⟩ := hR.gp
    refine RR_mk hB hR.bb (gS_t hR.st (f kS rfl rfl rfl rfl (fun _ => rfl) rfl rfl rfl)) hR.va ⟨hm, hl, ?_, ?_, ?_, ?_, ?_⟩ (gT_t hR.gt (f kT rfl rfl rfl rfl (fun _ => rfl) rfl rfl rfl)) (gI_t hR.gi (Nat.le_refl _) (f kI rfl rfl rfl rfl (fun _ => rfl) rfl rfl rfl) l36 l59) ⟨nx, 0, p1, by omega, by omega, ?_, ?_, ?_, fun i hi => absurd hi (by omega)⟩ (gE_t hR.ge (f kE rfl rfl rfl rfl (fun _ => rfl) rfl rfl rfl)) (gK_t hR.gk (f kR rfl rfl rfl rfl (fun _ => rfl) rfl rfl rfl)) (gM_t hR.gm (f kM rfl rfl rfl rfl (fun _ => rfl) rfl rfl rfl)) ?_ ?_ w1 w2 w3
    · rw [← hI]; exact f4
    · rw [← hI]; exact f5
    · rw [← hI]; exact f5'
    · rw [l35, l76]
    · rw [e35]; exact f3
    · rw [← hI]; exact p4
    · rw [← hI]; rfl
    · rw [← hI]; rfl
    · rw [e35, e92]; exact f2
    · rw [← hI]; exact f4'
end
