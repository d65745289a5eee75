section
variable {n : Nat} {T : List sm_Sh} {I I' : sm_MI} {L L' : sm_ML} {A : Nat → Nat → Int32} {H S N R ν lb b ν' lb' b' : Nat} {W : Nat → (Nat → Int32) → Int32}
theorem qW_m1 {v : Int32} {R : Nat} (hR : R ≤ 5) (h : qW v (-1) (nI R - 1) = true) : v = -1 ∨ ∃ i, i < R ∧ v = nI i := by
  have ⟨h1, h2⟩ := qW_ok.mp h
  by_cases h0 : v < 0
  · left
    rw [fa_lt] at h0 h1
    rw [fa_eq]
    have e1 : (-1 : Int32).toInt = -1 := by decide
    have e0 : (0 : Int32).toInt = 0 := by decide
    omega
  · right
    obtain ⟨j, hj, rfl⟩ := nI_of h0
    refine ⟨j, ?_, rfl⟩
    rcases Nat.eq_zero_or_pos R with z | z
    · subst z
      exact absurd (by
        rw [fa_lt, nI_toInt hj]
        have : (nI 0 - 1).toInt = -1 := by decide +kernel
        omega) h2
    · have e : nI R - 1 = nI (R - 1) := pk_sub (a := R) (b := 1) z
      rw [e] at h2
      have := q_nltI h2 (by omega) hj
      omega
theorem p_rule {G : Bool → Bool → sm_MI → sm_ML → Prop} {a v : Int32} {e0 : Nat} (h23 : T[23]? = some (.inr (0, [.int 0, .ref e0, .int 0]))) (hsz : ∀ (F : Int32 → sm_MI → sm_ML → Prop) (n : Nat) (I : sm_MI) (L : sm_ML), F (I 23 2) I L → sm_CI n mJx4a65c_size_8abf5 T I L [.ref 23] F) (hR : RR A W H S N R ν lb b T I L) (h : ∀ r A' I' L', RR A' W H S N R ν lb b T I' L' → G r r I' L') :
    sm_CZ (n + 20) mX11_rule T I L [.ref 0, .int a, .int v] (fun r1 I1 L1 => sm_CZ (n + 20) mX12_rule T I1 L1 [.ref 76, .int a, .int v] (fun r2 I2 L2 => G r1 r2 I2 L2)) := by
  have hB := hR.hB
  obtain ⟨⟨a1, a2, a3, a4, a5⟩, ab, ⟨c1, c2, c3, c4, c5⟩, cb, c6⟩ := hR.st
  have v3 := hR.va.2.2.1
  have v5 := hR.va.2.2.2.2.1
  have bad : (qW a 0 (nI S - 1) = false ∨ qW v (-1) (nI R - 1) = false) → sm_CZ (n + 20) mX12_rule T I L [.ref 76, .int a, .int v] (fun r2 I2 L2 => G false r2 I2 L2) := by
    intro w
    refine c_X12_rule hB (s_m_isSleeper hB ?_)
    rw [c2]
    refine ⟨fun _ => h _ _ _ _ hR, fun q1 => s_m_in hB ?_⟩
    rw [hR.rest.2.1]
    refine ⟨fun q2 => ?_, fun _ => h _ _ _ _ hR⟩
    rcases w with w | w
    · rw [q1] at w; exact absurd w (by decide)
    · rw [q2] at w; exact absurd w (by decide)
  refine c_X11_rule hB h23 (s_hasSleeper hB ?_)
  rw [a2]
  refine ⟨fun q => bad (Or.inl q), fun q1 => hsz _ _ _ _ (s_within hB ?_)⟩
  rw [hR.rest.1]
  refine ⟨fun q2 => ?_, fun q => bad (Or.inr q)⟩
  obtain ⟨w, hw, rfl⟩ := qW_nat (by omega) q1
  refine s_set (t_33 hB) (t_34 hB) (by omega) (by decide) (c_X0_forgetWorths hB (s_fill (t_66 hB) (t_67 hB) (by decide) ?_))
  generalize hJ : sm_fill (sm_uI I 34 w v) 67 2880 (fun _ => -1) = J
  have j76 : ∀ j, J 76 j = I 76 j := by intro j; rw [← hJ]; rfl
  refine c_X12_rule hB (s_m_isSleeper hB ?_)
  rw [j76, c2, q1]
  refine ⟨fun y => absurd y (by decide), fun _ => s_m_in hB ?_⟩
  rw [j76, hR.rest.2.1, q2]
  refine ⟨fun _ => ⟨vp_in_nI (by omega) (by decide), ?_⟩, fun y => absurd y (by decide)⟩
  rw [nI_clamp (by omega)]
  refine h _ (sm_uI A 5 w v) _ _ ?_
  generalize hI : sm_uI J 91 w v = I9
  have f : ∀ P : Nat → Nat → Bool, P 34 w = true → (∀ j, P 67 j = true) → P 91 w = true → Fr P I I9 := by
    intro P p1 p2 p3
    rw [← hI, ← hJ]
    exact ((Fr.rf.u p1).f p2).u p3
  have x34 : I9 34 = upd (I 34) w v := by
    rw [← hI, ← hJ, sm_uI_ne (by decide)]
    funext j
    simp only [sm_fill, if_neg (show ¬ (34 : Nat) = 67 by decide), sm_uI_at]
  have x91 : I9 91 = upd (I 91) w v := by
    rw [← hI, sm_uI_at, ← hJ]
    have : (sm_fill (sm_uI I 34 w v) 67 2880 (fun _ => -1)) 91 = I 91 := by
      funext j
      simp only [sm_fill, if_neg (show ¬ (91 : Nat) = 67 by decide), sm_uI_ne (show (91 : Nat) ≠ 34 by decide)]
    rw [this]
  have x67 : ∀ j, j < 2880 → I9 67 j = -1 := by
    intro j hj
    rw [← hI, ← hJ, sm_uI_ne (by decide)]
    simp [sm_fill, hj]
  have k1 : Fr (fun k j => (k == 34 && j == w) || k == 67 || (k == 91 && j == w)) I I9 := f _ (by simp) (fun _ => rfl) (by simp)
  obtain ⟨m1, m2, m3⟩ := gN_t (L' := L) hR (f kN rfl (fun _ => rfl) rfl) rfl rfl
  have w2 := sRL_up hR.rl (fun k hk => k1.at k (fun j => by
    have e1 : (k == 34) = false := by simp; omega
    have e2 : (k == 67) = false := by simp; omega
    have e3 : (k == 91) = false := by simp; omega
    simp only [e1, e2, e3, Bool.false_and, Bool.or_false]))
  have w3 := mRL_up hR.ml (fun k h1 h2 => k1.at k (fun j => by
    have e1 : (k == 34) = false := by simp; omega
    have e2 : (k == 67) = false := by simp; omega
    have e3 : (k == 91) = false := by simp; omega
    simp only [e1, e2, e3, Bool.false_and, Bool.or_false]))
  have upd5 : ∀ j (g : Nat → Int32), g j = A 5 j → upd g w v j = (sm_uI A 5 w v) 5 j := by
    intro j g hg
    rw [sm_uI_at]
    by_cases e : j = w
    · subst e; rw [pk_us, pk_us]
    · rw [pk_un e, pk_un e]; exact hg
  obtain ⟨y1, y2, y3, y4, y5, y6, y7, y8⟩ := hR.va
  refine RR_mk hB hR.bb ⟨⟨?_, ?_, ?_, ?_, ?_⟩, fun j hj => ?_, ⟨?_, ?_, ?_, ?_, ?_⟩, fun j hj => ?_, ?_⟩ ⟨y1, y2, y3, y4, y5, fun j hj => ?_, y7, y8⟩ m1 (gT_t hR.gt (f kT rfl (fun _ => rfl) rfl)) (gI_t hR.gi (Nat.le_refl _) (f kI rfl (fun _ => rfl) rfl) rfl rfl) (gP_t hR.gp (Nat.le_refl _) (f kP rfl (fun _ => rfl) rfl) (fun _ => rfl)) (gE_t hR.ge (f kE rfl (fun _ => rfl) rfl)) (gK_t hR.gk (f kR rfl (fun _ => rfl) rfl)) (gM_t hR.gm (f kM rfl (fun _ => rfl) rfl)) m2 m3 ?_ w2 w3
  · exact (k1 24 0 rfl).trans a1
  · exact (k1 24 1 rfl).trans a2
  · exact (k1 24 2 rfl).trans a3
  · exact (k1 24 4 rfl).trans a4
  · exact (k1 24 5 rfl).trans a5
  · obtain ⟨z1, z2, z3, z4, z5⟩ := ab j hj
    refine ⟨(k1 26 j rfl).trans z1, (k1 28 j rfl).trans z2, (k1 30 j rfl).trans z3, (k1 32 j rfl).trans z4, ?_⟩
    rw [x34]
    exact upd5 j _ z5
  · exact (k1 76 26 rfl).trans c1
  · exact (k1 76 27 rfl).trans c2
  · exact (k1 76 28 rfl).trans c3
  · exact (k1 76 29 rfl).trans c4
  · exact (k1 76 30 rfl).trans c5
  · obtain ⟨z1, z2, z3, z4, z5⟩ := cb j hj
    refine ⟨(k1 89 _ rfl).trans z1, (k1 89 _ rfl).trans z2, (k1 89 _ rfl).trans z3, (k1 89 _ rfl).trans z4, ?_⟩
    rw [x91]
    exact upd5 j _ z5
  · rw [k1 24 3 rfl, k1.at 90 (fun _ => rfl)]; exact c6
  · refine ⟨(y6 j hj).1, ?_⟩
    show (sm_uI A 5 w v) 5 j = -1 ∨ ∃ i, i < R ∧ (sm_uI A 5 w v) 5 j = nI i
    rw [sm_uI_at]
    by_cases e : j = w
    · subst e; rw [pk_us]; exact qW_m1 v5 q2
    · rw [pk_un e]; exact (y6 j hj).2
  · intro ν2 w2 q2 g1 g2 g3 g4 g5
    rw [x67 _ (slt_lt (by omega) g3)] at g5
    exact absurd g5.symm (q_m1 g1)
end
