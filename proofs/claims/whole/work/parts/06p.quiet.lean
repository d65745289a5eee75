section
variable {n : Nat} {T : List sm_Sh} {I I' : sm_MI} {L L' : sm_ML} {A : Nat → Nat → Int32} {H S N R ν lb b ν' lb' b' : Nat} {W : Nat → (Nat → Int32) → Int32}
/-- lies after k nights as it is -/
abbrev nU0 (A : Nat → Nat → Int32) (W : Nat → (Nat → Int32) → Int32) (H S N ν lb k : Nat) (u : Nat → Int32) : Nat → Int32 := nU A W H S N ν (nI lb) (-1) (fun _ => -1) k u
abbrev nUb (A : Nat → Nat → Int32) (W : Nat → (Nat → Int32) → Int32) (H S N ν lb w k : Nat) (u : Nat → Int32) : Nat → Int32 := nU A W H S N ν (nI lb) (nI w) (fun _ => -1) k u
theorem s_dreamOf' {F : sm_MI → sm_ML → Prop} {m : Nat} (hR : RR A W H S N R ν lb b T I L) (h0 : 0 < H) (hm : m < 2 ^ 30)
    (h : ∀ (I' : sm_MI) (L' : sm_ML), RR A W H S N R ν lb b T I' L' → Fr PQ I I' → cU N (I' 53 0) = nU0 A W H S N ν lb m (cU N (I 35 0)) → F I' L') : sm_CV (n + 8) mX11_dreamOf T I L [.ref 0, .int (nI m)] F :=
  s_dreamOf hR h0 hm (fun I' L' z g hR' f hz z1 _ _ => h I' L' hR' f (by rw [hz.1]; exact nU_eq z1 m))
theorem s_changedWithout {F : Int32 → sm_MI → sm_ML → Prop} {w k : Nat} {p : Int32} (hR : RR A W H S N R ν lb b T I L) (h0 : 0 < H) (hw : w < S) (hk : k < 2 ^ 30)
    (h : ∀ I' L', RR A W H S N R ν lb b T I' L' → Fr PQ I I' → F (nI (elC (nUb A W H S N ν lb w k (cU N (I 35 0))) (cU N p) N)) I' L') : sm_CI (n + 8) mX11_changedWithout T I L [.ref 0, .int (nI w), .int (nI k), .int p] F := by
  have hB := hR.hB
  have v4 := hR.va.2.2.2.1
  have hb := hR.bb
  have hν := hR.now.1
  refine c_X11_changedWithout hB (s_begin_R (n := n + 6) hR (fun I1 z g f1 e65 e67 e12 hD hz z1 zc zd => ?_))
  obtain ⟨⟨_, _, _, d4, _⟩, hz2⟩ := And.intro hD.1.2.2 hz
  have f2 : Fr PQ I (sm_uI I1 53 10 (nI w)) := f1.u rfl
  have hD2 : cD (mkE A (nI lb) (nI w) 0 (-1) g (fun _ => -1)) W H S N R I ν (sm_uI I1 53 10 (nI w)) := cD_of hR f2 hD.2.1 hD.1.2.2.1 hD.1.2.2.2.2.1 rfl hD.1.2.2.2.2.2.1 hD.1.2.2.2.2.2.2 (fun w hw => ((hD.1.2.1) w hw).2.2.2.2.2) (by rw [sm_uI_ne (by decide)]; exact e65) (by rw [sm_uI_ne (by decide)]; exact e67)
  have hz3 : cZ N (sm_uI I1 53 10 (nI w)) (sm_uL L 53 3 z.2.2.1) z := ⟨hz.1, hz.2.1, hz.2.2.1, by rw [sm_uI_ne (by decide)]; exact hz.2.2.2.1, by rw [sm_uI_ne (by decide)]; exact hz.2.2.2.2⟩
  refine s_goOn (n := n) hB hR.rl (vE_mk hR.va h0) (Or.inl rfl) hk (by omega) hD2 hz3 (fun I2 f3 hD3 hz4 => ?_)
  have f4 : Fr PQ I I2 := f2.tr (f3.mono PN_PQ)
  rw [sm_uL_2] at hz4 ⊢
  refine s_elsewhere hB hD3.1.1.2.2.1 v4 (s_BC ?_)
  rw [hz4.1, elC_BC v4, nU_eq z1]
  exact h I2 _ (RR_c hR f4 (Cok_of hD3)) f4
theorem s_m_quietOf {F : Int32 → sm_MI → sm_ML → Prop} {w k : Nat} (hR : RR A W H S N R ν lb b T I L) (h0 : 0 < H) (hw : w < S) (hk : k < 2 ^ 30)
    (h : ∀ I', RR A W H S N R ν lb b T I' L → mU N (I' 107) = mU N (I 107) → mU N (I' 92) = mU N (I 92) → F (nI (elC (nUb A W H S N ν lb w k (mU N (I 92))) (mU N (I 107)) N)) I' L) : sm_CI (n + 9) mX12_quietOf T I L [.ref 76, .int (nI w), .int (nI k)] F := by
  have hB := hR.hB
  have v4 := hR.va.2.2.2.1
  have v3 := hR.va.2.2.1
  refine c_X12_quietOf hB (s_m_aside hB (fun I3 ha h92 h34 => ?_))
  have hD3 : mD (mkE A (nI lb) (nI w) 0 (-1) 0 (fun _ => -1)) H S N I (sm_uI I3 76 39 (nI w)) := by
    refine mD_of hR (fun j h1 h2 => ?_) ?_ ?_ ?_ ?_ (fun w hw => ?_) (fun k h1 h2 => ?_)
    · rw [sm_uI_at, pk_un (by omega)]; exact ha.1 76 j (by
        rw [Bool.eq_false_iff]; intro q
        simp only [qMQ, Bool.or_eq_true, Bool.and_eq_true, Nat.beq_eq, Nat.ble_eq] at q
        omega)
    · exact (ha.1 76 33 rfl).trans hR.now.2.2.2.2.1
    · rfl
    · rw [sm_uI_ne (by decide)]; exact ha.1.at 89 (fun _ => rfl)
    · rw [sm_uI_ne (by decide)]; exact ha.1.at 91 (fun _ => rfl)
    · rw [sm_uI_ne (by decide), ha.1.at 93 (fun _ => rfl)]; exact hR.rest.2.2.2 w (by omega)
    · rw [sm_uI_ne (by omega)]; exact ha.1.at k (fun j => MQ_code h1 h2)
  refine s_m_calmNights (n := n) (E := mkE A (nI lb) (nI w) 0 (-1) 0 (fun _ => -1)) (z := zz (mU N (I 92))) hB hR.ml (vE_mk hR.va h0) hR.now.2.1 rfl rfl rfl hk hD3 (h34.trans hR.n34) (by rw [sm_uI_ne (by decide), h92]; rfl) (fun I4 f4 hD4 hn4 hu4 => ?_)
  have f5 : Fr qMQ I (sm_uI I4 76 39 (-1)) := by
    intro a c q
    by_cases e : a = 76 ∧ c = 39
    · obtain ⟨e1, e2⟩ := e
      subst e1 e2
      rw [sm_uI_at, pk_us]; exact hR.rest.2.2.1.symm
    · have g1 : (sm_uI I4 76 39 (-1)) a c = I4 a c := by
        unfold sm_uI
        by_cases e1 : a = 76
        · rw [if_pos e1, if_neg (fun e2 => e ⟨e1, e2⟩)]
        · rw [if_neg e1]
      have g2 : (sm_uI I3 76 39 (nI w)) a c = I3 a c := by
        unfold sm_uI
        by_cases e1 : a = 76
        · rw [if_pos e1, if_neg (fun e2 => e ⟨e1, e2⟩)]
        · rw [if_neg e1]
      rw [g1, f4 a c (MN_MQ a c q), g2]
      exact ha.1 a c q
  have ha5 : mAs I (sm_uI I4 76 39 (-1)) := ⟨f5, fun j hj => (f4 97 j rfl).trans (ha.2.1 j hj), (f4 76 44 rfl).trans ha.2.2⟩
  have e107 : (sm_uI I4 76 39 (-1)) 107 = I3 107 := by
    rw [sm_uI_ne (by decide), f4.at 107 (fun _ => rfl), sm_uI_ne (by decide)]
  sorry
end
