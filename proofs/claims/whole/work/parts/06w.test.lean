/-- places in which a thing ends, by steps, as bits -/
def kb (A : Nat → Nat → Int32) (W : Nat → (Nat → Int32) → Int32) (H S N ν lb w k t : Nat) (u : Nat → Int32) : Nat → Int32
  | 0 => 0
  | s + 1 => kb A W H S N ν lb w k t u s ||| ((1 : Int32) <<< (nU A W H S N ν (nI lb) (-1) (upd (fun _ => -1) w (nI s)) k u t &&& 31))
section
variable {n : Nat} {T : List sm_Sh} {I I' I1 : sm_MI} {L L' : sm_ML} {A : Nat → Nat → Int32} {H S N R ν lb b ν' lb' b' : Nat} {W : Nat → (Nat → Int32) → Int32} {f u : Nat → Int32}
theorem s_kinds {F : Int32 → sm_MI → sm_ML → Prop} {w k t hh : Nat} (hR : RR A W H S N R ν lb b T I L) (h0 : 0 < H) (hw : w < S) (ht : t < N) (hhh : hh < H) (hk : k < 2 ^ 30)
    (h : ∀ (I' : sm_MI) (L' : sm_ML), RR A W H S N R ν lb b T I' L' → Fr PQ I I' → F (qBC (kb A W H S N ν lb w k t (upd (cU N (I 35 0)) t (nI hh)) H)) I' L') : sm_CI (n + 9) mX11_kindsOfPlaces T I L [.ref 0, .int (nI w), .int (nI k), .int (nI t), .int (nI hh)] F := by
  have hB := hR.hB
  have v1 := hR.va.2.1
  have v3 := hR.va.2.2.1
  have v4 := hR.va.2.2.2.1
  have hb := hR.bb
  have hν := hR.now.1
  refine c_X11_kindsOfPlaces hB (fun x hx => ?_)
  have key : ∀ d s (I2 : sm_MI) (L2 : sm_ML), s + d = H → RR A W H S N R ν lb b T I2 L2 → Fr PQ I I2 → sm_V x 0 0 T I2 L2 6 [some (.ref 0), some (.int (nI w)), some (.int (nI k)), some (.int (nI t)), some (.int (nI hh)), some (.int (kb A W H S N ν lb w k t (upd (cU N (I 35 0)) t (nI hh)) s)), some (.int (nI s))] [] := by
    intro d
    induction d with
    | zero =>
      intro s I2 L2 e hR2 f2
      have : s = H := by omega
      subst this
      exact u_X11_kindsOfPlaces_6 hB hx ⟨fun _ => s_BC (h I2 L2 hR2 f2), fun q => absurd (by rw [hR2.st.1.1]; exact nI_le (by omega) (by omega)) q⟩
    | succ d ih =>
      intro s I2 L2 e hR2 f2
      refine u_X11_kindsOfPlaces_6 hB hx ⟨fun q => absurd q (by rw [hR2.st.1.1]; exact nI_ge (by omega) (by omega)), fun _ => s_begin_R (n := n + 7) hR2 (fun I3 z g f3 e65 e67 e12 hD hz z1 zc zd => s_placed hB (s_set (t_54 hB) (t_55 hB) (by omega) (by decide) ?_))⟩
      generalize hJ : sm_uI (sm_uI I3 53 0 (qPd (I3 53 0) (nI t) (nI hh))) 55 w (nI s) = J
      have f4 : Fr PQ I2 J := by rw [← hJ]; exact (f3.u rfl).u rfl
      have j53 : ∀ j, j ≠ 0 → J 53 j = I3 53 j := by
        intro j hj
        rw [← hJ, sm_uI_ne (by decide), sm_uI_at, pk_un hj]
      have jo : ∀ q, q ≠ 53 → q ≠ 55 → J q = I3 q := by
        intro q h1 h2
        rw [← hJ, sm_uI_ne h2, sm_uI_ne h1]
      have j55 : J 55 = upd (I3 55) w (nI s) := by rw [← hJ, sm_uI_at, sm_uI_ne (by decide)]
      have hD4 : cD (mkE A (nI lb) (-1) 0 (-1) g (upd (fun _ => -1) w (nI s))) W H S N R I2 ν J := cD_of hR2 f4 ((j53 1 (by decide)).trans hD.2.1) ((j53 2 (by decide)).trans hD.1.2.2.1) ((j53 9 (by decide)).trans hD.1.2.2.2.2.1) ((j53 10 (by decide)).trans hD.1.2.2.2.1) ((j53 11 (by decide)).trans hD.1.2.2.2.2.2.1) ((j53 12 (by decide)).trans hD.1.2.2.2.2.2.2) (fun j hj => by
        rw [j55]
        by_cases e : j = w
        · subst e; rw [pk_us, pk_us]
        · rw [pk_un e, pk_un e]; exact ((hD.1.2.1) j hj).2.2.2.2.2) (by rw [jo 65 (by decide) (by decide)]; exact e65) (by rw [jo 67 (by decide) (by decide)]; exact e67)
      have hz4 : cZ N J (sm_uL L2 53 3 z.2.2.1) (upd z.1 t (nI hh), z.2) := by
        refine ⟨?_, (j53 13 (by decide)).trans hz.2.1, hz.2.2.1, by rw [jo 57 (by decide) (by decide)]; exact hz.2.2.2.1, by rw [jo 59 (by decide) (by decide)]; exact hz.2.2.2.2⟩
        have : J 53 0 = qPd (I3 53 0) (nI t) (nI hh) := by rw [← hJ]; rfl
        rw [this, cU_Pd _ v4 ht (by omega), hz.1]
      refine s_goOn (n := n + 1) hB hR2.rl (vE_mk hR.va h0) (Or.inl rfl) hk (by omega) hD4 hz4 (fun I5 f5 hD5 hz5 => s_placeIn hB ?_)
      rw [sm_uL_2] at hz5 ⊢
      rw [← cU_at (N := N) _ ht, hz5.1, nU_eq (u := upd (cU N (I 35 0)) t (nI hh)) (by rw [z1, f2 35 0 rfl]), nI_1]
      exact ih (s + 1) I5 _ (by omega) (RR_c hR2 (f4.tr (f5.mono PN_PQ)) (Cok_of hD5)) (f2.tr (f4.tr (f5.mono PN_PQ)))
  exact key H 0 I L (by omega) hR Fr.rf
theorem mX_lie {t : Nat} {v : Int32} (h : mX N ν f u I I1) (ht : t < N) : mX N ν f (upd u t v) I (sm_uI I1 92 t v) := by
  obtain ⟨h1, h2, h3, h4, h5⟩ := h
  refine ⟨h1.u rfl, ?_, h3, h4, h5⟩
  rw [sm_uI_at, mU_upd _ ht, h2]
theorem s_mX_where {F : Int32 → sm_MI → sm_ML → Prop} {t k : Nat} (hR : RR A W H S N R ν lb b T I L) (h0 : 0 < H) (hX : mX N ν f u I I1) (ht : t < N) (hk1 : 1 ≤ k) (hk2 : k ≤ 60) (h : ∀ I', mX N ν f u I I' → F (nU A W H S N ν (nI lb) (-1) f k u t) I' L) : sm_CI (n + 9) mX12_where T I1 L [.ref 76, .int (nI t), .int (nI k)] F := by
  have hB := hR.hB
  have v1 := hR.va.2.1
  have v4 := hR.va.2.2.2.1
  obtain ⟨_, _, ⟨d1, d2, d3, d4, d5⟩, _, _⟩ := hR.st
  refine c_X12_where hB (s_m_isThing hB ?_)
  rw [(hX.1 76 28 rfl).trans d3, qW_natI ht (by omega)]
  refine ⟨fun y => absurd y (by decide), fun _ => s_m_areNights hB ?_⟩
  rw [(hX.1 76 26 rfl).trans d1, an_ok h0 (by omega), q_60 hk1 hk2]
  refine ⟨fun _ => s_m_aside hB (fun I3 ha h92 h34 => ?_), fun y => absurd y (by decide)⟩
  refine s_m_calmNights (n := n) (E := mkE A (nI lb) (-1) 0 (-1) 0 f) (z := zz u) hB (mX_ml hR hX) (vE_mk hR.va h0) hR.now.2.1 rfl rfl rfl (by omega) (mD_frQ (mX_D hR hX) ha.1) (h34.trans hX.2.2.1) (by rw [h92]; exact hX.2.1) (fun I4 f4 _ _ hu4 => ⟨vp_in_nI (by omega) (by decide), s_mX_back hB v4 hX (ha.go f4) (fun I5 hX5 => ?_)⟩)
  rw [nI_clamp (by omega), ← mU_at (N := N) (I4 92) ht, hu4]
  exact h I5 hX5
theorem s_m_kinds {F : Int32 → sm_MI → sm_ML → Prop} {w k t : Nat} (hR : RR A W H S N R ν lb b T I L) (h0 : 0 < H) (hw : w < S) (ht : t < N) (hk1 : 1 ≤ k) (hk2 : k ≤ 60) (hX : mX N ν (fun _ => -1) u I I1)
    (h : ∀ I', mX N ν (fun _ => -1) u I I' → F (qBC (kb A W H S N ν lb w k t u H)) I' L) : sm_CI (n + 10) mX12_kindsOf T I1 L [.ref 76, .int (nI w), .int (nI t), .int (nI k)] F := by
  have hB := hR.hB
  have v1 := hR.va.2.1
  have v3 := hR.va.2.2.1
  refine c_X12_kindsOf hB (fun x hx => ?_)
  have key : ∀ d s (I2 : sm_MI) (v : Int32), s + d = H → mX N ν (upd (fun _ => -1) w v) u I I2 → sm_V x 0 0 T I2 L 6 [some (.ref 76), some (.int (nI w)), some (.int (nI t)), some (.int (nI k)), some (.int (kb A W H S N ν lb w k t u s)), some (.int (nI s))] [] := by
    intro d
    induction d with
    | zero =>
      intro s I2 v e hX2
      have : s = H := by omega
      subst this
      have e26 : I2 76 26 = nI s := (hX2.1 76 26 rfl).trans hR.st.2.2.1.1
      refine u_X12_kindsOf_6 hB hx ⟨fun _ => ⟨vp_in_nI (by omega) (by decide), ?_⟩, fun q => absurd (by rw [e26]; exact nI_le (by omega) (by omega)) q⟩
      rw [nI_clamp (by omega)]
      have hX5 := mX_set (v := -1) hX2 (show w < 5 by omega)
      rw [upd_2, upd_m1] at hX5
      exact s_BC (h _ hX5)
    | succ d ih =>
      intro s I2 v e hX2
      have e26 : I2 76 26 = nI H := (hX2.1 76 26 rfl).trans hR.st.2.2.1.1
      refine u_X12_kindsOf_6 hB hx ⟨fun q => absurd q (by rw [e26]; exact nI_ge (by omega) (by omega)), fun _ => ⟨vp_in_nI (by omega) (by decide), ?_⟩⟩
      rw [nI_clamp (by omega)]
      have hX4 := mX_set (v := nI s) hX2 (show w < 5 by omega)
      rw [upd_2] at hX4
      refine s_mX_where (n := n) hR h0 hX4 ht hk1 hk2 (fun I3 hX5 => ?_)
      rw [nI_1]
      exact ih (s + 1) I3 (nI s) (by omega) hX5
  rw [← upd_m1 (w := w)] at hX
  exact key H 0 I1 (-1) (by omega) hX
end
