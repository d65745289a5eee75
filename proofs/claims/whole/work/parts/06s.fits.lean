section
variable {n : Nat} {T : List sm_Sh} {I I' I1 : sm_MI} {L L' : sm_ML} {A : Nat → Nat → Int32} {H S N R ν lb b ν' lb' b' : Nat} {W : Nat → (Nat → Int32) → Int32} {f u : Nat → Int32}
theorem upd_2 {f : Nat → Int32} {w : Nat} {x y : Int32} : upd (upd f w x) w y = upd f w y := by
  funext j
  by_cases e : j = w
  · subst e; rw [pk_us, pk_us]
  · rw [pk_un e, pk_un e, pk_un e]
theorem sm_z1 {q : Bool} : sm_z q = 1 ↔ q = true := by cases q <;> decide
def gEs (H N sc lt : Nat) (I : sm_MI) : Prop := ∀ k, k < sc → (∃ t, t < N ∧ I 46 k = nI t ∧ I 100 k = nI t) ∧ (∃ m, 1 ≤ m ∧ m ≤ lt ∧ I 48 k = nI m ∧ I 101 k = nI m) ∧ (∃ h, h < H ∧ I 50 k = nI h ∧ I 102 k = nI h) ∧ (∃ q : Bool, I 52 k = sm_z q ∧ I 103 k = sm_z q)
theorem alB_no {i k : Nat} (h : alB I i u k = false) : ∀ d, alB I i u (k + d) = false
  | 0 => h
  | d + 1 => by
    show (alB I i u (k + d) && _) = false
    rw [alB_no h d, Bool.false_and]
theorem alB_cong {i : Nat} {u : Nat → Int32} (e46 : I' 46 = I 46) (e48 : I' 48 = I 48) (e50 : I' 50 = I 50) (e52 : I' 52 = I 52) : ∀ k, alB I' i u k = alB I i u k
  | 0 => rfl
  | k + 1 => by
    show (alB I' i u k && _) = (alB I i u k && _)
    rw [alB_cong e46 e48 e50 e52 k, e46, e48, e50, e52]
theorem s_allows {F : Bool → sm_MI → sm_ML → Prop} {sc lt i : Nat} {p : Int32} (hB : sm_Bs T) (h8 : N ≤ 8) (hsc : I 44 4 = nI sc) (hs : sc ≤ 20) (hlt : lt ≤ 30) (hi : i < 2 ^ 30) (hen : gEs H N sc lt I) (h : F (alB I i (cU N p) sc) I L) : sm_CZ (n + 1) mX6_allows T I L [.ref 44, .int (nI i), .int p] F := by
  refine c_X6_allows hB (fun x hx => ?_)
  have key : ∀ d k (u4 : Option Value), k + d = sc → alB I i (cU N p) k = true → sm_V x 0 0 T I L 2 [some (.ref 44), some (.int (nI i)), some (.int p), some (.int (nI k)), u4] [] := by
    intro d
    induction d with
    | zero =>
      intro k u4 e hk
      have : k = sc := by omega
      subst this
      refine u_X6_allows_2 hB hx ⟨fun _ => by rw [hk] at h; exact h, fun q => absurd (by rw [hsc]; exact nI_le (by omega) (by omega)) q⟩
    | succ d ih =>
      intro k u4 e hk
      obtain ⟨⟨t, ht, y1, _⟩, ⟨m, hm1, hm2, y3, _⟩, ⟨hh, hhh, y5, _⟩, ⟨qq, y7, _⟩⟩ := hen k (by omega)
      have hal : alB I i (cU N p) (k + 1) = (alB I i (cU N p) k && (decide (¬ I 48 k = nI i) || (decide (cU N p (I 46 k).toNatClampNeg = I 50 k) == decide (I 52 k = 1)))) := rfl
      rw [hk, Bool.true_and, y1, nI_clamp (by omega), y7] at hal
      have no : alB I i (cU N p) (k + 1) = false → F false I L := by
        intro hf
        have := alB_no hf d
        rw [show k + 1 + d = sc by omega] at this
        rw [this] at h
        exact h
      refine u_X6_allows_2 hB hx ⟨fun q => absurd q (by rw [hsc]; exact nI_ge (by omega) (by omega)), fun _ => s_at (t_45 hB) (t_46 hB) (by omega) (by decide) ?_⟩
      rw [y1]
      refine s_placeIn hB (s_at (t_49 hB) (t_50 hB) (by omega) (by decide) ?_)
      rw [← cU_at (N := N) _ ht, nI_1]
      have y9 : qq = true ↔ I 52 k = 1 := by rw [y7]; exact sm_z1.symm
      refine ⟨fun q => s_at (t_47 hB) (t_48 hB) (by omega) (by decide) ⟨fun r => ih (k + 1) _ (by omega) ?_, fun r => s_at (t_51 hB) (t_52 hB) (by omega) (by decide) ⟨fun z => ih (k + 1) _ (by omega) ?_, fun z => no ?_⟩⟩, fun q => s_at (t_47 hB) (t_48 hB) (by omega) (by decide) ⟨fun r => ih (k + 1) _ (by omega) ?_, fun r => s_at (t_51 hB) (t_52 hB) (by omega) (by decide) ⟨fun z => no ?_, fun z => ih (k + 1) _ (by omega) ?_⟩⟩⟩
      · rw [hal, decide_eq_true r, Bool.true_or]
      · rw [y7] at z
        rw [hal, decide_eq_false (fun g => g r), Bool.false_or, decide_eq_false q, decide_eq_false z]; rfl
      · rw [y7] at z
        rw [hal, decide_eq_false (fun g => g r), Bool.false_or, decide_eq_false q, decide_eq_true z]; rfl
      · rw [hal, decide_eq_true r, Bool.true_or]
      · rw [y7] at z
        rw [hal, decide_eq_false (fun g => g r), Bool.false_or, decide_eq_true q, decide_eq_false z]; rfl
      · rw [y7] at z
        rw [hal, decide_eq_false (fun g => g r), Bool.false_or, decide_eq_true q, decide_eq_true z]; rfl
  exact key sc 0 none (by omega) rfl
theorem s_asSeen {F : Bool → sm_MI → sm_ML → Prop} {sc lt : Nat} {z : w_St} {g : Int32} (hR : RR A W H S N R ν lb b T I L) (h0 : 0 < H) (hsc : I 44 4 = nI sc) (hs : sc ≤ 20) (hlt : lt ≤ 30) (h5 : I 44 5 = nI lt) (hen : gEs H N sc lt I) (hf : Fr PQ I I1) (hD : cD (mkE A (nI lb) (-1) 0 (-1) g f) W H S N R I ν I1) (hz : cZ N I1 (sm_uL L 53 3 z.2.2.1) z) (hu : z.1 = u)
    (h : ∀ (I' : sm_MI) (v : Int64), RR A W H S N R ν lb b T I' (sm_uL L 53 3 v) → Fr PQ I I' → F (agB A W H S N ν lb f I sc u lt) I' (sm_uL L 53 3 v)) : sm_CZ (n + 8) mX11_dreamIsAsSeen T I1 (sm_uL L 53 3 z.2.2.1) [.ref 0] F := by
  have hB := hR.hB
  have v4 := hR.va.2.2.2.1
  have hb := hR.bb
  have hν := hR.now.1
  refine c_X11_dreamIsAsSeen hB (fun x hx => ?_)
  have key : ∀ d i (I2 : sm_MI), i + d = lt → agB A W H S N ν lb f I sc u i = true → Fr PQ I I2 → cD (mkE A (nI lb) (-1) 0 (-1) g f) W H S N R I (ν + i) I2 → cZ N I2 (sm_uL L 53 3 (ngs (mkE A (nI lb) (-1) 0 (-1) g f) W H S N ν i z).2.2.1) (ngs (mkE A (nI lb) (-1) 0 (-1) g f) W H S N ν i z) → sm_V x 0 0 T I2 (sm_uL L 53 3 (ngs (mkE A (nI lb) (-1) 0 (-1) g f) W H S N ν i z).2.2.1) 2 [some (.ref 0), some (.int (nI (i + 1)))] [] := by
    intro d
    induction d with
    | zero =>
      intro i I2 e ha f2 hD2 hz2
      have : i = lt := by omega
      subst this
      refine u_X11_dreamIsAsSeen_2 hB hx ⟨fun _ => ?_, fun q => absurd (by rw [f2 44 5 rfl, h5]; exact nI_lt (Nat.lt_succ_self _) (by omega)) q⟩
      have := h I2 (ngs (mkE A (nI lb) (-1) 0 (-1) g f) W H S N ν i z).2.2.1 (RR_c hR f2 (Cok_of hD2)) f2
      rw [ha] at this
      exact this
    | succ d ih =>
      intro i I2 e ha f2 hD2 hz2
      refine u_X11_dreamIsAsSeen_2 hB hx ⟨fun q => absurd q (by rw [f2 44 5 rfl, h5]; exact nI_nlt (by omega) (by omega)), fun _ => c_step (n := n + 1) (E := mkE A (nI lb) (-1) 0 (-1) g f) hB hR.rl (vE_mk hR.va h0) (Or.inl rfl) (by omega) f2 hD2 hz2 (fun I3 f3 hD3 hz3 => ?_)⟩
      have e44 : I3 44 4 = nI sc := (f3 44 4 rfl).trans hsc
      have hen3 : gEs H N sc lt I3 := by
        intro k hk
        rw [f3.at 46 (fun _ => rfl), f3.at 48 (fun _ => rfl), f3.at 50 (fun _ => rfl), f3.at 52 (fun _ => rfl), f3.at 100 (fun _ => rfl), f3.at 101 (fun _ => rfl), f3.at 102 (fun _ => rfl), f3.at 103 (fun _ => rfl)]
        exact hen k hk
      refine s_allows (n := n + 6) (lt := lt) (H := H) (N := N) hB v4 e44 hs hlt (by omega) hen3 ?_
      rw [hz3.1, nU_eq hu, alB_cong (f3.at 46 (fun _ => rfl)) (f3.at 48 (fun _ => rfl)) (f3.at 50 (fun _ => rfl)) (f3.at 52 (fun _ => rfl))]
      have hag : agB A W H S N ν lb f I sc u (i + 1) = alB I (i + 1) (nU A W H S N ν (nI lb) (-1) f (i + 1) u) sc := by
        show (agB A W H S N ν lb f I sc u i && _) = _
        rw [ha, Bool.true_and]
      rw [← hag, nI_1]
      refine ⟨fun q => ih (i + 1) I3 (by omega) q f3 hD3 hz3, fun q => ?_⟩
      have := agB_no (A := A) (W := W) q d
      rw [show i + 1 + d = lt by omega] at this
      have hh := h I3 (ngs (mkE A (nI lb) (-1) 0 (-1) g f) W H S N ν (i + 1) z).2.2.1 (RR_c hR f3 (Cok_of hD3)) f3
      rw [this] at hh
      exact hh
  exact key lt 0 I1 (by omega) rfl hf hD hz
def fiS (A : Nat → Nat → Int32) (W : Nat → (Nat → Int32) → Int32) (H S N ν lb : Nat) (f : Nat → Int32) (I : sm_MI) (sc lt : Nat) (u : Nat → Int32) (w : Nat) (s : Nat) : Bool := agB A W H S N ν lb (upd f w (nI s)) I sc u lt
theorem s_m_fitsOf {F : Int32 → sm_MI → sm_ML → Prop} {sc w : Nat} (hR : RR A W H S N R ν lb b T I L) (h0 : 0 < H) (hsc : I 76 51 = nI sc) (hs20 : sc ≤ 20) (hen : gEs H N sc 30 I) (hX : mX N ν f u I I1) (hw : w < S)
    (h : ∀ I', mX N ν (upd f w (-1)) u I I' → F (nI (bitsOf (fiS A W H S N ν lb f I sc 30 u w) H)) I' L) : sm_CI (n + 10) mX12_fitsOf T I1 L [.ref 76, .int (nI w)] F := by
  have hB := hR.hB
  have v1 := hR.va.2.1
  have v3 := hR.va.2.2.1
  refine c_X12_fitsOf hB (fun x hx => ?_)
  have key : ∀ d s (I2 : sm_MI) (f2 : Nat → Int32), s + d = H → mX N ν f2 u I I2 → (∀ y, upd f2 w y = upd f w y) → sm_V x 0 0 T I2 L 4 [some (.ref 76), some (.int (nI w)), some (.int (nI (bitsOf (fiS A W H S N ν lb f I sc 30 u w) s))), some (.int (nI s))] [] := by
    intro d
    induction d with
    | zero =>
      intro s I2 f2 e hX2 hf2
      have : s = H := by omega
      subst this
      have e26 : I2 76 26 = nI s := (hX2.1 76 26 rfl).trans hR.st.2.2.1.1
      refine u_X12_fitsOf_4 hB hx ⟨fun _ => ⟨vp_in_nI (by omega) (by decide), ?_⟩, fun q => absurd (by rw [e26]; exact nI_le (by omega) (by omega)) q⟩
      rw [nI_clamp (by omega)]
      have := mX_set (v := -1) hX2 (show w < 5 by omega)
      rw [hf2] at this
      exact h _ this
    | succ d ih =>
      intro s I2 f2 e hX2 hf2
      have e26 : I2 76 26 = nI H := (hX2.1 76 26 rfl).trans hR.st.2.2.1.1
      refine u_X12_fitsOf_4 hB hx ⟨fun q => absurd q (by rw [e26]; exact nI_ge (by omega) (by omega)), fun _ => ⟨vp_in_nI (by omega) (by decide), ?_⟩⟩
      rw [nI_clamp (by omega)]
      have hX3 := mX_set (v := nI s) hX2 (show w < 5 by omega)
      rw [hf2] at hX3
      refine s_m_agrees (n := n) hR h0 hsc hs20 hen hX3 (fun I3 hX4 => ?_)
      have go := ih (s + 1) I3 _ (by omega) hX4 (fun y => upd_2)
      rw [nI_1]
      refine ⟨fun q => ?_, fun q => ?_⟩
      · rw [bitsOf_no (show fiS A W H S N ν lb f I sc 30 u w s = false from q)] at go
        rw [Int32.or_zero]
        exact go
      · rw [bitsOf_or (by omega) (show fiS A W H S N ν lb f I sc 30 u w s = true from q)]
        exact go
  exact key H 0 I1 f (by omega) hX (fun _ => rfl)
theorem s_fittingSteps {F : Int32 → sm_MI → sm_ML → Prop} {sc lt w : Nat} (hR : RR A W H S N R ν lb b T I L) (h0 : 0 < H) (hsc : I 44 4 = nI sc) (hs : sc ≤ 20) (hlt : lt ≤ 30) (h5 : I 44 5 = nI lt) (hen : gEs H N sc lt I) (hw : w < S)
    (h : ∀ (I' : sm_MI) (L' : sm_ML), RR A W H S N R ν lb b T I' L' → Fr PQ I I' → F (nI (bitsOf (fiS A W H S N ν lb (fun _ => -1) I sc lt (cU N (I 35 0)) w) H)) I' L') : sm_CI (n + 9) mX11_fittingSteps T I L [.ref 0, .int (nI w)] F := by
  have hB := hR.hB
  have v1 := hR.va.2.1
  have v3 := hR.va.2.2.1
  refine c_X11_fittingSteps hB (fun x hx => ?_)
  have key : ∀ d s (I2 : sm_MI) (L2 : sm_ML), s + d = H → RR A W H S N R ν lb b T I2 L2 → Fr PQ I I2 → sm_V x 0 0 T I2 L2 4 [some (.ref 0), some (.int (nI w)), some (.int (nI (bitsOf (fiS A W H S N ν lb (fun _ => -1) I sc lt (cU N (I 35 0)) w) s))), some (.int (nI s))] [] := by
    intro d
    induction d with
    | zero =>
      intro s I2 L2 e hR2 f2
      have : s = H := by omega
      subst this
      exact u_X11_fittingSteps_4 hB hx ⟨fun _ => h I2 L2 hR2 f2, fun q => absurd (by rw [hR2.st.1.1]; exact nI_le (by omega) (by omega)) q⟩
    | succ d ih =>
      intro s I2 L2 e hR2 f2
      refine u_X11_fittingSteps_4 hB hx ⟨fun q => absurd q (by rw [hR2.st.1.1]; exact nI_ge (by omega) (by omega)), fun _ => s_begin_R (n := n + 7) hR2 (fun I3 z g f3 e65 e67 e12 hD hz z1 zc zd => s_set (t_54 hB) (t_55 hB) (by omega) (by decide) ?_)⟩
      have f4 : Fr PQ I2 (sm_uI I3 55 w (nI s)) := f3.u rfl
      have hD4 : cD (mkE A (nI lb) (-1) 0 (-1) g (upd (fun _ => -1) w (nI s))) W H S N R I2 ν (sm_uI I3 55 w (nI s)) := cD_of hR2 f4 hD.2.1 hD.1.2.2.1 hD.1.2.2.2.2.1 hD.1.2.2.2.1 hD.1.2.2.2.2.2.1 hD.1.2.2.2.2.2.2 (fun j hj => by
        rw [sm_uI_at]
        by_cases e : j = w
        · subst e; rw [pk_us, pk_us]
        · rw [pk_un e, pk_un e]; exact ((hD.1.2.1) j hj).2.2.2.2.2) (by rw [sm_uI_ne (by decide)]; exact e65) (by rw [sm_uI_ne (by decide)]; exact e67)
      have hz4 : cZ N (sm_uI I3 55 w (nI s)) (sm_uL L2 53 3 z.2.2.1) z := ⟨hz.1, hz.2.1, hz.2.2.1, by rw [sm_uI_ne (by decide)]; exact hz.2.2.2.1, by rw [sm_uI_ne (by decide)]; exact hz.2.2.2.2⟩
      have hen2 : gEs H N sc lt I2 := by
        intro k hk
        rw [f2.at 46 (fun _ => rfl), f2.at 48 (fun _ => rfl), f2.at 50 (fun _ => rfl), f2.at 52 (fun _ => rfl), f2.at 100 (fun _ => rfl), f2.at 101 (fun _ => rfl), f2.at 102 (fun _ => rfl), f2.at 103 (fun _ => rfl)]
        exact hen k hk
      refine s_asSeen (n := n) hR2 h0 ((f2 44 4 rfl).trans hsc) hs hlt ((f2 44 5 rfl).trans h5) hen2 f4 hD4 hz4 z1 (fun I5 v hR5 f5 => ?_)
      have hagc : ∀ i, agB A W H S N ν lb (upd (fun _ => -1) w (nI s)) I2 sc (cU N (I2 35 0)) i = agB A W H S N ν lb (upd (fun _ => -1) w (nI s)) I sc (cU N (I 35 0)) i := by
        intro i
        rw [f2 35 0 rfl]
        induction i with
        | zero => rfl
        | succ i ihi =>
          show (agB A W H S N ν lb _ I2 sc _ i && _) = (agB A W H S N ν lb _ I sc _ i && _)
          rw [ihi, alB_cong (f2.at 46 (fun _ => rfl)) (f2.at 48 (fun _ => rfl)) (f2.at 50 (fun _ => rfl)) (f2.at 52 (fun _ => rfl))]
      rw [hagc]
      have go := ih (s + 1) I5 _ (by omega) hR5 (f2.tr f5)
      rw [nI_1]
      refine ⟨fun q => ?_, fun q => ?_⟩
      · rw [bitsOf_no (show fiS A W H S N ν lb (fun _ => -1) I sc lt (cU N (I 35 0)) w s = false from q)] at go
        exact go
      · rw [bitsOf_or (by omega) (show fiS A W H S N ν lb (fun _ => -1) I sc lt (cU N (I 35 0)) w s = true from q)]
        exact go
  exact key H 0 I L (by omega) hR Fr.rf
end
