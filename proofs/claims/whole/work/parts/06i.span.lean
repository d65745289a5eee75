section
variable {n : Nat} {T : List sm_Sh} {I : sm_MI} {L : sm_ML} {A : Nat → Nat → Int32} {H S N R ν lb b : Nat} {W : Nat → (Nat → Int32) → Int32} {E : Nat → Nat → Int32}
def fSp (E : Nat → Nat → Int32) (W : Nat → (Nat → Int32) → Int32) (H S N ν : Nat) (z : w_St) (t : Nat) (i : Nat) (a : Int32 × Int32) : Int32 × Int32 :=
  if (ngs E W H S N ν (i + 1) z).1 t = (ngs E W H S N ν i z).1 t then (if a.1 < a.2 + 1 then a.2 + 1 else a.1, a.2 + 1) else (if a.1 < 0 then 0 else a.1, 0)
theorem m_span {F : Int32 → sm_MI → sm_ML → Prop} {t k : Nat} {z : w_St} {g : Int32} (hR : RR A W H S N R ν lb b T I L) (ht : t < N) (hk1 : 1 ≤ k) (hk2 : k ≤ 60) (hz : mU N (I 92) = z.1)
    (h : ∀ I', RR A W H S N R ν lb b T I' L → F (fo (fSp (E0 A lb g) W H S N ν z t) (0, 0) k).1 I' L) : sm_CI (n + 20) mX12_span T I L [.ref 76, .int (nI t), .int (nI k)] F := by
  have hB := hR.hB
  obtain ⟨_, _, ⟨d1, d2, d3, d4, d5⟩, _, _⟩ := hR.st
  have v1 := hR.va.2.1
  have v4 := hR.va.2.2.2.1
  have h0 := gV_H hR.va ht
  refine c_X12_span hB (fun x hx => s_m_isThing hB ?_)
  rw [d3, qW_natI ht (by omega)]
  refine ⟨fun y => absurd y (by decide), fun _ => s_m_areNights hB ?_⟩
  rw [d1, an_ok h0 (by omega), q_60 hk1 hk2]
  refine ⟨fun _ => s_m_aside hB (fun I3 ha h92 h34 => ?_), fun y => absurd y (by decide)⟩
  refine m_loop (W := W) (E := E0 A lb g) (z := z) (m := k) (Ia := I) (P := fun i a => a = fo (fSp (E0 A lb g) W H S N ν z t) (0, 0) i) (V := fun i a I' => ∀ u6 : Option Value, sm_V x 0 0 T I' L 30 [some (.ref 76), some (.int (nI t)), some (.int (nI k)), some (.int a.1), some (.int a.2), some (.int (nI i)), u6] []) (fun i a I' him hp ha hD hn hu next u6 => ?_) k 0 (0, 0) I3 (by omega) rfl ha (mD_frQ (mD_now hR (gh := -1) (gs := g)) ha.1) (h34.trans hR.n34) (by rw [h92]; exact hz) none
  refine u_X12_span_30 hB hx ⟨fun q => s_m_back hR ha (fun I2 _ _ h2 => ?_), fun q => ⟨vp_in_nI (by omega) (by decide), m_step (n := n + 12) (E := E0 A lb g) hB hR.ml (vE_mk hR.va h0) hR.now.2.1 rfl rfl rfl ha hD hn hu (fun I2 ha2 hD2 hn2 hu2 => ⟨vp_in_nI (by omega) (by decide), ?_⟩)⟩⟩
  · have : i = k := by have := q_le q (by omega) (by omega); omega
    subst this
    rw [hp]
    exact h I2 h2
  · have hik : i < k := q_nle q (by omega) (by omega)
    rw [nI_clamp (by omega), ← mU_at (N := N) (I2 92) ht, ← mU_at (N := N) (I' 92) ht, hu2, hu, nI_1]
    have e : ∀ c, c = fSp (E0 A lb g) W H S N ν z t i a → c = fo (fSp (E0 A lb g) W H S N ν z t) (0, 0) (i + 1) := by
      intro c hc
      show c = fSp _ _ _ _ _ _ _ _ _ _
      rw [← hp]
      exact hc
    refine ⟨fun r => next hik (if a.1 < 0 then 0 else a.1, 0) I2 (e _ ?_) ha2 hD2 hn2 hu2 _, fun r => next hik (if a.1 < a.2 + 1 then a.2 + 1 else a.1, a.2 + 1) I2 (e _ ?_) ha2 hD2 hn2 hu2 _⟩
    · unfold fSp; rw [if_neg r]
    · unfold fSp; rw [if_pos r]
theorem p_span {G : Int32 → Int32 → sm_MI → sm_ML → Prop} {a m : Int32} (hR : RR A W H S N R ν lb b T I L) (h : ∀ v I' L', RR A W H S N R ν lb b T I' L' → G v v I' L') :
    sm_CI (n + 20) mX11_span T I L [.ref 0, .int a, .int m] (fun r1 I1 L1 => sm_CI (n + 20) mX12_span T I1 L1 [.ref 76, .int a, .int m] (fun r2 I2 L2 => G r1 r2 I2 L2)) := by
  have hB := hR.hB
  obtain ⟨⟨a1, a2, a3, a4, a5⟩, _, ⟨c1, c2, c3, c4, c5⟩, _, _⟩ := hR.st
  have v1 := hR.va.2.1
  have v4 := hR.va.2.2.2.1
  have bad : (qW a 0 (nI N - 1) = false ∨ qW m 1 60 = false) → sm_CI (n + 20) mX12_span T I L [.ref 76, .int a, .int m] (fun r2 I2 L2 => G (-1) r2 I2 L2) := by
    intro w
    refine c_X12_span hB (fun x hx => s_m_isThing hB ?_)
    rw [c3]
    refine ⟨fun _ => h _ _ _ hR, fun q1 => s_m_areNights hB ?_⟩
    obtain ⟨t, ht, e⟩ := qW_nat (by omega) q1
    rw [c1, an_ok (gV_H hR.va ht) (by omega)]
    refine ⟨fun q4 => ?_, fun _ => h _ _ _ hR⟩
    rcases w with w | w
    · rw [q1] at w; exact absurd w (by decide)
    · rw [q4] at w; exact absurd w (by decide)
  refine c_X11_span hB (fun x hx => s_hasThing hB ?_)
  rw [a3]
  refine ⟨fun q => bad (Or.inl q), fun q1 => s_within hB ⟨fun q4 => ?_, fun q => bad (Or.inr q)⟩⟩
  obtain ⟨t, ht, rfl⟩ := qW_nat (by omega) q1
  obtain ⟨k, hk1, hk2, rfl⟩ := qW_rng (lo := 1) (hi := 60) (by decide) (by decide) q4
  have h0 := gV_H hR.va ht
  have hb := hR.bb
  have hν := hR.now.1
  refine s_begin_R (n := n + 18) hR (fun I1 z g f1 e65 e67 e12 hD hz z1 zc zd => ?_)
  refine c_loop (W := W) (E := E0 A lb g) (z := z) (m := k) (Ia := I) (I0 := I) (L := L) (R := R) (P := fun i a => a = fo (fSp (E0 A lb g) W H S N ν z t) (0, 0) i) (V := fun i a I' L' => ∀ u6 : Option Value, sm_V x 0 0 T I' L' 42 [some (.ref 0), some (.int (nI t)), some (.int (nI k)), some (.int a.1), some (.int a.2), some (.int (nI i)), u6] []) (fun i a I' him hp hf hD hz next u6 => ?_) k 0 (0, 0) I1 (by omega) rfl f1 hD hz none
  refine u_X11_span_42 hB hx ⟨fun q => ?_, fun q => s_placeIn hB (c_step (n := n + 13) (E := E0 A lb g) hB hR.rl (vE_mk hR.va h0) (Or.inl rfl) (by omega) hf hD hz (fun I2 f2 hD2 hz2 => s_placeIn hB ?_))⟩
  · have : i = k := by have := q_le q (by omega) (by omega); omega
    subst this
    have hR2 := RR_c (v := (ngs (E0 A lb g) W H S N ν i z).2.2.1) hR hf (Cok_of hD)
    rw [hp]
    exact m_span (g := g) (z := z) hR2 ht hk1 hk2 (by rw [← hR2.u, z1, hf 35 0 rfl]) (fun I' h' => h _ _ _ h')
  · have hik : i < k := q_nle q (by omega) (by omega)
    rw [nI_1, ← cU_at (N := N) _ ht, ← cU_at (N := N) _ ht, hz2.1, hz.1]
    have e : ∀ c, c = fSp (E0 A lb g) W H S N ν z t i a → c = fo (fSp (E0 A lb g) W H S N ν z t) (0, 0) (i + 1) := by
      intro c hc
      show c = fSp _ _ _ _ _ _ _ _ _ _
      rw [← hp]
      exact hc
    refine ⟨fun r => next hik (if a.1 < 0 then 0 else a.1, 0) I2 (e _ ?_) f2 hD2 hz2 _, fun r => next hik (if a.1 < a.2 + 1 then a.2 + 1 else a.1, a.2 + 1) I2 (e _ ?_) f2 hD2 hz2 _⟩
    · unfold fSp; rw [if_neg r]
    · unfold fSp; rw [if_pos r]
/-- path: how many comings, and the one asked for -/
def fPa (E : Nat → Nat → Int32) (W : Nat → (Nat → Int32) → Int32) (H S N ν : Nat) (z : w_St) (t : Nat) (c : Int32) (i : Nat) (a : Nat × Int32) : Nat × Int32 :=
  if (ngs E W H S N ν (i + 1) z).1 t = (ngs E W H S N ν i z).1 t then a else (a.1 + 1, if nI a.1 = c then (ngs E W H S N ν (i + 1) z).1 t else a.2)
def pPa (E : Nat → Nat → Int32) (W : Nat → (Nat → Int32) → Int32) (H S N ν : Nat) (z : w_St) (t : Nat) (c : Int32) (i : Nat) (a : Nat × Int32) : Prop :=
  a = fo (fPa E W H S N ν z t c) (0, -1) i ∧ a.1 ≤ i
theorem pPa_eq {z : w_St} {t i : Nat} {c : Int32} {a : Nat × Int32} (h : pPa E W H S N ν z t c i a) (q : (ngs E W H S N ν (i + 1) z).1 t = (ngs E W H S N ν i z).1 t) : pPa E W H S N ν z t c (i + 1) a := by
  refine ⟨?_, by have := h.2; omega⟩
  show _ = fPa _ _ _ _ _ _ _ _ _ _ _
  rw [← h.1]
  unfold fPa
  rw [if_pos q]
theorem pPa_ne {z : w_St} {t i : Nat} {c : Int32} {a : Nat × Int32} (h : pPa E W H S N ν z t c i a) (q : ¬ (ngs E W H S N ν (i + 1) z).1 t = (ngs E W H S N ν i z).1 t) : pPa E W H S N ν z t c (i + 1) (a.1 + 1, if nI a.1 = c then (ngs E W H S N ν (i + 1) z).1 t else a.2) := by
  refine ⟨?_, by have := h.2; simp only; omega⟩
  show _ = fPa _ _ _ _ _ _ _ _ _ _ _
  rw [← h.1]
  unfold fPa
  rw [if_neg q]
/-- behind the coming asked for nothing changes any more -/
theorem fPa_stays {z : w_St} {t j : Nat} {c : Int32} {v : Int32} : ∀ d, j + d < 1000 → (∃ c', c' < (fo (fPa E W H S N ν z t c) (0, -1) j).1 ∧ c = nI c') → (fo (fPa E W H S N ν z t c) (0, -1) j).1 ≤ j → (fo (fPa E W H S N ν z t c) (0, -1) j).2 = v →
    (∃ c', c' < (fo (fPa E W H S N ν z t c) (0, -1) (j + d)).1 ∧ c = nI c') ∧ (fo (fPa E W H S N ν z t c) (0, -1) (j + d)).1 ≤ j + d ∧ (fo (fPa E W H S N ν z t c) (0, -1) (j + d)).2 = v
  | 0, _, h1, h2, h3 => ⟨h1, h2, h3⟩
  | d + 1, hd, h1, h2, h3 => by
    obtain ⟨⟨c', g1, g2⟩, g3, g4⟩ := fPa_stays d (by omega) h1 h2 h3
    have e : fo (fPa E W H S N ν z t c) (0, -1) (j + (d + 1)) = fPa E W H S N ν z t c (j + d) (fo (fPa E W H S N ν z t c) (0, -1) (j + d)) := rfl
    rw [e]
    generalize fo (fPa E W H S N ν z t c) (0, -1) (j + d) = a at g1 g3 g4 ⊢
    unfold fPa
    split
    · exact ⟨⟨c', g1, g2⟩, by omega, g4⟩
    · have : ¬ nI a.1 = c := by
        rw [g2, nI_eq (by omega) (by omega)]; omega
      rw [if_neg this]
      exact ⟨⟨c', by simp only; omega, g2⟩, by simp only; omega, g4⟩
theorem m_path {F : Int32 → sm_MI → sm_ML → Prop} {t k : Nat} {c : Int32} {z : w_St} {g : Int32} (hR : RR A W H S N R ν lb b T I L) (ht : t < N) (hk1 : 1 ≤ k) (hk2 : k ≤ 60) (hz : mU N (I 92) = z.1)
    (h : ∀ I', RR A W H S N R ν lb b T I' L → F (if c = -1 then nI (fo (fPa (E0 A lb g) W H S N ν z t c) (0, -1) k).1 else (fo (fPa (E0 A lb g) W H S N ν z t c) (0, -1) k).2) I' L) : sm_CI (n + 20) mX12_path T I L [.ref 76, .int (nI t), .int (nI k), .int c] F := by
  have hB := hR.hB
  obtain ⟨_, _, ⟨d1, d2, d3, d4, d5⟩, _, _⟩ := hR.st
  have v1 := hR.va.2.1
  have v4 := hR.va.2.2.2.1
  have h0 := gV_H hR.va ht
  refine c_X12_path hB (fun x hx => s_m_isThing hB ?_)
  rw [d3, qW_natI ht (by omega)]
  refine ⟨fun y => absurd y (by decide), fun _ => s_m_areNights hB ?_⟩
  rw [d1, an_ok h0 (by omega), q_60 hk1 hk2]
  refine ⟨fun _ => s_m_aside hB (fun I3 ha h92 h34 => ?_), fun y => absurd y (by decide)⟩
  refine m_loop (W := W) (E := E0 A lb g) (z := z) (m := k) (Ia := I) (P := pPa (E0 A lb g) W H S N ν z t c) (V := fun i a I' => ∀ u7 : Option Value, sm_V x 0 0 T I' L 33 [some (.ref 76), some (.int (nI t)), some (.int (nI k)), some (.int c), some (.int (nI a.1)), some (.int a.2), some (.int (nI i)), u7] []) (fun i a I' him hp ha hD hn hu next u7 => ?_) k 0 (0, -1) I3 (by omega) ⟨rfl, Nat.le_refl _⟩ ha (mD_frQ (mD_now hR (gh := -1) (gs := g)) ha.1) (h34.trans hR.n34) (by rw [h92]; exact hz) none
  refine u_X12_path_33 hB hx ⟨fun q => s_m_back hR ha (fun I2 _ _ h2 => ?_), fun q => ⟨vp_in_nI (by omega) (by decide), m_step (n := n + 12) (E := E0 A lb g) hB hR.ml (vE_mk hR.va h0) hR.now.2.1 rfl rfl rfl ha hD hn hu (fun I2 ha2 hD2 hn2 hu2 => ⟨vp_in_nI (by omega) (by decide), ?_⟩)⟩⟩
  · have : i = k := by have := q_le q (by omega) (by omega); omega
    subst this
    have h3 := h I2 h2
    rw [← hp.1] at h3
    exact ⟨fun y => by rw [if_neg y] at h3; exact h3, fun y => by rw [if_pos y] at h3; exact h3⟩
  · have hik : i < k := q_nle q (by omega) (by omega)
    rw [nI_clamp (by omega), ← mU_at (N := N) (I2 92) ht, ← mU_at (N := N) (I' 92) ht, hu2, hu, nI_1]
    refine ⟨fun r => next hik a I2 (pPa_eq hp r) ha2 hD2 hn2 hu2 _, fun r => ?_⟩
    have go := next hik _ I2 (pPa_ne hp r) ha2 hD2 hn2 hu2
    rw [nI_1]
    refine ⟨fun y => ?_, fun y => ⟨vp_in_nI (by omega) (by decide), ?_⟩⟩
    · rw [if_neg y] at go; exact go _
    · rw [if_pos y] at go; exact go _
theorem p_path {G : Int32 → Int32 → sm_MI → sm_ML → Prop} {a m c : Int32} (hR : RR A W H S N R ν lb b T I L) (h : ∀ v I' L', RR A W H S N R ν lb b T I' L' → G v v I' L') :
    sm_CI (n + 20) mX11_path T I L [.ref 0, .int a, .int m, .int c] (fun r1 I1 L1 => sm_CI (n + 20) mX12_path T I1 L1 [.ref 76, .int a, .int m, .int c] (fun r2 I2 L2 => G r1 r2 I2 L2)) := by
  have hB := hR.hB
  obtain ⟨⟨a1, a2, a3, a4, a5⟩, _, ⟨c1, c2, c3, c4, c5⟩, _, _⟩ := hR.st
  have v1 := hR.va.2.1
  have v4 := hR.va.2.2.2.1
  have bad : (qW a 0 (nI N - 1) = false ∨ qW m 1 60 = false) → sm_CI (n + 20) mX12_path T I L [.ref 76, .int a, .int m, .int c] (fun r2 I2 L2 => G (-1000000) r2 I2 L2) := by
    intro w
    refine c_X12_path hB (fun x hx => s_m_isThing hB ?_)
    rw [c3]
    refine ⟨fun _ => h _ _ _ hR, fun q1 => s_m_areNights hB ?_⟩
    obtain ⟨t, ht, e⟩ := qW_nat (by omega) q1
    rw [c1, an_ok (gV_H hR.va ht) (by omega)]
    refine ⟨fun q4 => ?_, fun _ => h _ _ _ hR⟩
    rcases w with w | w
    · rw [q1] at w; exact absurd w (by decide)
    · rw [q4] at w; exact absurd w (by decide)
  refine c_X11_path hB (fun x hx => s_hasThing hB ?_)
  rw [a3]
  refine ⟨fun q => bad (Or.inl q), fun q1 => s_within hB ⟨fun q4 => ?_, fun q => bad (Or.inr q)⟩⟩
  obtain ⟨t, ht, rfl⟩ := qW_nat (by omega) q1
  obtain ⟨k, hk1, hk2, rfl⟩ := qW_rng (lo := 1) (hi := 60) (by decide) (by decide) q4
  have h0 := gV_H hR.va ht
  have hb := hR.bb
  have hν := hR.now.1
  refine s_begin_R (n := n + 18) hR (fun I1 z g f1 e65 e67 e12 hD hz z1 zc zd => ?_)
  refine c_loop (W := W) (E := E0 A lb g) (z := z) (m := k) (Ia := I) (I0 := I) (L := L) (R := R) (P := fun i a => pPa (E0 A lb g) W H S N ν z t c i a ∧ a.2 = -1) (V := fun i a I' L' => ∀ u6 u7 : Option Value, sm_V x 0 0 T I' L' 41 [some (.ref 0), some (.int (nI t)), some (.int (nI k)), some (.int c), some (.int (nI a.1)), some (.int (nI i)), u6, u7] []) (fun i a I' him hp hf hD hz next u6 u7 => ?_) k 0 (0, -1) I1 (by omega) ⟨⟨rfl, Nat.le_refl _⟩, rfl⟩ f1 hD hz none none
  have mod : ∀ (I2 : sm_MI) (i' : Nat) (v : Int32), Fr PQ I I2 → Cok (mkE A 0 0 0 0 0 (fun _ => 0)) W S I2 → v = (if c = -1 then nI (fo (fPa (E0 A lb g) W H S N ν z t c) (0, -1) k).1 else (fo (fPa (E0 A lb g) W H S N ν z t c) (0, -1) k).2) → sm_CI (n + 20) mX12_path T I2 (sm_uL L 53 3 (ngs (E0 A lb g) W H S N ν i' z).2.2.1) [.ref 76, .int (nI t), .int (nI k), .int c] (fun r2 I2 L2 => G v r2 I2 L2) := by
    intro I2 i' v f2 hC hv
    have hR2 := RR_c (v := (ngs (E0 A lb g) W H S N ν i' z).2.2.1) hR f2 hC
    refine m_path (g := g) (z := z) hR2 ht hk1 hk2 (by rw [← hR2.u, z1, f2 35 0 rfl]) (fun I' h' => ?_)
    rw [← hv]
    exact h _ _ _ h'
  refine u_X11_path_41 hB hx ⟨fun q => ?_, fun q => s_placeIn hB (c_step (n := n + 13) (E := E0 A lb g) hB hR.rl (vE_mk hR.va h0) (Or.inl rfl) (by omega) hf hD hz (fun I2 f2 hD2 hz2 => s_placeIn hB ?_))⟩
  · have : i = k := by have := q_le q (by omega) (by omega); omega
    subst this
    refine ⟨fun y => mod _ _ _ hf (Cok_of hD) ?_, fun y => mod _ _ _ hf (Cok_of hD) ?_⟩
    · rw [if_neg y, ← hp.1.1, hp.2]
    · rw [if_pos y, ← hp.1.1]
  · have hik : i < k := q_nle q (by omega) (by omega)
    rw [nI_1, ← cU_at (N := N) _ ht, ← cU_at (N := N) _ ht, hz2.1, hz.1]
    refine ⟨fun r => ⟨fun _ => next hik a I2 ⟨pPa_eq hp.1 r, hp.2⟩ f2 hD2 hz2 _ _, fun y => absurd r y⟩, fun r => ⟨fun y => ⟨fun y' => absurd y' r, fun _ => ?_⟩, fun y => ?_⟩⟩
    · rw [nI_1]
      have hp2 := pPa_ne hp.1 r
      rw [if_neg y] at hp2
      exact next hik _ I2 ⟨hp2, hp.2⟩ f2 hD2 hz2 _ _
    · have hp2 := pPa_ne hp.1 r
      rw [if_pos y] at hp2
      have hai := hp.1.2
      have st := fPa_stays (E := E0 A lb g) (W := W) (H := H) (S := S) (N := N) (ν := ν) (z := z) (t := t) (c := c) (j := i + 1) (v := (ngs (E0 A lb g) W H S N ν (i + 1) z).1 t) (k - (i + 1)) (by omega) ⟨a.1, by rw [← hp2.1]; exact Nat.lt_succ_self _, y.symm⟩ (by rw [← hp2.1]; exact hp2.2) (by rw [← hp2.1])
      rw [show i + 1 + (k - (i + 1)) = k by omega] at st
      refine mod I2 (i + 1) _ f2 (Cok_of hD2) ?_
      rw [if_neg (fun z => q_m1 (x := a.1) (by omega) (y.trans z)), st.2.2]
theorem p_astray {G : Int32 → Int32 → sm_MI → sm_ML → Prop} {m : Int32} (hR : RR A W H S N R ν lb b T I L) (h : ∀ v I' L', RR A W H S N R ν lb b T I' L' → G v v I' L') :
    sm_CI (n + 20) mX11_astray T I L [.ref 0, .int m] (fun r1 I1 L1 => sm_CI (n + 20) mX12_astray T I1 L1 [.ref 76, .int m] (fun r2 I2 L2 => G r1 r2 I2 L2)) := by
  have hB := hR.hB
  obtain ⟨⟨a1, a2, a3, a4, a5⟩, _, ⟨c1, c2, c3, c4, c5⟩, _, c6⟩ := hR.st
  have v1 := hR.va.2.1
  have v4 := hR.va.2.2.2.1
  have bad : (H = 0 ∨ qW m 0 60 = false) → sm_CI (n + 20) mX12_astray T I L [.ref 76, .int m] (fun r2 I2 L2 => G (-1) r2 I2 L2) := by
    intro w
    refine c_X12_astray hB (fun x hx => ⟨fun _ => h _ _ _ hR, fun q => s_m_in hB ⟨fun r => ?_, fun _ => h _ _ _ hR⟩⟩)
    rw [c1] at q
    rcases w with w | w
    · exact absurd (by rw [w]; rfl) q
    · rw [r] at w; exact absurd w (by decide)
  refine c_X11_astray hB (s_isTold hB ?_)
  rw [a1]
  refine ⟨fun q => bad (Or.inl ?_), fun q1 => s_within hB ⟨fun q4 => ?_, fun q => bad (Or.inr q)⟩⟩
  · rcases Nat.eq_zero_or_pos H with z | z
    · exact z
    · exact absurd ((q_told (by omega)).mpr z) (of_decide_eq_false q)
  have h0 : 0 < H := (q_told (by omega)).mp (of_decide_eq_true q1)
  obtain ⟨k, hk1, hk2, rfl⟩ := qW_rng (lo := 0) (hi := 60) (by decide) (by decide) q4
  refine s_dreamOf (n := n + 11) hR h0 (by omega) (fun I1 L1 z g hR1 f1 hz z1 _ _ => ?_)
  obtain ⟨⟨_, _, b3, _, _⟩, _, ⟨d1, d2, d3, d4, d5⟩, _, d6⟩ := hR1.st
  refine s_elsewhere hB b3 v4 ?_
  rw [hz.1, d6.1]
  refine c_X12_astray hB (fun x hx => ⟨fun q => absurd q (by rw [d1]; exact nI_ne0 h0 (by omega)), fun q => s_m_in hB ⟨fun _ => s_m_aside hB (fun I3 ha h92 h34 => ?_), fun y => absurd (show qW (nI k) 0 60 = true from q4) (by rw [y]; decide)⟩⟩)
  have hu : mU N (I3 92) = z.1 := by rw [h92, ← hR1.u, z1, f1 35 0 rfl]
  refine s_m_calmNights (n := n + 11) hB hR1.ml (vE_mk hR1.va h0) hR1.now.2.1 rfl rfl rfl (by omega) (mD_frQ (mD_now hR1 (gh := -1) (gs := g)) ha.1) (h34.trans hR1.n34) hu (fun I4 f4 hD4 _ hu4 => ?_)
  have ha4 := ha.go f4
  have key : ∀ d t, t + d = N → sm_V x 0 0 T I4 L1 32 [some (.ref 76), some (.int (nI k)), some (.int (nI (elS (mU N (I4 92)) (mU N (I1 90)) t))), some (.int (nI t))] [] := by
    intro d
    induction d with
    | zero =>
      intro t e
      refine u_X12_astray_32 hB hx ⟨fun _ => s_m_back hR1 ha4 (fun I5 _ _ hR5 => ?_), fun q => absurd (by rw [hD4.1.1.2.2.1]; exact nI_le (by omega) (by omega)) q⟩
      rw [show t = N by omega, hu4]
      exact h _ _ _ hR5
    | succ d ih =>
      intro t e
      refine u_X12_astray_32 hB hx ⟨fun q => absurd q (by rw [hD4.1.1.2.2.1]; exact nI_ge (by omega) (by omega)), fun _ => ⟨vp_in_nI (by omega) (by decide), vp_in_nI (by omega) (by decide), ?_⟩⟩
      have go := ih (t + 1) (by omega)
      have e90 : I4 90 = I1 90 := ha4.1.at 90 (fun _ => rfl)
      rw [nI_clamp (by omega), nI_1, e90]
      refine ⟨fun r => ?_, fun r => ?_⟩
      · unfold elS at go ⊢
        rw [bitsOf_no (by rw [mU_at _ (by omega), mU_at _ (by omega)]; exact decide_eq_false (fun y => y r))] at go
        rw [Int32.or_zero]
        exact go
      · unfold elS at go ⊢
        rw [bitsOf_or (by omega) (by rw [mU_at _ (by omega), mU_at _ (by omega)]; exact decide_eq_true r)]
        exact go
  exact key N 0 (by omega)
end
