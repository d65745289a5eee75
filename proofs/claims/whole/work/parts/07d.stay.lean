/-! ===== stay ===== -/
theorem crO_some {lk : Int32} {N s : Nat} {hi : Bool} {a b : Int32} {u : Nat → Int32} (h : crO lk N hi a b u = some s) : thS u a N ≠ 0 ∧ qBo lk a ≠ 1 ∧ s = thg hi (thS u a N) := by
  unfold crO at h
  by_cases h1 : thS u a N = 0
  · rw [if_pos h1] at h; cases h
  · rw [if_neg h1] at h
    by_cases h2 : a = b
    · rw [if_pos h2] at h; cases h
    · rw [if_neg h2] at h
      by_cases h3 : qBo lk a = 1
      · rw [if_pos h3] at h; cases h
      · rw [if_neg h3] at h
        by_cases h4 : qBo lk b = 1
        · rw [if_pos h4] at h; cases h
        · rw [if_neg h4] at h
          exact ⟨h1, h3, (Option.some.inj h).symm⟩
theorem lk_own : ∀ k, k < 8 → qBo (nI (2 ^ k)) (nI k) = 1 := by decide +kernel
theorem lk_step {lk : Int32} {N t k : Nat} {hi : Bool} {a b : Int32} {u : Nat → Int32} (h8 : N ≤ 8) (hk : k < 8) (hl : lk = nI (2 ^ k)) (hu : u t = nI k) : crU u (crO lk N hi a b u) b t = nI k := by
  cases ho : crO lk N hi a b u with
  | none => exact hu
  | some s =>
    obtain ⟨h1, h2, h3⟩ := crO_some ho
    have h4 := (thg_in h8 h1 hi).2
    rw [← h3] at h4
    by_cases e : t = s
    · subst e
      rw [hu] at h4
      rw [← h4, hl] at h2
      exact absurd (lk_own k hk) h2
    · show upd u s b t = nI k
      rw [pk_un e, hu]
theorem bc0 : ∀ s, s < 256 → qBC 0 ≤ qBC (nI s) := by decide +kernel
theorem bc1 : ∀ s, s < 256 → s ≠ 0 → (1 : Int32) ≤ qBC (nI s) := by decide +kernel
theorem bcP : ∀ h, h < 8 → qBC (nI (2 ^ h)) = 1 := by decide +kernel
theorem bcN : ∀ h, h < 8 → nI (2 ^ h) ≠ -1 := by decide +kernel
theorem bc2 : ∀ s, s < 256 → s ≠ 0 → (∀ h, h < 8 → s ≠ 2 ^ h) → ¬ qBC (nI s) ≤ (1 : Int32) := by decide +kernel
/-- the model's search over all sets of houses -/
def mbS (g : Nat → Bool) : Nat → Int32
  | 0 => -1
  | s + 1 => if (mbS g s = -1 ∨ ¬ qBC (mbS g s) ≤ qBC (nI s)) ∧ g s = true then nI s else mbS g s
theorem mbS_0 {g : Nat → Bool} (h : g 0 = true) : ∀ s, s < 256 → mbS g (s + 1) = 0
  | 0, _ => if_pos ⟨Or.inl rfl, h⟩
  | s + 1, hs => by
    have ih := mbS_0 h s (by omega)
    rw [mbS, ih, if_neg]
    rintro ⟨q | q, _⟩
    · exact absurd q (by decide)
    · exact q (bc0 (s + 1) hs)
theorem mbS_A {g : Nat → Bool} {h : Nat} (h0 : g 0 = false) (hh : h < 8) (hm : ∀ j, j < h → g (2 ^ j) = false) : ∀ s, s ≤ 2 ^ h → mbS g s = -1 ∨ ¬ qBC (mbS g s) ≤ 1
  | 0, _ => Or.inl rfl
  | s + 1, hs => by
    have ih := mbS_A h0 hh hm s (by omega)
    have h256 : 2 ^ h ≤ 2 ^ 7 := Nat.pow_le_pow_right (by decide) (by omega)
    rw [mbS]
    by_cases q : (mbS g s = -1 ∨ ¬ qBC (mbS g s) ≤ qBC (nI s)) ∧ g s = true
    · rw [if_pos q]
      refine Or.inr (bc2 s (by omega) ?_ (fun j hj e => ?_))
      · intro e; rw [e, h0] at q; exact absurd q.2 (by decide)
      · rcases Nat.lt_or_ge j h with z | z
        · have := hm j z
          rw [← e, q.2] at this
          exact absurd this (by decide)
        · have : 2 ^ h ≤ 2 ^ j := Nat.pow_le_pow_right (by decide) z
          omega
    · rw [if_neg q]; exact ih
theorem mbS_1 {g : Nat → Bool} {h : Nat} (h0 : g 0 = false) (hh : h < 8) (hg : g (2 ^ h) = true) (hm : ∀ j, j < h → g (2 ^ j) = false) : ∀ d, 2 ^ h + d < 256 → mbS g (2 ^ h + d + 1) = nI (2 ^ h)
  | 0, _ => by
    have ha := mbS_A h0 hh hm (2 ^ h) (Nat.le_refl _)
    rw [Nat.add_zero, mbS, if_pos]
    refine ⟨?_, hg⟩
    rw [bcP h hh]
    exact ha
  | d + 1, hd => by
    have ih := mbS_1 h0 hh hg hm d (by omega)
    rw [show 2 ^ h + (d + 1) + 1 = (2 ^ h + d + 1) + 1 by omega, mbS, ih, if_neg]
    rintro ⟨q | q, _⟩
    · exact bcN h hh q
    · rw [bcP h hh] at q
      exact q (bc1 (2 ^ h + d + 1) (by omega) (Nat.succ_ne_zero _))
section
variable {n : Nat} {T : List sm_Sh} {I I' I1 : sm_MI} {L L' : sm_ML} {A : Nat → Nat → Int32} {H S N R ν lb b ν' lb' b' : Nat} {W : Nat → (Nat → Int32) → Int32} {f u : Nat → Int32}
theorem lk_nst {E : Nat → Nat → Int32} {t k : Nat} (h8 : N ≤ 8) (hk : k < 8) (hl : E 0 0 = nI (2 ^ k)) {z : w_St} (hu : z.1 t = nI k) : ∀ w, (nst E W H N ν w z).1 t = nI k
  | 0 => hu
  | w + 1 => lk_step h8 hk hl (lk_nst h8 hk hl hu w)
theorem lk_ngs {E : Nat → Nat → Int32} {t k : Nat} (h8 : N ≤ 8) (hk : k < 8) (hl : E 0 0 = nI (2 ^ k)) (hg : E 0 5 = -1) {z : w_St} (hu : z.1 t = nI k) : ∀ i, (ngs E W H S N ν i z).1 t = nI k
  | 0 => hu
  | i + 1 => by
    show (ngt E W H S N (ν + i) (ngs E W H S N ν i z)).1 t = nI k
    rw [ngt_n hg]
    exact lk_nst h8 hk hl (lk_ngs h8 hk hl hg hu i) S
theorem stB_own {t k : Nat} (h8 : N ≤ 8) (hk : k < 8) (hu : u t = nI k) : ∀ i, stB A W H S N ν (2 ^ k) t u i = true
  | 0 => rfl
  | i + 1 => by
    show (stB A W H S N ν (2 ^ k) t u i && decide (nU A W H S N ν (nI (2 ^ k)) (-1) (fun _ => -1) (i + 1) u t = u t)) = true
    rw [stB_own h8 hk hu i, Bool.true_and]
    apply decide_eq_true
    rw [hu]
    exact lk_ngs (E := mkE A (nI (2 ^ k)) (-1) 0 (-1) 0 (fun _ => -1)) h8 hk rfl rfl hu (i + 1)
theorem mY_l {l l' : Nat} (h : mY N ν l I I1) : mY N ν l' I (sm_uI I1 76 33 (nI l')) := by
  obtain ⟨h1, h2, h3, h4⟩ := h
  refine ⟨h1.u rfl, ?_, ?_, ?_⟩
  · rw [sm_uI_ne (by decide)]; exact h2
  · rw [sm_uI_at, pk_un (by decide)]; exact h3
  · rw [sm_uI_at, pk_us]
theorem mY_end {l : Nat} (hR : RR A W H S N R ν lb b T I L) (h : mY N ν l I I1) : RR A W H S N R ν lb b T (sm_uI I1 76 33 (nI lb)) L := by
  obtain ⟨h1, h2, h3, h4⟩ := h
  have f : Fr qMQ I (sm_uI I1 76 33 (nI lb)) := fun k j q => by
    by_cases e : k = 76 ∧ j = 33
    · obtain ⟨rfl, rfl⟩ := e
      rw [sm_uI_at, pk_us]
      exact hR.now.2.2.2.2.1.symm
    · have e2 : sm_uI I1 76 33 (nI lb) k j = I1 k j := by
        unfold sm_uI
        by_cases a : k = 76
        · by_cases c : j = 33
          · exact absurd ⟨a, c⟩ e
          · simp [a, c]
        · simp [a]
      rw [e2]
      refine h1 k j ?_
      rw [Bool.eq_false_iff] at q ⊢
      intro g
      simp only [qY, Bool.or_eq_true, Bool.and_eq_true] at g
      rcases g with g | g
      · exact q g
      · exact e ⟨q_beq g.1, q_beq g.2⟩
  refine RR_q hR (f.mono MQ_qM) rfl ?_ ?_ (Cok_fr hR.c (f.at 65 (fun _ => rfl)) (f.at 67 (fun _ => rfl))) (fun k h1 h2 => f.at k (fun j => MQ_code h1 h2))
  · rw [sm_uI_ne (by decide)]; exact h2
  · rw [sm_uI_at, pk_un (by decide), h3, hR.n34]
theorem m_stay {F : Int32 → sm_MI → sm_ML → Prop} {t k : Nat} (hR : RR A W H S N R ν lb b T I L) (h0 : 0 < H) (ht : t < N) (hk1 : 1 ≤ k) (hk2 : k ≤ 60)
    (h : ∀ I' L', RR A W H S N R ν lb b T I' L' → F (mbS (fun l => stB A W H S N ν l t (mU N (I 92)) k) (2 ^ H)) I' L') : sm_CI (n + 20) mX12_stay T I L [.ref 76, .int (nI t), .int (nI k)] F := by
  have hB := hR.hB
  have v1 := hR.va.2.1
  have v4 := hR.va.2.2.2.1
  obtain ⟨_, _, ⟨c1, c2, c3, c4, c5⟩, _, _⟩ := hR.st
  have hp : 2 ^ H ≤ 2 ^ 8 := Nat.pow_le_pow_right (by decide) v1
  generalize hg : (fun l => stB A W H S N ν l t (mU N (I 92)) k) = g at h
  have hg' : ∀ l, stB A W H S N ν l t (mU N (I 92)) k = g l := fun l => by rw [← hg]
  refine c_X12_stay hB (fun x hx => s_m_isThing hB ?_)
  rw [c3, qW_natI ht (by omega)]
  refine ⟨fun y => absurd y (by decide), fun _ => s_m_areNights hB ?_⟩
  rw [c1, an_ok h0 (by omega), q_60 hk1 hk2, hR.now.2.2.2.2.1]
  refine ⟨fun _ => ?_, fun y => absurd y (by decide)⟩
  have key : ∀ d s (I2 : sm_MI), s + d = 2 ^ H → (∃ l, mY N ν l I I2) → sm_V x 0 0 T I2 L 29 [some (.ref 76), some (.int (nI t)), some (.int (nI k)), some (.int (nI lb)), some (.int (mbS g s)), some (.int (nI s))] [] := by
    intro d
    induction d with
    | zero =>
      intro s I2 e hY
      obtain ⟨l, hY⟩ := hY
      have e26 : I2 76 26 = nI H := (hY.1 76 26 rfl).trans c1
      have : s = 2 ^ H := by omega
      subst this
      refine u_X12_stay_29 hB hx ⟨fun _ => h _ _ (mY_end hR hY), fun q => absurd (by rw [e26, q_pow H (by omega)]; exact nI_le (Nat.le_refl _) (by omega)) q⟩
    | succ d ih =>
      intro s I2 e hY
      obtain ⟨l, hY⟩ := hY
      have e26 : I2 76 26 = nI H := (hY.1 76 26 rfl).trans c1
      have es : mbS g (s + 1) = if (mbS g s = -1 ∨ ¬ qBC (mbS g s) ≤ qBC (nI s)) ∧ g s = true then nI s else mbS g s := rfl
      have go : ∀ (I3 : sm_MI) (o : Bool), mY N ν s I I3 → (mbS g s = -1 ∨ ¬ qBC (mbS g s) ≤ qBC (nI s)) → o = g s → (o = false → sm_V x 0 0 T I3 L 29 [some (.ref 76), some (.int (nI t)), some (.int (nI k)), some (.int (nI lb)), some (.int (mbS g s)), some (.int (nI s + 1))] []) ∧ (o = true → sm_V x 0 0 T I3 L 29 [some (.ref 76), some (.int (nI t)), some (.int (nI k)), some (.int (nI lb)), some (.int (nI s)), some (.int (nI s + 1))] []) := by
        intro I3 o hY3 hc ho
        have g1 := ih (s + 1) I3 (by omega) ⟨s, hY3⟩
        rw [es] at g1
        rw [nI_1]
        refine ⟨fun z => ?_, fun z => ?_⟩
        · rw [if_neg (fun y => by rw [← ho, z] at y; exact absurd y.2 (by decide))] at g1; exact g1
        · rw [if_pos ⟨hc, by rw [← ho, z]⟩] at g1; exact g1
      refine u_X12_stay_29 hB hx ⟨fun q => absurd q (by rw [e26, q_pow H (by omega)]; exact nI_ge (by omega) (by omega)), fun _ => ⟨fun z => ?_, fun z => s_BC (s_BC ⟨fun r => ?_, fun r => ?_⟩)⟩⟩
      · refine s_m_stays (n := n + 10) hR h0 (l := s) (by omega) ht (by omega) (mY_l hY) (fun I3 hY3 => ?_)
        rw [hg']
        exact go I3 _ hY3 (Or.inl z) rfl
      · have g1 := ih (s + 1) I2 (by omega) ⟨l, hY⟩
        rw [es, if_neg (fun y => y.1.elim z (fun w => w r))] at g1
        rw [nI_1]
        exact g1
      · refine s_m_stays (n := n + 10) hR h0 (l := s) (by omega) ht (by omega) (mY_l hY) (fun I3 hY3 => ?_)
        rw [hg']
        exact go I3 _ hY3 (Or.inr r) rfl
  refine key (2 ^ H) 0 I (by omega) ⟨lb, Fr.rf, rfl, hR.n34, hR.now.2.2.2.2.1⟩
theorem p_stay {G : Int32 → Int32 → sm_MI → sm_ML → Prop} {a m : Int32} (hR : RR A W H S N R ν lb b T I L) (h : ∀ v I' L', RR A W H S N R ν lb b T I' L' → G v v I' L') :
    sm_CI (n + 20) mX11_stay T I L [.ref 0, .int a, .int m] (fun r1 I1 L1 => sm_CI (n + 20) mX12_stay T I1 L1 [.ref 76, .int a, .int m] (fun r2 I2 L2 => G r1 r2 I2 L2)) := by
  have hB := hR.hB
  obtain ⟨⟨a1, a2, a3, a4, a5⟩, _, ⟨c1, c2, c3, c4, c5⟩, _, _⟩ := hR.st
  have v1 := hR.va.2.1
  have v4 := hR.va.2.2.2.1
  refine c_X11_stay hB (fun x hx => s_hasThing hB ?_)
  rw [a3]
  refine ⟨fun q => c_X12_stay hB (fun y hy => s_m_isThing hB ?_), fun q => s_within hB ⟨fun r => ?_, fun r => c_X12_stay hB (fun y hy => s_m_isThing hB ?_)⟩⟩
  · rw [c3, q]
    exact ⟨fun _ => h _ _ _ hR, fun z => absurd z (by decide)⟩
  · obtain ⟨t, ht, rfl⟩ := qW_nat (by omega) q
    obtain ⟨k, hk1, hk2, rfl⟩ := qW_rng (lo := 1) (hi := 60) (by decide) (by decide) r
    have h0 := gV_H hR.va ht
    obtain ⟨ko, hko, eo⟩ := hR.now.2.2.2.2.2.2 t ht
    generalize hg : (fun l => stB A W H S N ν l t (cU N (I 35 0)) k) = g
    have hg' : ∀ l, stB A W H S N ν l t (cU N (I 35 0)) k = g l := fun l => by rw [← hg]
    have hown : g (2 ^ ko) = true := by rw [← hg']; exact stB_own v4 (by omega) eo k
    have mod : ∀ (I2 : sm_MI) (L2 : sm_ML) (v : Int32), RR A W H S N R ν lb b T I2 L2 → Fr PQ I I2 → mbS g (2 ^ H) = v → sm_CI (n + 20) mX12_stay T I2 L2 [.ref 76, .int (nI t), .int (nI k)] (fun r2 I2 L2 => G v r2 I2 L2) := by
      intro I2 L2 v hR2 f2 e
      refine m_stay hR2 h0 ht hk1 hk2 (fun I' L' hR' => ?_)
      rw [← hR2.u, f2 35 0 rfl, hg, e]
      exact h _ _ _ hR'
    refine s_stays (n := n + 11) (l := 0) hR h0 ht (by omega) (fun I1 L1 hR1 f1 => ?_)
    rw [hg']
    have hp : 2 ^ H ≤ 2 ^ 8 := Nat.pow_le_pow_right (by decide) v1
    have hp0 : 0 < 2 ^ H := Nat.pow_pos (by decide)
    refine ⟨fun z0 => ?_, fun z => mod _ _ _ hR1 f1 (by rw [show 2 ^ H = (2 ^ H - 1) + 1 by omega]; exact mbS_0 z _ (by omega))⟩
    have key : ∀ d i (I2 : sm_MI) (L2 : sm_ML), i + d = H → (∀ j, j < i → g (2 ^ j) = false) → RR A W H S N R ν lb b T I2 L2 → Fr PQ I I2 → sm_V x 0 0 T I2 L2 37 [some (.ref 0), some (.int (nI t)), some (.int (nI k)), some (.int (nI i))] [] := by
      intro d
      induction d with
      | zero =>
        intro i I2 L2 e hm hR2 f2
        have := hm ko (by omega)
        rw [hown] at this
        exact absurd this (by decide)
      | succ d ih =>
        intro i I2 L2 e hm hR2 f2
        refine u_X11_stay_37 hB hx ⟨fun q => absurd q (by rw [hR2.st.1.1]; exact nI_ge (by omega) (by omega)), fun _ => ?_⟩
        rw [q_pow i (by omega)]
        refine s_stays (n := n + 11) (l := 2 ^ i) hR2 h0 ht (by omega) (fun I3 L3 hR3 f3 => ?_)
        rw [f2 35 0 rfl, hg']
        refine ⟨fun z => ?_, fun z => mod _ _ _ hR3 (f2.tr f3) ?_⟩
        · rw [nI_1]
          refine ih (i + 1) I3 L3 (by omega) (fun j hj => ?_) hR3 (f2.tr f3)
          rcases Nat.lt_or_ge j i with y | y
          · exact hm j y
          · rw [show j = i by omega]; exact z
        · have hlt : 2 ^ i < 2 ^ H := Nat.pow_lt_pow_right (by decide) (by omega)
          rw [show 2 ^ H = 2 ^ i + (2 ^ H - 2 ^ i - 1) + 1 by omega]
          exact mbS_1 z0 (by omega) z hm _ (by omega)
    exact key H 0 I1 L1 (by omega) (fun j hj => absurd hj (by omega)) hR1 f1
  · rw [c3, q]
    obtain ⟨t, ht, rfl⟩ := qW_nat (by omega) q
    have h0 := gV_H hR.va ht
    refine ⟨fun z => absurd z (by decide), fun _ => s_m_areNights hB ?_⟩
    rw [c1, an_ok h0 (by omega), r]
    exact ⟨fun z => absurd z (by decide), fun _ => h _ _ _ hR⟩
end
