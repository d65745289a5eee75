theorem w_o_lt {E : Nat → Nat → Int32} {H N w t : Nat} {st : Int32} {u : Nat → Int32} (h8 : N ≤ 8) (h : w_o E H N w st u = some t) : t < N := by
  unfold w_o crO at h
  split at h
  · exact absurd h (by simp)
  · rename_i h0
    split at h
    · exact absurd h (by simp)
    · split at h
      · exact absurd h (by simp)
      · split at h
        · exact absurd h (by simp)
        · have := Option.some.inj h
          rw [← this]
          exact (thg_in h8 h0 _).1
theorem oI_none {o : Option Nat} (h : ∀ t, o = some t → t < 8) : oI o = -1 ↔ o = none := by
  cases o with
  | none => exact ⟨fun _ => rfl, fun _ => rfl⟩
  | some t =>
    have := h t rfl
    refine ⟨fun q => ?_, fun q => absurd q (by simp)⟩
    have e := congrArg Int32.toInt (show nI t = -1 from q)
    rw [nI_toInt (by omega)] at e
    have e1 : (-1 : Int32).toInt = -1 := by decide
    omega
theorem oI_some {o : Option Nat} {s : Nat} (hs : s < 8) (h : ∀ t, o = some t → t < 8) : oI o = nI s ↔ o = some s := by
  cases o with
  | none =>
    refine ⟨fun q => ?_, fun q => absurd q (by simp)⟩
    have e := congrArg Int32.toInt (show (-1 : Int32) = nI s from q)
    rw [nI_toInt (by omega)] at e
    have e1 : (-1 : Int32).toInt = -1 := by decide
    omega
  | some t =>
    have := h t rfl
    show nI t = nI s ↔ _
    rw [nI_eq (by omega) (by omega)]
    simp
section
variable {n : Nat} {T : List sm_Sh} {I : sm_MI} {L : sm_ML} {A : Nat → Nat → Int32} {H S N R ν lb b : Nat} {W : Nat → (Nat → Int32) → Int32} {E : Nat → Nat → Int32}
theorem nst_c (z : w_St) (j : Nat) : ∀ w, (nst E W H N ν w z).2.2.2.1 j = if j < w ∧ nko E W H N ν z j ≠ none then z.2.2.2.1 j + 1 else z.2.2.2.1 j
  | 0 => by rw [if_neg (by omega)]; rfl
  | w + 1 => by
    have ih := nst_c z j w
    show crC (nko E W H N ν z w) w (nst E W H N ν w z).2.2.2.1 j = _
    cases ho : nko E W H N ν z w with
    | none =>
      show (nst E W H N ν w z).2.2.2.1 j = _
      rw [ih]
      by_cases e : j = w
      · subst e; rw [if_neg (by omega), if_neg (fun q => q.2 ho)]
      · have : (j < w + 1 ∧ nko E W H N ν z j ≠ none) ↔ (j < w ∧ nko E W H N ν z j ≠ none) := by constructor <;> intro q <;> exact ⟨by omega, q.2⟩
        simp only [this]
    | some t =>
      show upd (nst E W H N ν w z).2.2.2.1 w ((nst E W H N ν w z).2.2.2.1 w + 1) j = _
      by_cases e : j = w
      · subst e
        rw [pk_us, ih, if_neg (by omega), if_pos ⟨by omega, by rw [ho]; simp⟩]
      · rw [pk_un e, ih]
        have : (j < w + 1 ∧ nko E W H N ν z j ≠ none) ↔ (j < w ∧ nko E W H N ν z j ≠ none) := by constructor <;> intro q <;> exact ⟨by omega, q.2⟩
        simp only [this]
theorem nst_d (z : w_St) (t w : Nat) : (nst E W H N ν (w + 1) z).2.2.2.2 t = if nko E W H N ν z w = some t then (nst E W H N ν w z).2.2.2.2 t ||| ((1 : Int32) <<< (nI w &&& 31)) else (nst E W H N ν w z).2.2.2.2 t := by
  show crD (nko E W H N ν z w) w (nst E W H N ν w z).2.2.2.2 t = _
  cases ho : nko E W H N ν z w with
  | none => rw [if_neg (by simp)]; rfl
  | some s =>
    show upd (nst E W H N ν w z).2.2.2.2 s _ t = _
    by_cases e : t = s
    · subst e; rw [pk_us, if_pos rfl]
    · rw [pk_un e, if_neg (fun q => e (Option.some.inj q).symm)]
theorem ngt_n {z : w_St} (hg : E 0 5 = -1) : ngt E W H S N ν z = nst E W H N ν S z := by unfold ngt gst; rw [if_pos hg]
theorem s_m_carries_l {F : Int32 → sm_MI → sm_ML → Prop} {z : w_St} {x : sm_Cx} {m w : Nat} (hR : RR A W H S N R ν lb b T I L) (hlk : E 0 0 = nI lb) (hr0 : E 0 2 = 0) (hg : E 0 5 = -1) (hV : vE E H S N R) (hm : m < 2 ^ 30) (hw : w < S) (hx : sm_Ok x mX12_carries (n + 9) (sm_KI T F))
    (h : ∀ I', RR A W H S N R ν lb b T I' L → F ((ngs E W H S N ν m z).2.2.2.1 w) I' L) :
    ∀ (d i : Nat) (I' : sm_MI), i + d = m → mAs I I' → mD E H S N I I' → I' 76 34 = nI (ν + i) → mU N (I' 92) = (ngs E W H S N ν i z).1 → sm_V x 0 0 T I' L 27 [some (.ref 76), some (.int (nI w)), some (.int (nI m)), some (.int ((ngs E W H S N ν i z).2.2.2.1 w)), some (.int (nI i))] []
  | 0, i, I', e, ha, hD, hn, hu => by
    have him : i = m := by omega
    subst him
    exact u_X12_carries_27 hR.hB hx ⟨fun _ => s_m_back hR ha (fun I2 _ _ h2 => h I2 h2), fun q => absurd (nI_le (Nat.le_refl _) (by omega)) q⟩
  | d + 1, i, I', e, ha, hD, hn, hu => by
    refine u_X12_carries_27 hR.hB hx ⟨fun q => absurd q (nI_ge (by omega) (by omega)), fun _ => s_m_calmNight (n := n + 1) hR.hB hR.ml hV hR.now.2.1 hlk hr0 hD hn hu (fun I2 f2 hD2 hn2 hu2 hc2 => ?_)⟩
    have v3 := hV.2.2.1
    have v4 := hV.2.2.2.1
    refine ⟨vp_in_nI (by omega) (by decide), ?_⟩
    rw [nI_clamp (by omega), hc2 w hw, nI_1]
    have hlt : ∀ t, nko E W H N (ν + i) (ngs E W H S N ν i z) w = some t → t < 8 := fun t ht => Nat.lt_of_lt_of_le (w_o_lt v4 ht) v4
    have hstep : ngs E W H S N ν (i + 1) z = nst E W H N (ν + i) S (ngs E W H S N ν i z) := ngt_n hg
    have hcw := nst_c (E := E) (W := W) (H := H) (N := N) (ν := ν + i) (ngs E W H S N ν i z) w S
    rw [← hstep] at hcw hu2
    have go := s_m_carries_l hR hlk hr0 hg hV hm hw hx h d (i + 1) I2 (by omega) (ha.go f2) hD2 hn2 hu2
    refine ⟨fun q => ?_, fun q => ?_⟩
    · rw [if_neg (fun g => g.2 ((oI_none hlt).mp q))] at hcw
      rw [hcw] at go
      rw [Int32.add_zero]
      exact go
    · rw [if_pos ⟨hw, fun g => q ((oI_none hlt).mpr g)⟩] at hcw
      rw [hcw] at go
      exact go
theorem p_carries {G : Int32 → Int32 → sm_MI → sm_ML → Prop} {a m : Int32} (hR : RR A W H S N R ν lb b T I L)
    (h : ∀ v I' L', RR A W H S N R ν lb b T I' L' → G v v I' L') :
    sm_CI (n + 20) mX11_carries T I L [.ref 0, .int a, .int m] (fun r1 I1 L1 => sm_CI (n + 20) mX12_carries T I1 L1 [.ref 76, .int a, .int m] (fun r2 I2 L2 => G r1 r2 I2 L2)) := by
  have hB := hR.hB
  obtain ⟨⟨a1, a2, a3, a4, a5⟩, _, ⟨c1, c2, c3, c4, c5⟩, _, _⟩ := hR.st
  have hH8 := hR.va.2.1
  have v3 := hR.va.2.2.1
  refine c_X11_carries hB (s_hasSleeper hB ?_)
  rw [a2]
  refine ⟨fun q => c_X12_carries hB (fun x hx => s_m_isSleeper hB ?_), fun q => s_within hB ⟨fun r => ?_, fun r => c_X12_carries hB (fun x hx => s_m_isSleeper hB ?_)⟩⟩
  · rw [c2, q]
    exact ⟨fun _ => h _ _ _ hR, fun z => absurd z (by decide)⟩
  · obtain ⟨w, hw, rfl⟩ := qW_nat (by omega) q
    obtain ⟨k, hk1, hk2, rfl⟩ := qW_rng (lo := 1) (hi := 60) (by decide) (by decide) r
    have h0 := gV_S hR.va hw
    refine s_dreamOf (n := n + 11) hR h0 (by omega) (fun I1 L1 z g hR1 f1 hz z1 zc _ => s_at (t_56 hB) (t_57 hB) (by omega) (by decide) ?_)
    rw [hz.2.2.2.1]
    obtain ⟨_, _, ⟨d1, d2, d3, d4, d5⟩, _, _⟩ := hR1.st
    refine c_X12_carries hB (fun x hx => s_m_isSleeper hB ?_)
    rw [d2, q]
    refine ⟨fun y => absurd y (by decide), fun _ => s_m_areNights hB ?_⟩
    have r' : qW (nI k) 1 60 = true := r
    rw [d1, an_ok h0 (by omega), r']
    refine ⟨fun _ => s_m_aside hB (fun I3 ha h92 h34 => ?_), fun y => absurd y (by decide)⟩
    have hu : mU N (I3 92) = z.1 := by rw [h92, ← hR1.u, z1, f1 35 0 rfl]
    have := s_m_carries_l (n := n + 11) (m := k) (E := mkE A (nI lb) (-1) 0 (-1) g (fun _ => -1)) (z := z) hR1 rfl rfl rfl (vE_mk hR1.va h0) (by omega) hw hx (fun I' h' => h _ _ _ h') k 0 I3 (by omega) ha (mD_frQ (mD_now hR1 (gh := -1) (gs := g)) ha.1) (h34.trans hR1.n34) hu
    have e0 : (ngs (mkE A (nI lb) (-1) 0 (-1) g (fun _ => -1)) W H S N ν 0 z).2.2.2.1 w = 0 := zc w (by omega)
    rw [e0] at this
    exact this
  · rw [c2, q]
    obtain ⟨t, ht, rfl⟩ := qW_nat (by omega) q
    have h0 := gV_S hR.va ht
    refine ⟨fun z => absurd z (by decide), fun _ => s_m_areNights hB ?_⟩
    rw [c1, an_ok h0 (by omega), r]
    exact ⟨fun z => absurd z (by decide), fun _ => h _ _ _ hR⟩
theorem s_m_touched_l2 {F : Int32 → sm_MI → sm_ML → Prop} {z : w_St} {x : sm_Cx} {m t i ν' : Nat} {I' : sm_MI} (hB : sm_Bs T) (hS : I' 76 27 = nI S) (h5 : S ≤ 5) (h8 : N ≤ 8) (ht : t < 8) (hc : ∀ j, j < S → I' 98 j = oI (nko E W H N ν' z j)) (hx : sm_Ok x mX12_touched (n + 1) (sm_KI T F))
    (h : ∀ u5 : Option Value, sm_V x 0 0 T I' L 27 [some (.ref 76), some (.int (nI t)), some (.int (nI m)), some (.int ((nst E W H N ν' S z).2.2.2.2 t)), some (.int (nI (i + 1))), u5] []) :
    ∀ d w, w + d = S → sm_V x 0 0 T I' L 40 [some (.ref 76), some (.int (nI t)), some (.int (nI m)), some (.int ((nst E W H N ν' w z).2.2.2.2 t)), some (.int (nI i)), some (.int (nI w))] []
  | 0, w, e => by
    have him : w = S := by omega
    subst him
    refine u_X12_touched_40 hB hx ⟨fun _ => ?_, fun q => absurd (by rw [hS]; exact nI_le (Nat.le_refl _) (by omega)) q⟩
    rw [nI_1]
    exact h _
  | d + 1, w, e => by
    refine u_X12_touched_40 hB hx ⟨fun q => absurd q (by rw [hS]; exact nI_ge (by omega) (by omega)), fun _ => ⟨vp_in_nI (by omega) (by decide), ?_⟩⟩
    have go := s_m_touched_l2 hB hS h5 h8 ht hc hx h d (w + 1) (by omega)
    rw [nst_d] at go
    have hlt : ∀ s, nko E W H N ν' z w = some s → s < 8 := fun s hs => Nat.lt_of_lt_of_le (w_o_lt h8 hs) h8
    rw [nI_clamp (by omega), hc w (by omega), nI_1]
    refine ⟨fun q => ?_, fun q => ?_⟩
    · rw [if_neg (fun g => q ((oI_some ht hlt).mpr g))] at go
      rw [Int32.or_zero]
      exact go
    · rw [if_pos ((oI_some ht hlt).mp q)] at go
      exact go
theorem s_m_touched_l {F : Int32 → sm_MI → sm_ML → Prop} {z : w_St} {x : sm_Cx} {m t : Nat} (hR : RR A W H S N R ν lb b T I L) (hlk : E 0 0 = nI lb) (hr0 : E 0 2 = 0) (hg : E 0 5 = -1) (hV : vE E H S N R) (hm : m < 2 ^ 30) (ht : t < N) (hx : sm_Ok x mX12_touched (n + 9) (sm_KI T F))
    (h : ∀ I', RR A W H S N R ν lb b T I' L → F ((ngs E W H S N ν m z).2.2.2.2 t) I' L) :
    ∀ (d i : Nat) (I' : sm_MI) (u5 : Option Value), i + d = m → mAs I I' → mD E H S N I I' → I' 76 34 = nI (ν + i) → mU N (I' 92) = (ngs E W H S N ν i z).1 → sm_V x 0 0 T I' L 27 [some (.ref 76), some (.int (nI t)), some (.int (nI m)), some (.int ((ngs E W H S N ν i z).2.2.2.2 t)), some (.int (nI i)), u5] []
  | 0, i, I', u5, e, ha, hD, hn, hu => by
    have him : i = m := by omega
    subst him
    exact u_X12_touched_27 hR.hB hx ⟨fun _ => s_m_back hR ha (fun I2 _ _ h2 => h I2 h2), fun q => absurd (nI_le (Nat.le_refl _) (by omega)) q⟩
  | d + 1, i, I', u5, e, ha, hD, hn, hu => by
    refine u_X12_touched_27 hR.hB hx ⟨fun q => absurd q (nI_ge (by omega) (by omega)), fun _ => s_m_calmNight (n := n + 1) hR.hB hR.ml hV hR.now.2.1 hlk hr0 hD hn hu (fun I2 f2 hD2 hn2 hu2 hc2 => ?_)⟩
    have v3 := hV.2.2.1
    have v4 := hV.2.2.2.1
    have hstep : ngs E W H S N ν (i + 1) z = nst E W H N (ν + i) S (ngs E W H S N ν i z) := ngt_n hg
    rw [← hstep] at hu2
    refine s_m_touched_l2 (n := n + 8) (z := ngs E W H S N ν i z) (ν' := ν + i) hR.hB hD2.1.1.2.1 v3 v4 (by omega) hc2 hx (fun u5' => ?_) S 0 (by omega)
    have go := s_m_touched_l hR hlk hr0 hg hV hm ht hx h d (i + 1) I2 u5' (by omega) (ha.go f2) hD2 hn2 hu2
    rw [hstep] at go
    exact go
theorem p_touched {G : Int32 → Int32 → sm_MI → sm_ML → Prop} {a m : Int32} (hR : RR A W H S N R ν lb b T I L)
    (h : ∀ v I' L', RR A W H S N R ν lb b T I' L' → G v v I' L') :
    sm_CI (n + 20) mX11_touched T I L [.ref 0, .int a, .int m] (fun r1 I1 L1 => sm_CI (n + 20) mX12_touched T I1 L1 [.ref 76, .int a, .int m] (fun r2 I2 L2 => G r1 r2 I2 L2)) := by
  have hB := hR.hB
  obtain ⟨⟨a1, a2, a3, a4, a5⟩, _, ⟨c1, c2, c3, c4, c5⟩, _, _⟩ := hR.st
  have hH8 := hR.va.2.1
  have v4 := hR.va.2.2.2.1
  refine c_X11_touched hB (s_hasThing hB ?_)
  rw [a3]
  refine ⟨fun q => c_X12_touched hB (fun x hx => s_m_isThing hB ?_), fun q => s_within hB ⟨fun r => ?_, fun r => c_X12_touched hB (fun x hx => s_m_isThing hB ?_)⟩⟩
  · rw [c3, q]
    exact ⟨fun _ => h _ _ _ hR, fun z => absurd z (by decide)⟩
  · obtain ⟨t, ht, rfl⟩ := qW_nat (by omega) q
    obtain ⟨k, hk1, hk2, rfl⟩ := qW_rng (lo := 1) (hi := 60) (by decide) (by decide) r
    have h0 := gV_H hR.va ht
    refine s_dreamOf (n := n + 11) hR h0 (by omega) (fun I1 L1 z g hR1 f1 hz z1 _ zd => s_at (t_58 hB) (t_59 hB) (by omega) (by decide) ?_)
    rw [hz.2.2.2.2]
    obtain ⟨_, _, ⟨d1, d2, d3, d4, d5⟩, _, _⟩ := hR1.st
    refine c_X12_touched hB (fun x hx => s_m_isThing hB ?_)
    rw [d3, q]
    refine ⟨fun y => absurd y (by decide), fun _ => s_m_areNights hB ?_⟩
    have r' : qW (nI k) 1 60 = true := r
    rw [d1, an_ok h0 (by omega), r']
    refine ⟨fun _ => s_m_aside hB (fun I3 ha h92 h34 => ?_), fun y => absurd y (by decide)⟩
    have hu : mU N (I3 92) = z.1 := by rw [h92, ← hR1.u, z1, f1 35 0 rfl]
    have := s_m_touched_l (n := n + 11) (m := k) (E := mkE A (nI lb) (-1) 0 (-1) g (fun _ => -1)) (z := z) hR1 rfl rfl rfl (vE_mk hR1.va h0) (by omega) ht hx (fun I' h' => h _ _ _ h') k 0 I3 none (by omega) ha (mD_frQ (mD_now hR1 (gh := -1) (gs := g)) ha.1) (h34.trans hR1.n34) hu
    have e0 : (ngs (mkE A (nI lb) (-1) 0 (-1) g (fun _ => -1)) W H S N ν 0 z).2.2.2.2 t = 0 := zd t (by omega)
    rw [e0] at this
    exact this
  · rw [c3, q]
    obtain ⟨t, ht, rfl⟩ := qW_nat (by omega) q
    have h0 := gV_H hR.va ht
    refine ⟨fun z => absurd z (by decide), fun _ => s_m_areNights hB ?_⟩
    rw [c1, an_ok h0 (by omega), r]
    exact ⟨fun z => absurd z (by decide), fun _ => h _ _ _ hR⟩
end
