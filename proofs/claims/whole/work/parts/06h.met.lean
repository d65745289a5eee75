section
variable {n : Nat} {T : List sm_Sh} {I : sm_MI} {L : sm_ML} {A : Nat → Nat → Int32} {H S N R ν lb b : Nat} {W : Nat → (Nat → Int32) → Int32} {E : Nat → Nat → Int32}
theorem q_60 {k : Nat} (h1 : 1 ≤ k) (h2 : k ≤ 60) : qW (nI k) 1 60 = true := by
  rw [qW_ok]
  exact ⟨nI_nlt (b := 1) (by omega) (by omega), nI_nlt (a := 60) (by omega) (by omega)⟩
theorem q_ltI {x y : Nat} (q : nI x < nI y) (hx : x < 2 ^ 31) (hy : y < 2 ^ 31) : x < y := (nI_ltI hx hy).mp q
theorem q_nltI {x y : Nat} (q : ¬ nI x < nI y) (hx : x < 2 ^ 31) (hy : y < 2 ^ 31) : y ≤ x := by
  rcases Nat.lt_or_ge x y with h | h
  · exact absurd (nI_lt h hy) q
  · exact h
theorem q_m1 {x : Nat} (hx : x < 2 ^ 31) : nI x ≠ -1 := by
  intro q
  have e := congrArg Int32.toInt q
  rw [nI_toInt hx] at e
  have e1 : (-1 : Int32).toInt = -1 := by decide
  omega
def fMe (E : Nat → Nat → Int32) (W : Nat → (Nat → Int32) → Int32) (H S N ν : Nat) (z : w_St) (t s : Nat) (i : Nat) (a : Nat × Int32) : Nat × Int32 :=
  if (ngs E W H S N ν (i + 1) z).1 t = (ngs E W H S N ν (i + 1) z).1 s then (a.1 + 1, if a.1 = 0 then nI (i + 1) else a.2) else a
def pMe (E : Nat → Nat → Int32) (W : Nat → (Nat → Int32) → Int32) (H S N ν : Nat) (z : w_St) (t s : Nat) (i : Nat) (a : Nat × Int32) : Prop :=
  a = fo (fMe E W H S N ν z t s) (0, -1) i ∧ a.1 ≤ i ∧ (a.1 = 0 ↔ a.2 = -1)
theorem pMe_eq {z : w_St} {t s i : Nat} {a : Nat × Int32} (hi : i < 1000) (h : pMe E W H S N ν z t s i a) (q : (ngs E W H S N ν (i + 1) z).1 t = (ngs E W H S N ν (i + 1) z).1 s) : pMe E W H S N ν z t s (i + 1) (a.1 + 1, if a.1 = 0 then nI (i + 1) else a.2) := by
  refine ⟨?_, by have := h.2.1; simp only; omega, ?_⟩
  · show _ = fMe _ _ _ _ _ _ _ _ _ _ _
    rw [← h.1]
    unfold fMe
    rw [if_pos q]
  · constructor
    · intro g; simp only at g; omega
    · intro g
      simp only at g
      by_cases z0 : a.1 = 0
      · rw [if_pos z0] at g; exact absurd g (q_m1 (by omega))
      · rw [if_neg z0] at g; exact absurd (h.2.2.mpr g) z0
theorem pMe_ne {z : w_St} {t s i : Nat} {a : Nat × Int32} (h : pMe E W H S N ν z t s i a) (q : ¬ (ngs E W H S N ν (i + 1) z).1 t = (ngs E W H S N ν (i + 1) z).1 s) : pMe E W H S N ν z t s (i + 1) a := by
  refine ⟨?_, by have := h.2.1; omega, h.2.2⟩
  show _ = fMe _ _ _ _ _ _ _ _ _ _ _
  rw [← h.1]
  unfold fMe
  rw [if_neg q]
theorem m_met {F : Int32 → sm_MI → sm_ML → Prop} {t s k : Nat} {what : Int32} {z : w_St} {g : Int32} (hR : RR A W H S N R ν lb b T I L) (ht : t < N) (hs : s < N) (hts : nI t ≠ nI s) (hk1 : 1 ≤ k) (hk2 : k ≤ 60) (hwh : qW what 0 1 = true) (hz : mU N (I 92) = z.1)
    (h : ∀ I', RR A W H S N R ν lb b T I' L → F (if what = 0 then nI (fo (fMe (E0 A lb g) W H S N ν z t s) (0, -1) k).1 else (fo (fMe (E0 A lb g) W H S N ν z t s) (0, -1) k).2) I' L) : sm_CI (n + 20) mX12_met T I L [.ref 76, .int (nI t), .int (nI s), .int (nI k), .int what] F := by
  have hB := hR.hB
  obtain ⟨_, _, ⟨d1, d2, d3, d4, d5⟩, _, _⟩ := hR.st
  have v1 := hR.va.2.1
  have v4 := hR.va.2.2.2.1
  have h0 := gV_H hR.va ht
  refine c_X12_met hB (fun x hx => s_m_isThing hB ?_)
  rw [d3, qW_natI ht (by omega)]
  refine ⟨fun y => absurd y (by decide), fun _ => s_m_isThing hB ?_⟩
  rw [d3, qW_natI hs (by omega)]
  refine ⟨fun y => absurd y (by decide), fun _ => ⟨fun y => absurd y hts, fun _ => s_m_areNights hB ?_⟩⟩
  rw [d1, an_ok h0 (by omega), q_60 hk1 hk2]
  refine ⟨fun y => absurd y (by decide), fun _ => s_m_in hB ?_⟩
  rw [hwh]
  refine ⟨fun _ => s_m_aside hB (fun I3 ha h92 h34 => ?_), fun y => absurd y (by decide)⟩
  refine m_loop (W := W) (E := E0 A lb g) (z := z) (m := k) (Ia := I) (P := pMe (E0 A lb g) W H S N ν z t s) (V := fun i a I' => sm_V x 0 0 T I' L 56 [some (.ref 76), some (.int (nI t)), some (.int (nI s)), some (.int (nI k)), some (.int what), some (.int (nI a.1)), some (.int a.2), some (.int (nI (i + 1)))] []) (fun i a I' him hp ha hD hn hu next => ?_) k 0 (0, -1) I3 (by omega) ⟨rfl, Nat.le_refl _, by decide⟩ ha (mD_frQ (mD_now hR (gh := -1) (gs := g)) ha.1) (h34.trans hR.n34) (by rw [h92]; exact hz)
  refine u_X12_met_56 hB hx ⟨fun q => s_m_back hR ha (fun I2 _ _ h2 => ?_), fun q => m_step (n := n + 12) (E := E0 A lb g) hB hR.ml (vE_mk hR.va h0) hR.now.2.1 rfl rfl rfl ha hD hn hu (fun I2 ha2 hD2 hn2 hu2 => ⟨vp_in_nI (by omega) (by decide), vp_in_nI (by omega) (by decide), ?_⟩)⟩
  · have : i = k := by have := q_ltI q (by omega) (by omega); omega
    subst this
    have h3 := h I2 h2
    rw [← hp.1] at h3
    exact ⟨fun y => by rw [if_neg y] at h3; exact h3, fun y => by rw [if_pos y] at h3; exact h3⟩
  · have hik : i < k := by have := q_nltI q (by omega) (by omega); omega
    rw [nI_clamp (by omega), nI_clamp (by omega), ← mU_at (N := N) (I2 92) ht, ← mU_at (N := N) (I2 92) hs, hu2, nI_1, nI_1, q_0 (by have := hp.2.1; omega)]
    refine ⟨fun r => next hik a I2 (pMe_ne hp r) ha2 hD2 hn2 hu2, fun r => ?_⟩
    have go := next hik _ I2 (pMe_eq (by omega) hp r) ha2 hD2 hn2 hu2
    refine ⟨fun y => ?_, fun y => ?_⟩
    · rw [if_neg y] at go; exact go
    · rw [if_pos y] at go; exact go
theorem p_met {G : Int32 → Int32 → sm_MI → sm_ML → Prop} {a c m what : Int32} (hR : RR A W H S N R ν lb b T I L) (h : ∀ v I' L', RR A W H S N R ν lb b T I' L' → G v v I' L') :
    sm_CI (n + 20) mX11_met T I L [.ref 0, .int a, .int c, .int m, .int what] (fun r1 I1 L1 => sm_CI (n + 20) mX12_met T I1 L1 [.ref 76, .int a, .int c, .int m, .int what] (fun r2 I2 L2 => G r1 r2 I2 L2)) := by
  have hB := hR.hB
  obtain ⟨⟨a1, a2, a3, a4, a5⟩, _, ⟨c1, c2, c3, c4, c5⟩, _, _⟩ := hR.st
  have v1 := hR.va.2.1
  have v4 := hR.va.2.2.2.1
  -- where something is wrong
  have bad : (qW a 0 (nI N - 1) = false ∨ qW c 0 (nI N - 1) = false ∨ a = c ∨ qW m 1 60 = false ∨ qW what 0 1 = false) → sm_CI (n + 20) mX12_met T I L [.ref 76, .int a, .int c, .int m, .int what] (fun r2 I2 L2 => G (-1000000) r2 I2 L2) := by
    intro w
    refine c_X12_met hB (fun x hx => s_m_isThing hB ?_)
    rw [c3]
    refine ⟨fun _ => h _ _ _ hR, fun q1 => s_m_isThing hB ?_⟩
    rw [c3]
    refine ⟨fun _ => h _ _ _ hR, fun q2 => ⟨fun _ => h _ _ _ hR, fun q3 => s_m_areNights hB ?_⟩⟩
    obtain ⟨t, ht, e⟩ := qW_nat (by omega) q1
    rw [c1, an_ok (gV_H hR.va ht) (by omega)]
    refine ⟨fun _ => h _ _ _ hR, fun q4 => s_m_in hB ⟨fun q5 => ?_, fun _ => h _ _ _ hR⟩⟩
    rcases w with w | w | w | w | w
    · rw [q1] at w; exact absurd w (by decide)
    · rw [q2] at w; exact absurd w (by decide)
    · exact absurd w q3
    · rw [q4] at w; exact absurd w (by decide)
    · rw [q5] at w; exact absurd w (by decide)
  refine c_X11_met hB (fun x hx => s_hasThing hB ?_)
  rw [a3]
  refine ⟨fun q => bad (Or.inl q), fun q1 => s_hasThing hB ?_⟩
  rw [a3]
  refine ⟨fun q => bad (Or.inr (Or.inl q)), fun q2 => ⟨fun q3 => s_within hB ⟨fun q => bad (Or.inr (Or.inr (Or.inr (Or.inl q)))), fun q4 => s_within hB ⟨fun q5 => ?_, fun q => bad (Or.inr (Or.inr (Or.inr (Or.inr q))))⟩⟩, fun q => bad (Or.inr (Or.inr (Or.inl q)))⟩⟩
  obtain ⟨t, ht, rfl⟩ := qW_nat (by omega) q1
  obtain ⟨s, hs, rfl⟩ := qW_nat (by omega) q2
  obtain ⟨k, hk1, hk2, rfl⟩ := qW_rng (lo := 1) (hi := 60) (by decide) (by decide) q4
  have h0 := gV_H hR.va ht
  have hb := hR.bb
  have hν := hR.now.1
  refine s_begin_R (n := n + 18) hR (fun I1 z g f1 e65 e67 e12 hD hz z1 zc zd => ?_)
  refine c_loop (W := W) (E := E0 A lb g) (z := z) (m := k) (Ia := I) (I0 := I) (L := L) (R := R) (P := pMe (E0 A lb g) W H S N ν z t s) (V := fun i a I' L' => sm_V x 0 0 T I' L' 73 [some (.ref 0), some (.int (nI t)), some (.int (nI s)), some (.int (nI k)), some (.int what), some (.int (nI a.1)), some (.int a.2), some (.int (nI (i + 1)))] []) (fun i a I' him hp hf hD hz next => ?_) k 0 (0, -1) I1 (by omega) ⟨rfl, Nat.le_refl _, by decide⟩ f1 hD hz
  refine u_X11_met_73 hB hx ⟨fun q => ?_, fun q => c_step (n := n + 13) (E := E0 A lb g) hB hR.rl (vE_mk hR.va h0) (Or.inl rfl) (by omega) hf hD hz (fun I2 f2 hD2 hz2 => s_placeIn hB (s_placeIn hB ?_))⟩
  · have : i = k := by have := q_ltI q (by omega) (by omega); omega
    subst this
    have hR2 := RR_c (v := (ngs (E0 A lb g) W H S N ν i z).2.2.1) hR hf (Cok_of hD)
    have fin : ∀ v, v = (if what = 0 then nI (fo (fMe (E0 A lb g) W H S N ν z t s) (0, -1) i).1 else (fo (fMe (E0 A lb g) W H S N ν z t s) (0, -1) i).2) → sm_CI (n + 20) mX12_met T I' (sm_uL L 53 3 (ngs (E0 A lb g) W H S N ν i z).2.2.1) [.ref 76, .int (nI t), .int (nI s), .int (nI i), .int what] (fun r2 I2 L2 => G v r2 I2 L2) := by
      intro v hv
      refine m_met (g := g) (z := z) hR2 ht hs q3 hk1 hk2 q5 (by rw [← hR2.u, z1, hf 35 0 rfl]) (fun I' h' => ?_)
      rw [← hv]
      exact h _ _ _ h'
    rw [← hp.1] at fin
    exact ⟨fun y => fin _ (by rw [if_neg y]), fun y => fin _ (by rw [if_pos y])⟩
  · have hik : i < k := by have := q_nltI q (by omega) (by omega); omega
    rw [nI_1, nI_1, ← cU_at (N := N) _ ht, ← cU_at (N := N) _ hs, hz2.1]
    refine ⟨fun r => next hik a I2 (pMe_ne hp r) f2 hD2 hz2, fun r => ?_⟩
    have go := next hik _ I2 (pMe_eq (by omega) hp r) f2 hD2 hz2
    refine ⟨fun y => ?_, fun y => ?_⟩
    · rw [if_neg (fun g => y (hp.2.2.mp g))] at go; exact go
    · rw [if_pos (hp.2.2.mpr y)] at go; exact go
end
