section
variable {n : Nat} {T : List sm_Sh} {I : sm_MI} {L : sm_ML} {A : Nat → Nat → Int32} {H S N R ν lb b : Nat} {W : Nat → (Nat → Int32) → Int32} {E : Nat → Nat → Int32}
abbrev E0 (A : Nat → Nat → Int32) (lb : Nat) (g : Int32) : Nat → Nat → Int32 := mkE A (nI lb) (-1) 0 (-1) g (fun _ => -1)
def fEm (E : Nat → Nat → Int32) (W : Nat → (Nat → Int32) → Int32) (H S N ν : Nat) (z : w_St) (hh : Nat) (i a : Nat) : Nat := if thS (ngs E W H S N ν (i + 1) z).1 (nI hh) N = 0 then a + 1 else a
theorem q_0 {x : Nat} (hx : x < 2 ^ 31) : nI x = 0 ↔ x = 0 := by
  have := nI_eq (a := x) (b := 0) hx (by decide)
  exact this
theorem m_empty {F : Int32 → sm_MI → sm_ML → Prop} {hh k : Nat} {z : w_St} {g : Int32} (hR : RR A W H S N R ν lb b T I L) (h0 : 0 < H) (hhh : hh < H) (hk1 : 1 ≤ k) (hk2 : k ≤ 60) (hz : mU N (I 92) = z.1)
    (h : ∀ I', RR A W H S N R ν lb b T I' L → F (nI (fo (fEm (E0 A lb g) W H S N ν z hh) 0 k)) I' L) : sm_CI (n + 20) mX12_empty T I L [.ref 76, .int (nI hh), .int (nI k)] F := by
  have hB := hR.hB
  obtain ⟨_, _, ⟨d1, d2, d3, d4, d5⟩, _, _⟩ := hR.st
  have v1 := hR.va.2.1
  have v4 := hR.va.2.2.2.1
  refine c_X12_empty hB (fun x hx => s_m_isHouse hB ?_)
  rw [d1, qW_natI hhh (by omega)]
  refine ⟨fun y => absurd y (by decide), fun _ => s_m_areNights hB ?_⟩
  have r' : qW (nI k) 1 60 = true := by
    rw [qW_ok]
    exact ⟨nI_nlt (b := 1) (by omega) (by omega), nI_nlt (a := 60) (by omega) (by omega)⟩
  rw [d1, an_ok h0 (by omega), r']
  refine ⟨fun _ => s_m_aside hB (fun I3 ha h92 h34 => ?_), fun y => absurd y (by decide)⟩
  refine m_loop (W := W) (E := E0 A lb g) (z := z) (m := k) (Ia := I) (P := fun i a => a = fo (fEm (E0 A lb g) W H S N ν z hh) 0 i) (V := fun i a I' => sm_V x 0 0 T I' L 27 [some (.ref 76), some (.int (nI hh)), some (.int (nI k)), some (.int (nI a)), some (.int (nI i))] []) (fun i a I' him hp ha hD hn hu next => ?_) k 0 0 I3 (by omega) rfl ha (mD_frQ (mD_now hR (gh := -1) (gs := g)) ha.1) (h34.trans hR.n34) (by rw [h92]; exact hz)
  refine u_X12_empty_27 hB hx ⟨fun q => s_m_back hR ha (fun I2 _ _ h2 => ?_), fun q => m_step (n := n + 12) (E := E0 A lb g) hB hR.ml (vE_mk hR.va h0) hR.now.2.1 rfl rfl rfl ha hD hn hu (fun I2 ha2 hD2 hn2 hu2 => s_m_thingsIn hB hD2.1.1.2.2.1 v4 ?_)⟩
  · have : i = k := by have := q_le q (by omega) (by omega); omega
    subst this
    rw [hp]
    exact h I2 h2
  · have hik : i < k := q_nle q (by omega) (by omega)
    have hlt : thS (mU N (I2 92)) (nI hh) N < 256 := thS_lt v4
    rw [nI_1, Int32.add_zero, nI_1]
    rw [q_0 (by omega), hu2]
    refine ⟨fun r => next hik a I2 ?_ ha2 hD2 hn2 hu2, fun r => next hik (a + 1) I2 ?_ ha2 hD2 hn2 hu2⟩
    · show a = fEm _ _ _ _ _ _ _ _ _ _
      rw [← hp]; unfold fEm; rw [if_neg r]
    · show a + 1 = fEm _ _ _ _ _ _ _ _ _ _
      rw [← hp]; unfold fEm; rw [if_pos r]
theorem p_empty {G : Int32 → Int32 → sm_MI → sm_ML → Prop} {a m : Int32} (hR : RR A W H S N R ν lb b T I L) (h : ∀ v I' L', RR A W H S N R ν lb b T I' L' → G v v I' L') :
    sm_CI (n + 20) mX11_empty T I L [.ref 0, .int a, .int m] (fun r1 I1 L1 => sm_CI (n + 20) mX12_empty T I1 L1 [.ref 76, .int a, .int m] (fun r2 I2 L2 => G r1 r2 I2 L2)) := by
  have hB := hR.hB
  obtain ⟨⟨a1, a2, a3, a4, a5⟩, _, ⟨c1, c2, c3, c4, c5⟩, _, _⟩ := hR.st
  have v1 := hR.va.2.1
  have v4 := hR.va.2.2.2.1
  refine c_X11_empty hB (fun x hx => s_hasHouse hB ?_)
  rw [a1]
  refine ⟨fun q => c_X12_empty hB (fun x hx => s_m_isHouse hB ?_), fun q => s_within hB ⟨fun r => ?_, fun r => c_X12_empty hB (fun x hx => s_m_isHouse hB ?_)⟩⟩
  · rw [c1, q]
    exact ⟨fun _ => h _ _ _ hR, fun z => absurd z (by decide)⟩
  · obtain ⟨t, ht, rfl⟩ := qW_nat (by omega) q
    obtain ⟨k, hk1, hk2, rfl⟩ := qW_rng (lo := 1) (hi := 60) (by decide) (by decide) r
    have h0 : 0 < H := by omega
    have hb := hR.bb
    have hν := hR.now.1
    refine s_begin_R (n := n + 18) hR (fun I1 z g f1 e65 e67 e12 hD hz z1 zc zd => ?_)
    refine c_loop (W := W) (E := E0 A lb g) (z := z) (m := k) (Ia := I) (I0 := I) (L := L) (R := R) (P := fun i a => a = fo (fEm (E0 A lb g) W H S N ν z t) 0 i) (V := fun i a I' L' => sm_V x 0 0 T I' L' 39 [some (.ref 0), some (.int (nI t)), some (.int (nI k)), some (.int (nI a)), some (.int (nI i))] []) (fun i a I' him hp hf hD hz next => ?_) k 0 0 I1 (by omega) rfl f1 hD hz
    refine u_X11_empty_39 hB hx ⟨fun q => ?_, fun q => c_step (n := n + 13) (E := E0 A lb g) hB hR.rl (vE_mk hR.va h0) (Or.inl rfl) (by omega) hf hD hz (fun I2 f2 hD2 hz2 => s_thingsIn hB hD2.1.1.2.2.1 v4 ?_)⟩
    · have : i = k := by have := q_le q (by omega) (by omega); omega
      subst this
      rw [hp]
      have hR2 := RR_c (v := (ngs (E0 A lb g) W H S N ν i z).2.2.1) hR hf (Cok_of hD)
      exact m_empty (g := g) (z := z) hR2 h0 ht hk1 hk2 (by rw [← hR2.u, z1, hf 35 0 rfl]) (fun I' h' => h _ _ _ h')
    · have hik : i < k := q_nle q (by omega) (by omega)
      have hlt : thS (cU N (I2 53 0)) (nI t) N < 256 := thS_lt v4
      rw [nI_1, nI_1, q_0 (by omega), hz2.1]
      refine ⟨fun r => next hik a I2 ?_ f2 hD2 hz2, fun r => next hik (a + 1) I2 ?_ f2 hD2 hz2⟩
      · show a = fEm _ _ _ _ _ _ _ _ _ _
        rw [← hp]; unfold fEm; rw [if_neg r]
      · show a + 1 = fEm _ _ _ _ _ _ _ _ _ _
        rw [← hp]; unfold fEm; rw [if_pos r]
  · rw [c1, q]
    refine ⟨fun z => absurd z (by decide), fun _ => s_m_areNights hB ?_⟩
    obtain ⟨t, ht, rfl⟩ := qW_nat (by omega) q
    rw [c1, an_ok (by omega) (by omega), r]
    exact ⟨fun z => absurd z (by decide), fun _ => h _ _ _ hR⟩
end
