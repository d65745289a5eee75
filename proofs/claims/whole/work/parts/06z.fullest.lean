/-- most, when, where: after a night with c things in each house -/
def fuN (c : Nat → Nat) (H i : Nat) (a : Nat × Int32 × Int32) : Nat × Int32 × Int32 := if a.1 < fhM c (H - 1) then (fhM c (H - 1), nI (i + 1), nI (fhA c (H - 1))) else a
section
variable {n : Nat} {T : List sm_Sh} {I I' I1 : sm_MI} {L L' : sm_ML} {A : Nat → Nat → Int32} {H S N R ν lb b ν' lb' b' : Nat} {W : Nat → (Nat → Int32) → Int32} {E : Nat → Nat → Int32}
def fuC (E : Nat → Nat → Int32) (W : Nat → (Nat → Int32) → Int32) (H S N ν : Nat) (z : w_St) (i : Nat) : Nat → Nat := fun hh => thC (ngs E W H S N ν (i + 1) z).1 (nI hh) N
def pFu (E : Nat → Nat → Int32) (W : Nat → (Nat → Int32) → Int32) (H S N ν : Nat) (z : w_St) (i : Nat) (a : Nat × Int32 × Int32) : Prop := a = fo (fun i a => fuN (fuC E W H S N ν z i) H i a) (0, -1, -1) i ∧ a.1 ≤ 8
theorem pFu_s {z : w_St} {i : Nat} {a : Nat × Int32 × Int32} (h8 : N ≤ 8) (h : pFu E W H S N ν z i a) : pFu E W H S N ν z (i + 1) (fuN (fuC E W H S N ν z i) H i a) := by
  refine ⟨?_, ?_⟩
  · show _ = fuN _ _ _ (fo (fun i a => fuN (fuC E W H S N ν z i) H i a) (0, -1, -1) i)
    rw [← h.1]
  · unfold fuN
    split
    · show fhM _ _ ≤ 8
      rw [fhM_A]
      exact Nat.le_trans (thC_le _ _ _) h8
    · exact h.2
theorem m_fullest {F : Int32 → sm_MI → sm_ML → Prop} {k : Nat} {what : Int32} {z : w_St} {g : Int32} (hR : RR A W H S N R ν lb b T I L) (h0 : 0 < H) (hk1 : 1 ≤ k) (hk2 : k ≤ 60) (hwh : qW what 0 2 = true) (hz : mU N (I 92) = z.1)
    (h : ∀ I' a, RR A W H S N R ν lb b T I' L → pFu (E0 A lb g) W H S N ν z k a → F (if what = 0 then nI a.1 else if what = 1 then a.2.1 else a.2.2) I' L) : sm_CI (n + 20) mX12_fullest T I L [.ref 76, .int (nI k), .int what] F := by
  have hB := hR.hB
  obtain ⟨_, _, ⟨d1, d2, d3, d4, d5⟩, _, _⟩ := hR.st
  have v1 := hR.va.2.1
  have v4 := hR.va.2.2.2.1
  refine c_X12_fullest hB (fun x hx => s_m_areNights hB ?_)
  rw [d1, an_ok h0 (by omega), q_60 hk1 hk2]
  refine ⟨fun y => absurd y (by decide), fun _ => s_m_in hB ?_⟩
  rw [hwh]
  refine ⟨fun _ => s_m_aside hB (fun I3 ha h92 h34 => ?_), fun y => absurd y (by decide)⟩
  refine m_loop (W := W) (E := E0 A lb g) (z := z) (m := k) (Ia := I) (P := pFu (E0 A lb g) W H S N ν z) (V := fun i a I' => ∀ u7 : Option Value, sm_V x 0 0 T I' L 34 [some (.ref 76), some (.int (nI k)), some (.int what), some (.int (nI a.1)), some (.int a.2.1), some (.int a.2.2), some (.int (nI (i + 1))), u7] []) (fun i a I' him hp ha hD hn hu next u7 => ?_) k 0 (0, -1, -1) I3 (by omega) ⟨rfl, by decide⟩ ha (mD_frQ (mD_now hR (gh := -1) (gs := g)) ha.1) (h34.trans hR.n34) (by rw [h92]; exact hz) none
  refine u_X12_fullest_34 hB hx ⟨fun q => s_m_back hR ha (fun I2 _ _ h2 => ?_), fun q => m_step (n := n + 12) (E := E0 A lb g) hB hR.ml (vE_mk hR.va h0) hR.now.2.1 rfl rfl rfl ha hD hn hu (fun I2 ha2 hD2 hn2 hu2 => ?_)⟩
  · have : i = k := by have := q_ltI q (by omega) (by omega); omega
    subst this
    have h3 := h I2 a h2 hp
    exact ⟨fun y => ⟨fun y2 => by rw [if_neg y, if_neg y2] at h3; exact h3, fun y2 => by rw [if_neg y, if_pos y2] at h3; exact h3⟩, fun y => by rw [if_pos y] at h3; exact h3⟩
  · have hik : i < k := by have := q_nltI q (by omega) (by omega); omega
    have hcl : ∀ hh, fuC (E0 A lb g) W H S N ν z i hh ≤ 8 := fun hh => Nat.le_trans (thC_le _ _ _) v4
    have inner : ∀ d s (a' : Nat × Int32 × Int32), s + d = H → ((s = 0 ∧ a' = a) ∨ (0 < s ∧ a' = fuN (fuC (E0 A lb g) W H S N ν z i) s i a)) → a'.1 ≤ 8 → sm_V x 0 0 T I2 L 47 [some (.ref 76), some (.int (nI k)), some (.int what), some (.int (nI a'.1)), some (.int a'.2.1), some (.int a'.2.2), some (.int (nI (i + 1))), some (.int (nI s))] [] := by
      intro d
      induction d with
      | zero =>
        intro s a' e hp' _
        have hs : s = H := by omega
        refine u_X12_fullest_47 hB hx ⟨fun _ => ?_, fun q => absurd (by rw [hD2.1.1.1]; exact nI_le (by omega) (by omega)) q⟩
        rcases hp' with hp' | ⟨_, hp'⟩
        · omega
        · rw [nI_1]
          subst hs
          exact next hik a' I2 (by rw [hp']; exact pFu_s v4 hp) ha2 hD2 hn2 hu2 _
      | succ d ih =>
        intro s a' e hp' ha8
        refine u_X12_fullest_47 hB hx ⟨fun q => absurd q (by rw [hD2.1.1.1]; exact nI_ge (by omega) (by omega)), fun _ => s_m_thingsIn hB hD2.1.1.2.2.1 v4 (s_BC ?_)⟩
        rw [hu2, thC_BC v4]
        have ec : thC (ngs (E0 A lb g) W H S N ν (i + 1) z).1 (nI s) N = fuC (E0 A lb g) W H S N ν z i s := rfl
        have hcs := hcl s
        rw [ec, nI_leI (by omega) (by omega), nI_1]
        have step : (if a'.1 < fuC (E0 A lb g) W H S N ν z i s then (fuC (E0 A lb g) W H S N ν z i s, nI (i + 1), nI s) else a') = fuN (fuC (E0 A lb g) W H S N ν z i) (s + 1) i a := by
          unfold fuN
          rw [Nat.add_sub_cancel]
          rcases hp' with ⟨p1, p2⟩ | ⟨p1, p2⟩
          · subst p1; rw [p2]; rfl
          · obtain ⟨s1, rfl⟩ : ∃ s1, s = s1 + 1 := ⟨s - 1, by omega⟩
            unfold fuN at p2
            rw [Nat.add_sub_cancel] at p2
            have em : fhM (fuC (E0 A lb g) W H S N ν z i) (s1 + 1) = if fhM (fuC (E0 A lb g) W H S N ν z i) s1 < fuC (E0 A lb g) W H S N ν z i (s1 + 1) then fuC (E0 A lb g) W H S N ν z i (s1 + 1) else fhM (fuC (E0 A lb g) W H S N ν z i) s1 := rfl
            have ea : fhA (fuC (E0 A lb g) W H S N ν z i) (s1 + 1) = if fhM (fuC (E0 A lb g) W H S N ν z i) s1 < fuC (E0 A lb g) W H S N ν z i (s1 + 1) then s1 + 1 else fhA (fuC (E0 A lb g) W H S N ν z i) s1 := rfl
            rw [em, ea, p2]
            by_cases g1 : a.1 < fhM (fuC (E0 A lb g) W H S N ν z i) s1
            · rw [if_pos g1]
              by_cases g2 : fhM (fuC (E0 A lb g) W H S N ν z i) s1 < fuC (E0 A lb g) W H S N ν z i (s1 + 1)
              · rw [if_pos g2, if_pos g2, if_pos g2, if_pos (by omega)]
              · rw [if_neg g2, if_neg g2, if_neg g2, if_pos g1]
            · rw [if_neg g1]
              by_cases g2 : a.1 < fuC (E0 A lb g) W H S N ν z i (s1 + 1)
              · have g3 : fhM (fuC (E0 A lb g) W H S N ν z i) s1 < fuC (E0 A lb g) W H S N ν z i (s1 + 1) := by omega
                rw [if_pos g2, if_pos g3, if_pos g3, if_pos g2]
              · rw [if_neg g2]
                by_cases g3 : fhM (fuC (E0 A lb g) W H S N ν z i) s1 < fuC (E0 A lb g) W H S N ν z i (s1 + 1)
                · rw [if_pos g3, if_pos g3, if_neg g2]
                · rw [if_neg g3, if_neg g3, if_neg g1]
        refine ⟨fun q => ?_, fun q => s_m_thingsIn hB hD2.1.1.2.2.1 v4 (s_BC ?_)⟩
        · rw [if_neg (by omega)] at step
          exact ih (s + 1) a' (by omega) (Or.inr ⟨by omega, step⟩) ha8
        · rw [if_pos (by omega)] at step
          rw [hu2, thC_BC v4, ec]
          exact ih (s + 1) (fuC (E0 A lb g) W H S N ν z i s, nI (i + 1), nI s) (by omega) (Or.inr ⟨by omega, step⟩) hcs
    exact inner H 0 a (by omega) (Or.inl ⟨rfl, rfl⟩) hp.2
end
