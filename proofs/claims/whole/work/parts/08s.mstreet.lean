section
variable {n : Nat} {T : List sm_Sh} {I I' : sm_MI} {L L' : sm_ML} {h : Nat → Int32} {len a p : Nat} {wr : Int32}
theorem n_moon {F : sm_MI → sm_ML → Prop} {HH : Nat} {st : stT} (hB : sm_Bs T) (H : tpH h len) (hM : MTs h len I) (hD : mDf HH st I) (hP10 : st.2.2.1 < 10) (hp : p ≤ len) (g : h (sk h len p) = 109) (hF : nOKc F I L h len HH (clsS h len HH st p)) : sm_CV (n + 4) mX12_moonText T (nS I (sk h len p) (-1)) L [.ref 76] F := by
  have hl := H.1
  have s1 := sk_ge (h := h) (len := len) p
  have s2 := sk_le (h := h) (len := len) hp
  have hlt := H.lt (p := sk h len p) (by rw [g]; decide)
  obtain ⟨⟨d0, d1, d2, d4, d5⟩, dr, dt⟩ := hD
  unfold clsS at hF
  rw [if_neg (by rw [g]; decide), if_neg (by rw [g]; decide), if_pos g] at hF
  have e22 : (nS I (sk h len p) (-1)) 76 22 = nI st.2.2.1 := d4
  refine c_X12_moonText hB (fun x hx => ⟨fun q => ?_, fun q => n_bad hB ?_⟩)
  · rw [e22] at q
    have q' : st.2.2.1 = 0 := Nat.le_zero.mp ((nI_leI (b := 0) (by omega) (by decide)).mp q)
    rw [if_pos q'] at hF
    rw [nS_3, nI_1, nS_a, nS_o (by decide), nS_o (by decide)]
    have fJ : Fr kMn I (sm_uI (sm_uI I 76 22 7) 76 23 0) := (Fr.rf.u rfl).u rfl
    have hM' := MTs_fr hM fJ rfl (fun _ => rfl)
    refine n_which (n := n + 2) (G := fun r I1 L1 => sm_V x 0 0 T I1 L1 63 [some (.ref 76), some (.int 0), some (.int r), none] []) hB H hM' (by omega) ?_
    refine n_moons (n := n) hB H hx len (sk h len p + 1) 0 dfM _ (-1) none hM' (by omega) (by omega) (by decide) (Or.inl rfl) ?_ ?_ ?_
    · rw [cuD (by omega), cuA]; rfl
    · rw [cuA]; rfl
    · cases hq : itmP h len itM loM hiM len (sk h len p + 1) 0 dfM with
      | inl e2 =>
        rw [hq] at hF
        exact fun I' a f => hF I' a ((fJ.tr f).mono (fun k j => kMn_M))
      | inr q2 =>
        rw [hq] at hF
        have hF' : ∀ I' p' wr, p' ≤ len → sk h len p' = q2.1 → wS h wr p' → Fr kMS I I' → mDf HH (st.1, st.2.1, q2.2 0, q2.2 1) I' → F (nS I' p' wr) L := hF
        have hio := itmP_ok H (it := itM) (lo := loM) (hi := hiM) (by decide) len (sk h len p + 1) 0 dfM (by omega)
        rw [hq] at hio
        intro I' wr w f g0 g1
        have fa := fJ.tr f
        refine hF' _ _ _ hio.2.1 (itm_sk H _ _ _ _ _ hq) w (fa.mono (fun k j => kMn_M)) ⟨⟨?_, ?_, ?_, g0, g1⟩, fun v hv j hj => ?_, fun t ht => ?_⟩
        · rw [fa 76 19 rfl]; exact d0
        · rw [fa 76 20 rfl]; exact d1
        · rw [fa 76 21 rfl]; exact d2
        · rw [fa 87 _ rfl]; exact dr v hv j hj
        · rw [fa 88 _ rfl]; exact dt t ht
  · have q' : ¬ st.2.2.1 = 0 := fun z => q (by rw [e22, z]; decide)
    rw [if_neg q'] at hF
    exact hF _ _ Fr.rf
def nOKs (F : Int32 → sm_MI → sm_ML → Prop) (I : sm_MI) (L : sm_ML) : Nat ⊕ (Nat × stT) → Prop
  | .inl e => ∀ I', Fr kMS I I' → F (nI e) I' L
  | .inr q => ∀ I', Fr kMS I I' → mDf q.1 q.2 I' → F (-1) I' L
theorem mDf_n {HH : Nat} {st : stT} {J : sm_MI} (h : mDf HH st J) : mDf HH st (nS J a wr) := ⟨h.1, fun w hw j hj => by rw [nS_k (by decide)]; exact h.2.1 w hw j hj, fun t ht => by rw [nS_k (by decide)]; exact h.2.2 t ht⟩
theorem n_street {F : Int32 → sm_MI → sm_ML → Prop} (hB : sm_Bs T) (H : tpH h len) (hM : MTs h len I) (hF : nOKs F I L (strP h len)) : sm_CI (n + 5) mX12_readStreet T I L [.ref 76] F := by
  have hl := H.1
  have s2 := sk_le (h := h) (len := len) (Nat.zero_le len)
  refine c_X12_readStreet hB (fun x hx => ?_)
  have e0 : sm_uI (sm_uI (sm_uI (sm_uI (sm_uI (sm_uI I 76 3 0) 76 4 (-1)) 76 20 0) 76 21 0) 76 22 0) 76 23 0 = nS (sm_uI (sm_uI (sm_uI (sm_uI I 76 20 0) 76 21 0) 76 22 0) 76 23 0) 0 (-1) := by
    have e1 : sm_uI (sm_uI I 76 3 0) 76 4 (-1) = nS I 0 (-1) := by
      funext k j
      unfold sm_uI nS
      by_cases e : k = 76
      · subst e
        by_cases e3 : j = 3
        · subst e3; rfl
        · by_cases e4 : j = 4
          · subst e4; simp
          · simp [e3, e4]
      · simp [e]
    rw [e1, nS_o (by decide), nS_o (by decide), nS_o (by decide), nS_o (by decide)]
  rw [e0]
  have f0 : Fr kMS I (sm_uI (sm_uI (sm_uI (sm_uI I 76 20 0) 76 21 0) 76 22 0) 76 23 0) := (((Fr.rf.u rfl).u rfl).u rfl).u rfl
  have g0 : (sm_uI (sm_uI (sm_uI (sm_uI I 76 20 0) 76 21 0) 76 22 0) 76 23 0) 76 20 = 0 := rfl
  have g1 : (sm_uI (sm_uI (sm_uI (sm_uI I 76 20 0) 76 21 0) 76 22 0) 76 23 0) 76 21 = 0 := rfl
  have g2 : (sm_uI (sm_uI (sm_uI (sm_uI I 76 20 0) 76 21 0) 76 22 0) 76 23 0) 76 22 = 0 := rfl
  have g3 : (sm_uI (sm_uI (sm_uI (sm_uI I 76 20 0) 76 21 0) 76 22 0) 76 23 0) 76 23 = 0 := rfl
  generalize sm_uI (sm_uI (sm_uI (sm_uI I 76 20 0) 76 21 0) 76 22 0) 76 23 0 = J at f0 g0 g1 g2 g3 ⊢
  have hMJ := MTs_fr hM f0 rfl (fun _ => rfl)
  unfold strP at hF
  -- at the end, wrong
  have lost : ∀ (K : sm_MI) (a e : Nat) (u : Option Value), e ≤ len → F (nI e) (nS K a (nI e)) L → sm_V x 0 0 T (nS K a (nI e)) L 69 [some (.ref 76), u] [] := by
    intro K a e u he hf
    exact u_X12_readStreet_69 hB hx ⟨fun _ => u_X12_readStreet_147 hB hx ⟨fun _ => hf, fun z => absurd z (nI_m1 (by omega))⟩, fun z => absurd z (nI_m1 (by omega))⟩
  have key : ∀ (HH : Nat), 2 ≤ HH → HH ≤ 8 → ∀ d i p K st wr u, i + d = 160 → 2 * i ≤ sk h len p → p ≤ len → wS h wr p → Fr kMS I K → mDf HH st K → fL HH st → nOKs F I L (match strL h len HH d p st with
      | .inl e => .inl e
      | .inr st => .inr (HH, st)) → sm_V x 0 0 T (nS K p wr) L 69 [some (.ref 76), u] [] := by
    intro HH h2 h8 d
    induction d with
    | zero =>
      intro i p K st wr u e hi hp hw hf hD hL hF
      have s2 := sk_le (h := h) (len := len) hp
      exact absurd hi (by omega)
    | succ d ih =>
      intro i p K st wr u e hi hp hw hf hD hL hF
      have s1 := sk_ge (h := h) (len := len) p
      have s2 := sk_le (h := h) (len := len) hp
      have hMK := MTs_fr hM hf rfl (fun _ => rfl)
      have l5 := hL.1
      have l8 := hL.2.1
      rw [strL] at hF
      rcases hw with hw | ⟨hw, hdg⟩
      · subst hw
        -- the end
        have fin : ¬ h (sk h len p) = 59 → sm_V x 0 0 T (nS K (sk h len p) (-1)) L 147 [some (.ref 76), u] [] := by
          intro z
          rw [if_neg z] at hF
          refine u_X12_readStreet_147 hB hx ⟨fun y => absurd rfl y, fun _ => n_look hB H hMK (by omega) ?_⟩
          rw [sk_sk H]
          have no : ¬ (h (sk h len p) = -1 ∧ st.1.length ≠ 0 ∧ st.2.1.length ≠ 0) → F (nI (sk h len p)) (nS K (sk h len p) (nI (sk h len p))) L := by
            intro y
            rw [if_neg y] at hF
            exact hF _ (kMS_n hf)
          have v1 : (nS K (sk h len p) (-1)) 76 20 = nI st.1.length := hD.1.2.1
          have v2 : (nS K (sk h len p) (-1)) 76 21 = nI st.2.1.length := hD.1.2.2.1
          refine ⟨fun y => n_bad hB (no (fun w => y w.1)), fun y => ⟨fun y2 => n_bad hB (no (fun w => ?_)), fun y2 => ⟨fun y3 => ?_, fun y3 => n_bad hB (no (fun w => ?_))⟩⟩⟩
          · rw [v1] at y2
            exact w.2.1 ((nI_eq (a := st.1.length) (b := 0) (by omega) (by decide)).mp y2)
          · rw [v1] at y2
            rw [v2] at y3
            have w : h (sk h len p) = -1 ∧ st.1.length ≠ 0 ∧ st.2.1.length ≠ 0 := ⟨y, fun e => y2 (by rw [e]; rfl), fun e => y3 (by rw [e]; rfl)⟩
            rw [if_pos w] at hF
            exact hF _ (kMS_n hf) (mDf_n hD)
          · rw [v2] at y3
            exact w.2.2 ((nI_eq (a := st.2.1.length) (b := 0) (by omega) (by decide)).mp y3)
        refine u_X12_readStreet_69 hB hx ⟨fun y => absurd rfl y, fun _ => n_look hB H hMK (by omega) ⟨fun z => fin z, fun z => ?_⟩⟩
        rw [if_pos z] at hF
        have hlt := H.lt (p := sk h len p) (by rw [z]; decide)
        have s3 := sk_ge (h := h) (len := len) (sk h len p + 1)
        have s4 := sk_le (h := h) (len := len) (show sk h len p + 1 ≤ len by omega)
        rw [nS_3, nI_1, nS_a]
        refine n_look hB H hMK (by omega) ?_
        have hE := clsS_ok H h2 hL (p := sk h len p + 1) (by omega)
        have next : ∀ v, nOKc (fun I6 L6 => sm_V x 0 0 T I6 L6 69 [some (.ref 76), some (.int v)] []) K L h len HH (clsS h len HH st (sk h len p + 1)) := by
          intro v
          cases hq : clsS h len HH st (sk h len p + 1) with
          | inl e2 =>
            rw [hq] at hF hE
            exact fun I' a f => lost _ _ _ _ hE (hF _ (kMS_n (hf.tr f)))
          | inr q2 =>
            rw [hq] at hF hE
            obtain ⟨k1, k2, k3⟩ := hE
            intro I' p' wr' hp' hsk hw' hf' hD'
            refine ih (i + 1) p' I' q2.2 wr' _ (by omega) (by rw [hsk]; omega) hp' hw' (hf.tr hf') hD' k3 ?_
            have e3 : strL h len HH d p' q2.2 = strL h len HH d q2.1 q2.2 := by rw [← strL_sk H, hsk]
            rw [e3]
            exact hF
        refine ⟨fun y1 => ⟨fun y2 => ⟨fun y3 => n_bad hB ?_, fun y3 => ?_⟩, fun y2 => ?_⟩, fun y1 => ?_⟩
        · have := next (h (sk h len (sk h len p + 1)))
          unfold clsS at this
          rw [if_neg y1, if_neg y2, if_neg y3] at this
          exact this K _ Fr.rf
        · exact n_moon (n := n) hB H hMK hD hL.2.2.2.2.1 (by omega) y3 (next _)
        · exact n_thing (n := n) hB H hMK h2 h8 hD hL.2.1 (by omega) y2 (next _)
        · exact n_sleeper (n := n) hB H hMK h2 h8 hD hL.1 (by omega) y1 (next _)
      · have hs : sk h len p = p := sk_stop (fun e => by rw [e] at hdg; exact absurd hdg (by decide))
        rw [hs, if_neg (fun e => by rw [e] at hdg; exact absurd hdg (by decide)), if_neg (fun e => by rw [e.1] at hdg; exact absurd hdg (by decide))] at hF
        subst hw
        exact lost _ _ _ _ hp (hF _ (kMS_n hf))
  refine n_look hB H hMJ (by omega) ⟨fun q => ?_, fun q => n_bad hB ?_⟩
  · rw [if_pos q] at hF
    have hlt := H.lt (p := sk h len 0) (by rw [q]; decide)
    rw [nS_3, nI_1, nS_a]
    refine n_digit (lo := 2) (hi := 8) (n := n + 2) hB H hMJ (by omega) (by decide) (by decide) ?_
    have hd := dgP_ok H (lo := 2) (hi := 8) (p := sk h len 0 + 1) (by omega)
    cases hq : dgP h len 2 8 (sk h len 0 + 1) with
    | inl e =>
      rw [hq] at hF hd
      have he : e ≤ len := hd
      intro r
      rw [nS_o (by decide)]
      exact lost _ _ _ _ he (hF _ (kMS_n (f0.u rfl)))
    | inr q2 =>
      rw [hq] at hF hd
      obtain ⟨k1, k2, k3, k4, k5⟩ := hd
      intro wr hwr
      rw [nS_o (by decide)]
      refine key q2.2 k3 k4 160 0 q2.1 _ ([], [], 0, 0) wr none (by decide) (Nat.zero_le _) k2 hwr (f0.u rfl) ⟨⟨?_, ?_, ?_, ?_, ?_⟩, fun w hw => absurd hw (Nat.not_lt_zero w), fun w hw => absurd hw (Nat.not_lt_zero w)⟩ fL_nil hF
      · rw [cuA]
      · rw [cuD (by omega)]; exact g0
      · rw [cuD (by omega)]; exact g1
      · rw [cuD (by omega)]; exact g2
      · rw [cuD (by omega)]; exact g3
  · rw [if_neg q] at hF
    exact hF _ (kMS_n f0)
end
