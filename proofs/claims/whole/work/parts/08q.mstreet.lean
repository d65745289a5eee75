/-- where items end, no blank stands -/
theorem itm_sk {h : Nat → Int32} {len : Nat} (H : tpH h len) {it : Int32 → Option Nat} {lo hi : Nat → Nat} : ∀ d p m v q, itmP h len it lo hi d p m v = .inr q → sk h len q.1 = q.1 := by
  intro d
  induction d with
  | zero => intro p m v q e; rw [itmP] at e; cases e; exact sk_sk H p
  | succ d ih =>
    intro p m v q e
    rw [itmP] at e
    cases hk : it (h (sk h len p)) with
    | none => rw [hk] at e; cases e; exact sk_sk H p
    | some j =>
      rw [hk] at e
      have e' : (if m.testBit j = true then (.inr (sk h len p, v) : Nat ⊕ (Nat × (Nat → Nat))) else (match dgP h len (lo j) (hi j) (sk h len p + 1) with
          | .inl e => .inl e
          | .inr q => itmP h len it lo hi d q.1 (m ||| 2 ^ j) (updN v j q.2))) = .inr q := e
      by_cases g : m.testBit j = true
      · rw [if_pos g] at e'; cases e'; exact sk_sk H p
      · rw [if_neg g] at e'
        cases hq : dgP h len (lo j) (hi j) (sk h len p + 1) with
        | inl f => rw [hq] at e'; cases e'
        | inr r => rw [hq] at e'; exact ih _ _ _ _ e'
section
variable {n : Nat} {T : List sm_Sh} {I I' : sm_MI} {L L' : sm_ML} {h : Nat → Int32} {len a p : Nat} {wr : Int32}
theorem n_sleeper {F : sm_MI → sm_ML → Prop} {HH : Nat} {st : stT} (hB : sm_Bs T) (H : tpH h len) (hM : MTs h len I) (h2 : 2 ≤ HH) (h8 : HH ≤ 8) (hD : mDf HH st I) (hS5 : st.1.length ≤ 5) (hp : p ≤ len) (g : h (sk h len p) = 119) (hF : nOKc F I L h len HH (clsS h len HH st p)) : sm_CV (n + 4) mX12_sleeperText T (nS I (sk h len p) (-1)) L [.ref 76] F := by
  have hl := H.1
  have s1 := sk_ge (h := h) (len := len) p
  have s2 := sk_le (h := h) (len := len) hp
  have hlt := H.lt (p := sk h len p) (by rw [g]; decide)
  obtain ⟨⟨d0, d1, d2, d4, d5⟩, dr, dt⟩ := hD
  unfold clsS at hF
  rw [if_pos g] at hF
  refine c_X12_sleeperText hB (fun x hx => ⟨fun q => ?_, fun q => n_bad hB ?_⟩)
  · have q' : ¬ st.1.length = 5 := fun z => q (by rw [show (nS I (sk h len p) (-1)) 76 20 = I 76 20 from rfl, d1, z]; rfl)
    have hlt5 : ¬ 5 ≤ st.1.length := by omega
    rw [if_neg hlt5] at hF
    intro I1 h1
    rw [nS_3, nI_1, nS_a] at h1
    subst h1
    rw [show (nS I (sk h len p + 1) (-1)) 76 20 = I 76 20 from rfl, d1, show (4 : Int32) * nI st.1.length = nI (4 * st.1.length) from pk_mul 4 _]
    generalize hS : st.1.length = S at d1 dr hF hlt5 q' ⊢
    have key : ∀ d k (J : sm_MI), k + d = 4 → Fr (kIt S) I J → (∀ j, j < k → J 87 (4 * S + j) = nI (dfO j)) → sm_V x 0 0 T (nS J (sk h len p + 1) (-1)) L 32 [some (.ref 76), some (.int (nI (4 * S))), some (.int (nI k)), none] [] := by
      intro d
      induction d with
      | zero =>
        intro k J e hf hv
        have : k = 4 := by omega
        subst this
        have hM' := MTs_fr hM hf (by unfold kIt; rfl) (fun _ => by unfold kIt; rfl)
        refine u_X12_sleeperText_32 hB hx ⟨fun _ => n_look hB H hM' (by omega) (n_item hB ?_), fun z => absurd (nI_le (a := 4) (b := 4) (by omega) (by omega)) z⟩
        refine n_items (n := n) (S := S) hB H hx h2 h8 (by omega) len (sk h len p + 1) 0 dfO J (-1) hM' ((hf 76 19 (by unfold kIt; rfl)).trans d0) (by omega) (by omega) (by decide) (Or.inl rfl) hv ?_
        cases hq : itmP h len itO loO (hiO HH) len (sk h len p + 1) 0 dfO with
        | inl e2 =>
          rw [hq] at hF
          intro I' a f
          have f2 : Fr kMS I I' := (hf.tr f).mono (fun k j => kIt_M)
          show F (sm_uI (nS I' a (nI e2)) 76 20 ((nS I' a (nI e2)) 76 20 + 1)) L
          rw [nS_o (by decide)]
          exact hF _ _ (f2.u rfl)
        | inr q2 =>
          rw [hq] at hF
          have hF' : ∀ I' p' wr, p' ≤ len → sk h len p' = q2.1 → wS h wr p' → Fr kMS I I' → mDf HH (st.1 ++ [q2.2], st.2.1, st.2.2.1, st.2.2.2) I' → F (nS I' p' wr) L := hF
          have hio := itmP_ok H (it := itO) (lo := loO) (hi := hiO HH) (by decide) len (sk h len p + 1) 0 dfO (by omega)
          rw [hq] at hio
          intro I' wr w f gg
          have fa := hf.tr f
          have f2 : Fr kMS I I' := fa.mono (fun k j => kIt_M)
          show F (sm_uI (nS I' q2.1 wr) 76 20 ((nS I' q2.1 wr) 76 20 + 1)) L
          have hll : (st.1 ++ [q2.2]).length = S + 1 := by rw [List.length_append, List.length_singleton, hS]
          rw [nS_o (by decide), show (nS I' q2.1 wr) 76 20 = I' 76 20 from rfl, fa 76 20 (by unfold kIt; rfl), d1, nI_1]
          refine hF' _ _ _ hio.2.1 (itm_sk H _ _ _ _ _ hq) w (f2.u rfl) ⟨⟨?_, ?_, ?_, ?_, ?_⟩, fun v hv j hj => ?_, fun t ht => ?_⟩
          · rw [cuD (by omega), fa 76 19 (by unfold kIt; rfl)]; exact d0
          · rw [cuA]; show _ = nI (st.1 ++ [q2.2]).length; rw [hll]
          · rw [cuD (by omega), fa 76 21 (by unfold kIt; rfl)]; exact d2
          · rw [cuD (by omega), fa 76 22 (by unfold kIt; rfl)]; exact d4
          · rw [cuD (by omega), fa 76 23 (by unfold kIt; rfl)]; exact d5
          · rw [cuD (by omega)]
            have hv' : v < S + 1 := by rw [← hll]; exact hv
            show _ = nI ((st.1 ++ [q2.2]).getD v dfA j)
            by_cases e : v = S
            · subst e
              rw [gg j hj, ← hS, gd_r]
            · rw [fa 87 (4 * v + j) (by unfold kIt; simp; omega), gd_l (by omega)]
              exact dr v (by omega) j hj
          · rw [cuD (by omega), fa 88 t (by unfold kIt; rfl)]; exact dt t ht
      | succ d ih =>
        intro k J e hf hv
        have ei : nI (4 * S) + nI k = nI (4 * S + k) := nI_add _ _
        have step : ∀ u : Int32, u = nI (dfO k) → vp_in (nI (4 * S) + nI k) 20 ∧ sm_V x 0 0 T (sm_uI (nS J (sk h len p + 1) (-1)) 87 (Int32.toNatClampNeg (nI (4 * S) + nI k)) u) L 32 [some (.ref 76), some (.int (nI (4 * S))), some (.int (nI k + 1)), none] [] := by
          intro u hu
          subst hu
          rw [ei, nI_clamp (by omega), nS_o (by omega), nI_1]
          refine ⟨vp_in_nI (by omega) (by decide), ih (k + 1) _ (by omega) (hf.u (by unfold kIt; simp; omega)) (fun j hj => ?_)⟩
          by_cases e2 : j = k
          · subst e2; rw [cuA]
          · rw [cuD (by omega)]; exact hv j (by omega)
        refine u_X12_sleeperText_32 hB hx ⟨fun z => absurd z (nI_ge (b := 4) (by omega) (by omega)), fun _ => ⟨fun z => step 0 ?_, fun z => step 1 ?_⟩⟩
        · have : ¬ k = 1 := fun e => z (by rw [e]; rfl)
          unfold dfO; rw [if_neg this]; rfl
        · have : k = 1 := (nI_eq (a := k) (b := 1) (by omega) (by decide)).mp z
          rw [this]; rfl
    exact key 4 0 I (by decide) Fr.rf (fun j hj => absurd hj (Nat.not_lt_zero j))
  · have q' : st.1.length = 5 := (nI_eq (a := st.1.length) (b := 5) (by omega) (by decide)).mp (d1.symm.trans q)
    rw [if_pos (by omega)] at hF
    exact hF _ _ Fr.rf
theorem thing_items (H : tpH h len) {HH : Nat} (hl : 0 < len) : itmP h len itA loO (hiA HH) len p 0 dfA = if h (sk h len p) = 97 then (match dgP h len 0 (HH - 1) (sk h len p + 1) with
    | .inl e => .inl e
    | .inr q => .inr (sk h len q.1, updN dfA 0 q.2)) else .inr (sk h len p, dfA) := by
  obtain ⟨d, rfl⟩ : ∃ d, len = d + 1 := ⟨len - 1, by omega⟩
  rw [itmP]
  by_cases g : h (sk h (d + 1) p) = 97
  · rw [if_pos g, show itA (h (sk h (d + 1) p)) = some 0 by rw [g]; rfl]
    have full : ∀ (q : Nat × Nat), itmP h (d + 1) itA loO (hiA HH) d q.1 (0 ||| 2 ^ 0) (updN dfA 0 q.2) = .inr (sk h (d + 1) q.1, updN dfA 0 q.2) := by
      intro q
      refine itm_full (c := 1) (fun x j e => (it_A e).1) (fun j hj => ?_)
      have : j = 0 := by omega
      subst this; decide
    have e1 : (match dgP h (d + 1) 0 (HH - 1) (sk h (d + 1) p + 1) with
      | .inl e => (.inl e : Nat ⊕ (Nat × (Nat → Nat)))
      | .inr q => itmP h (d + 1) itA loO (hiA HH) d q.1 (0 ||| 2 ^ 0) (updN dfA 0 q.2)) = (match dgP h (d + 1) 0 (HH - 1) (sk h (d + 1) p + 1) with
      | .inl e => (.inl e : Nat ⊕ (Nat × (Nat → Nat)))
      | .inr q => .inr (sk h (d + 1) q.1, updN dfA 0 q.2)) := by
      cases dgP h (d + 1) 0 (HH - 1) (sk h (d + 1) p + 1) with
      | inl e => rfl
      | inr q => exact full q
    exact e1
  · rw [if_neg g, show itA (h (sk h (d + 1) p)) = none from if_neg g]
theorem n_thing {F : sm_MI → sm_ML → Prop} {HH : Nat} {st : stT} (hB : sm_Bs T) (H : tpH h len) (hM : MTs h len I) (h2 : 2 ≤ HH) (h8 : HH ≤ 8) (hD : mDf HH st I) (hT8 : st.2.1.length ≤ 8) (hp : p ≤ len) (g : h (sk h len p) = 111) (hF : nOKc F I L h len HH (clsS h len HH st p)) : sm_CV (n + 4) mX12_thingText T (nS I (sk h len p) (-1)) L [.ref 76] F := by
  have hl := H.1
  have s1 := sk_ge (h := h) (len := len) p
  have s2 := sk_le (h := h) (len := len) hp
  have hlt := H.lt (p := sk h len p) (by rw [g]; decide)
  obtain ⟨⟨d0, d1, d2, d4, d5⟩, dr, dt⟩ := hD
  unfold clsS at hF
  rw [if_neg (by rw [g]; decide), if_pos g] at hF
  refine c_X12_thingText hB ⟨fun q => ?_, fun q => n_bad hB ?_⟩
  · have q' : ¬ st.2.1.length = 8 := fun z => q (by rw [show (nS I (sk h len p) (-1)) 76 21 = I 76 21 from rfl, d2, z]; rfl)
    have hlt8 : ¬ 8 ≤ st.2.1.length := by omega
    rw [if_neg hlt8, thing_items H (by omega)] at hF
    intro I1 h1
    rw [nS_3, nI_1, nS_a] at h1
    subst h1
    have e21 : ∀ a wr, (nS I a wr) 76 21 = nI st.2.1.length := fun _ _ => d2
    rw [e21, nI_clamp (by omega), nS_o (by omega)]
    have s3 := sk_ge (h := h) (len := len) (sk h len p + 1)
    have s4 := sk_le (h := h) (len := len) (show sk h len p + 1 ≤ len by omega)
    have fu : ∀ u, Fr kMS I (sm_uI I 88 st.2.1.length u) := fun u => Fr.rf.u rfl
    have hM' : ∀ u, MTs h len (sm_uI I 88 st.2.1.length u) := fun u => MTs_fr hM (fu u) rfl (fun _ => rfl)
    have hll : ∀ x : Nat, (st.2.1 ++ [x]).length = st.2.1.length + 1 := fun x => by rw [List.length_append, List.length_singleton]
    -- the end, the thing at x
    have fin : ∀ (J : sm_MI) (p' : Nat) (wr : Int32) (x : Nat), Fr kMS I J → (∀ k j, ¬ (k = 76 ∧ (j = 3 ∨ j = 4)) → ¬ (k = 88 ∧ j = st.2.1.length) → J k j = I k j) → J 88 st.2.1.length = nI x → (∀ I', Fr kMS I I' → mDf HH (st.1, st.2.1 ++ [x], st.2.2.1, st.2.2.2) I' → F (nS I' p' wr) L) → F (sm_uI (nS J p' wr) 76 21 ((nS J p' wr) 76 21 + 1)) L := by
      intro J p' wr x hf hJ hx hFx
      rw [nS_o (by decide), show (nS J p' wr) 76 21 = J 76 21 from rfl, hJ 76 21 (by omega) (by omega), d2, nI_1]
      refine hFx _ (hf.u rfl) ⟨⟨?_, ?_, ?_, ?_, ?_⟩, fun w hw j hj => ?_, fun t ht => ?_⟩
      · rw [cuD (by omega), hJ 76 19 (by omega) (by omega)]; exact d0
      · rw [cuD (by omega), hJ 76 20 (by omega) (by omega)]; exact d1
      · rw [cuA]; show _ = nI (st.2.1 ++ [x]).length; rw [hll]
      · rw [cuD (by omega), hJ 76 22 (by omega) (by omega)]; exact d4
      · rw [cuD (by omega), hJ 76 23 (by omega) (by omega)]; exact d5
      · rw [cuD (by omega), hJ 87 _ (by omega) (by omega)]; exact dr w hw j hj
      · rw [cuD (by omega)]
        have ht' : t < st.2.1.length + 1 := by rw [← hll x]; exact ht
        show _ = nI ((st.2.1 ++ [x]).getD t 0)
        by_cases e : t = st.2.1.length
        · subst e; rw [gd_r]; exact hx
        · rw [gd_l (by omega), hJ 88 t (by omega) (by omega)]; exact dt t (by omega)
    refine ⟨vp_in_nI (by omega) (by decide), n_look hB H (hM' 0) (by omega) ⟨fun q2 => ?_, fun q2 => ?_⟩⟩
    · rw [if_neg q2] at hF
      have hF' : ∀ I' p' wr, p' ≤ len → sk h len p' = sk h len (sk h len p + 1) → wS h wr p' → Fr kMS I I' → mDf HH (st.1, st.2.1 ++ [dfA 0], st.2.2.1, st.2.2.2) I' → F (nS I' p' wr) L := hF
      exact fin _ _ _ 0 (fu 0) (fun k j _ hk => cuD (by omega)) cuA (fun I' f m => hF' I' _ _ s4 (sk_sk H _) (Or.inl rfl) f m)
    · rw [if_pos q2] at hF
      have hlt2 := H.lt (p := sk h len (sk h len p + 1)) (by rw [q2]; decide)
      intro I4 h4
      rw [nS_3, nI_1, nS_a] at h4
      subst h4
      rw [show (nS (sm_uI I 88 st.2.1.length 0) (sk h len (sk h len p + 1) + 1) (-1)) 76 19 - 1 = nI (HH - 1) by
        rw [show (nS (sm_uI I 88 st.2.1.length 0) (sk h len (sk h len p + 1) + 1) (-1)) 76 19 = I 76 19 from rfl, d0]; exact pk_sub (a := HH) (b := 1) (by omega)]
      refine n_digit (lo := 0) (hi := HH - 1) (n := n + 1) hB H (hM' 0) (by omega) (by decide) (by omega) ?_
      have e21' : ∀ a wr, (nS (sm_uI I 88 st.2.1.length 0) a wr) 76 21 = nI st.2.1.length := fun _ _ => d2
      have hd2 := dgP_ok H (lo := 0) (hi := HH - 1) (p := sk h len (sk h len p + 1) + 1) (by omega)
      have uu : ∀ (u : Int32) (k j : Nat), ¬ (k = 76 ∧ (j = 3 ∨ j = 4)) → ¬ (k = 88 ∧ j = st.2.1.length) → (sm_uI (sm_uI I 88 st.2.1.length 0) 88 st.2.1.length u) k j = I k j := fun u k j _ hk => by rw [cuD hk, cuD hk]
      cases hq : dgP h len 0 (HH - 1) (sk h len (sk h len p + 1) + 1) with
      | inl e =>
        rw [hq] at hF
        intro r
        rw [e21', nI_clamp (by omega)]
        refine ⟨vp_in_nI (by omega) (by decide), fun I7 h7 => ?_⟩
        rw [nS_o (by omega)] at h7
        subst h7
        rw [nS_o (by decide)]
        exact hF _ _ (((fu 0).u rfl).u rfl)
      | inr q3 =>
        rw [hq] at hF hd2
        have hF' : ∀ I' p' wr, p' ≤ len → sk h len p' = sk h len q3.1 → wS h wr p' → Fr kMS I I' → mDf HH (st.1, st.2.1 ++ [q3.2], st.2.2.1, st.2.2.2) I' → F (nS I' p' wr) L := hF
        intro wr hwr
        rw [e21', nI_clamp (by omega)]
        refine ⟨vp_in_nI (by omega) (by decide), fun I7 h7 => ?_⟩
        rw [nS_o (by omega)] at h7
        subst h7
        exact fin _ _ _ q3.2 ((fu 0).u rfl) (uu _) cuA (fun I' f m => hF' I' _ _ hd2.2.1 rfl hwr f m)
  · have q' : st.2.1.length = 8 := (nI_eq (a := st.2.1.length) (b := 8) (by omega) (by decide)).mp (d2.symm.trans q)
    rw [if_pos (by omega)] at hF
    exact hF _ _ Fr.rf
end
