/-! ===== the class reads clauses of streets, streets ===== -/
def kDr (k _ : Nat) : Bool := Nat.beq k 5 || Nat.beq k 7 || Nat.beq k 9 || Nat.beq k 11 || Nat.beq k 13
/-- the draft -/
def dD (HH : Nat) (st : stT) (I : sm_MI) : Prop := (I 5 0 = nI HH ∧ I 5 1 = nI st.1.length ∧ I 5 2 = nI st.2.1.length ∧ I 5 4 = nI st.2.2.1 ∧ I 5 5 = nI st.2.2.2) ∧ (∀ t, cU 8 (I 5 3) t = if t < st.2.1.length then nI (st.2.1.getD t 0) else 0) ∧ (∀ w, w < st.1.length → I 7 w = nI ((st.1.getD w dfA) 0) ∧ I 9 w = nI ((st.1.getD w dfA) 1) ∧ I 11 w = nI ((st.1.getD w dfA) 2) ∧ I 13 w = nI ((st.1.getD w dfA) 3)) ∧ ∀ w, w < 5 → I 15 w = -1
theorem gd_l {α : Type} {l r : List α} {j : Nat} {d : α} (h : j < l.length) : (l ++ r).getD j d = l.getD j d := by
  rw [List.getD_eq_getElem?_getD, List.getD_eq_getElem?_getD, List.getElem?_append_left h]
theorem gd_r {α : Type} {l : List α} {x d : α} : (l ++ [x]).getD l.length d = x := by
  rw [List.getD_eq_getElem?_getD, List.getElem?_append_right (Nat.le_refl _), Nat.sub_self]; rfl
/-- what the class does behind a clause -/
def dOKc (F : Bool → sm_MI → sm_ML → Prop) (I : sm_MI) (L : sm_ML) (h : Nat → Int32) (len HH : Nat) : Nat ⊕ (Nat × stT) → Prop
  | .inl e => ∀ dg it, F false (cS I e dg it) L
  | .inr q => ∀ p' dg it I', p' ≤ len → sk h len p' = q.1 → Fr kDr I I' → dD HH q.2 I' → F true (cS I' p' dg it) L
section
variable {n : Nat} {T : List sm_Sh} {I I' : sm_MI} {L L' : sm_ML} {h : Nat → Int32} {len p : Nat} {dg : Int32} {it : Nat → Int32}
theorem CTp_fr {P : Nat → Nat → Bool} (hC : CTp h len I) (f : Fr P I I') (h1 : P 1 1 = false) (h3 : ∀ j, P 3 j = false) : CTp h len I' := ⟨(f 1 1 h1).trans hC.1, fun j hj => (f 3 j (h3 j)).trans (hC.2 j hj)⟩
theorem cS_fill : sm_fill (cS I p dg it) 17 4 (fun _ => 0) = cS I p dg (fun j => if j < 4 then 0 else it j) := by
  funext k j
  unfold sm_fill cS
  by_cases e : k = 17
  · subst e; simp
  · simp [e]
theorem d_clause {F : Bool → sm_MI → sm_ML → Prop} {HH : Nat} {st : stT} (hB : sm_Bs T) (H : tpH h len) (hC : CTp h len I) (h2 : 2 ≤ HH) (h8 : HH ≤ 8) (hD : dD HH st I) (hS5 : st.1.length ≤ 5) (hT8 : st.2.1.length ≤ 8) (hP10 : st.2.2.1 < 10) (hp : p ≤ len) (hF : dOKc F I L h len HH (clsS h len HH st p)) : sm_CZ (n + 8) mX9_readClause T (cS I p dg it) L [.ref 4] F := by
  have hl := H.1
  have s1 := sk_ge (h := h) (len := len) p
  have s2 := sk_le (h := h) (len := len) hp
  obtain ⟨⟨d0, d1, d2, d4, d5⟩, d3, dr, d15⟩ := hD
  unfold clsS at hF
  refine c_X9_readClause hB (d_next hB H hC hp (c_X9_canCome hB ?_))
  have e1 : (cS I (sk h len p) dg it) 5 1 = nI st.1.length := d1
  have e2 : (cS I (sk h len p) dg it) 5 2 = nI st.2.1.length := d2
  have e4 : (cS I (sk h len p) dg it) 5 4 = nI st.2.2.1 := d4
  have z0 : ∀ j, j < 4 → (fun j => if j < 4 then (0 : Int32) else it j) j = nI (dfA j) := fun j hj => if_pos hj
  refine ⟨fun g => ?_, fun g => ?_, fun g => ?_, fun g => ?_⟩
  -- m
  · rw [if_neg (by rw [g]; decide), if_neg (by rw [g]; decide), if_pos g] at hF
    have hlt := H.lt (p := sk h len p) (by rw [g]; decide)
    rw [e4]
    refine ⟨fun q => ?_, fun q => ?_⟩
    · have : ¬ st.2.2.1 = 0 := fun z => q (by rw [z]; rfl)
      rw [if_neg this] at hF
      exact ⟨fun z => absurd z (by decide), fun _ => hF _ _⟩
    · have : st.2.2.1 = 0 := (nI_eq (a := st.2.2.1) (b := 0) (by omega) (by decide)).mp q
      rw [if_pos this] at hF
      refine ⟨fun _ => d_goOn hB (s_fill (t_16 hB) (t_17 hB) (by decide) ?_), fun z => absurd z (by decide)⟩
      rw [cS_fill]
      refine ⟨fun z => absurd (g.symm.trans z) (by decide), fun z => absurd (g.symm.trans z) (by decide), fun _ => ?_⟩
      have ix := s_ix_pg (n := n + 4) (T := T) (I := cS I (sk h len p + 1) dg (fun j => if j < 4 then 0 else it j)) (L := L) (b := 112) (F := fun r19 I18 L18 => sm_CV (n + 7) mX3_set T I18 L18 [.ref 16, .int r19, .int 7] (fun I20 L20 => sm_CZ (n + 7) mX9_readItems T I20 L20 [.ref 4, .ref 1000002] (fun r22 I21 L21 => (r22 = false → F false I21 L21) ∧ (r22 = true → sm_CZ (n + 7) mX8_addMoon T I21 L21 [.ref 5, .ref 16] (fun r24 I23 L23 => (r24 = false → F false I23 L23) ∧ (r24 = true → F true I23 L23)))))) (by decide)
      rw [ch_nat 112 (by decide)] at ix
      refine ix (s_set (k := 16) (p := 17) (m := 4) (i := 0) (t_16 hB) (t_17 hB) (by decide) (by decide) ?_)
      rw [cS_i]
      refine d_items_pg (n := n + 3) (HH := HH) (v := dfM) hB H hC d0 h2 h8 (by omega) (fun j hj => ?_) ?_
      · unfold upd
        by_cases e : j = 0
        · subst e; rfl
        · rw [if_neg e]
          show (if j < 4 then (0 : Int32) else it j) = nI (dfM j)
          rw [if_pos hj]
          unfold dfM
          rw [if_neg e]; rfl
      · cases hq : itmP h len itM loM hiM len (sk h len p + 1) 0 dfM with
        | inl e =>
          rw [hq] at hF
          exact fun dg it => ⟨fun _ => hF _ _, fun z => absurd z (by decide)⟩
        | inr q =>
          rw [hq] at hF
          have hF' : ∀ p' dg it I', p' ≤ len → sk h len p' = q.1 → Fr kDr I I' → dD HH (st.1, st.2.1, q.2 0, q.2 1) I' → F true (cS I' p' dg it) L := hF
          intro p' dg' it' hp' hsk hit
          refine ⟨fun z => absurd z (by decide), fun _ => c_X8_addMoon hB (s_at (i := 0) (m := 4) (t_16 hB) (t_17 hB) (by decide) (by decide) ?_)⟩
          rw [show (cS I p' dg' it') 17 0 = nI (q.2 0) from hit 0 (by decide), cS_o (by decide)]
          refine s_at (i := 1) (m := 4) (t_16 hB) (t_17 hB) (by decide) (by decide) ⟨fun z => absurd z (by decide), fun _ => ?_⟩
          rw [show (cS (sm_uI I 5 4 (nI (q.2 0))) p' dg' it') 17 1 = nI (q.2 1) from hit 1 (by decide), cS_o (by decide)]
          refine hF' _ _ _ _ hp' hsk ((Fr.rf.u rfl).u rfl) ⟨⟨?_, ?_, ?_, ?_, ?_⟩, fun t => ?_, fun w hw => ?_, fun w hw => ?_⟩
          · rw [cuD (by omega), cuD (by omega)]; exact d0
          · rw [cuD (by omega), cuD (by omega)]; exact d1
          · rw [cuD (by omega), cuD (by omega)]; exact d2
          · rw [cuD (by omega), cuA]
          · rw [cuA]
          · rw [cuD (by omega), cuD (by omega)]; exact d3 t
          · rw [cuD (by omega), cuD (by omega), cuD (by omega), cuD (by omega), cuD (by omega), cuD (by omega), cuD (by omega), cuD (by omega)]; exact dr w hw
          · rw [cuD (by omega), cuD (by omega)]; exact d15 w hw
  -- o
  · rw [if_neg (by rw [g]; decide), if_pos g] at hF
    have hlt := H.lt (p := sk h len p) (by rw [g]; decide)
    rw [e2]
    refine ⟨fun q => ?_, fun q => ?_⟩
    · have : 8 ≤ st.2.1.length := (nI_leI (a := 8) (by decide) (by omega)).mp q
      rw [if_pos this] at hF
      exact ⟨fun z => absurd z (by decide), fun _ => hF _ _⟩
    · have hlt8 : ¬ 8 ≤ st.2.1.length := fun z => q (nI_le (a := 8) z (by omega))
      rw [if_neg hlt8] at hF
      refine ⟨fun _ => d_goOn hB (s_fill (t_16 hB) (t_17 hB) (by decide) ?_), fun z => absurd z (by decide)⟩
      rw [cS_fill]
      refine ⟨fun _ => ?_, fun z => absurd (g.symm.trans z) (by decide), fun z => absurd g z.1⟩
      refine d_items_a (n := n + 3) (HH := HH) (v := dfA) hB H hC d0 h2 h8 (by omega) z0 ?_
      cases hq : itmP h len itA loO (hiA HH) len (sk h len p + 1) 0 dfA with
      | inl e =>
        rw [hq] at hF
        exact fun dg it => ⟨fun _ => hF _ _, fun z => absurd z (by decide)⟩
      | inr q =>
        have hio := itmP_ok H (it := itA) (lo := loO) (hi := hiA HH) (by decide) len (sk h len p + 1) 0 dfA (by omega)
        rw [hq] at hF hio
        have hq0 : q.2 0 < 8 := by
          rcases hio.2.2 0 with y | y
          · rw [y]; decide
          · have : q.2 0 ≤ HH - 1 := y.2.1
            omega
        have hF' : ∀ p' dg it I', p' ≤ len → sk h len p' = q.1 → Fr kDr I I' → dD HH (st.1, st.2.1 ++ [q.2 0], st.2.2.1, st.2.2.2) I' → F true (cS I' p' dg it) L := hF
        intro p' dg' it' hp' hsk hit
        refine ⟨fun z => absurd z (by decide), fun _ => c_X8_addThing hB (s_at (i := 0) (m := 4) (t_16 hB) (t_17 hB) (by decide) (by decide) ?_)⟩
        rw [show (cS I p' dg' it') 17 0 = nI (q.2 0) from hit 0 (by decide), show (cS I p' dg' it') 5 2 = nI st.2.1.length from d2, show (cS I p' dg' it') 5 3 = I 5 3 from rfl]
        refine s_placed hB (fun I5 h5 => ⟨fun z => absurd z (by decide), fun _ => ?_⟩)
        rw [cS_o (by decide)] at h5
        subst h5
        rw [cS_k (by decide), cS_o (by decide), cuD (by omega), d2, nI_1]
        have hll : (st.2.1 ++ [q.2 0]).length = st.2.1.length + 1 := by rw [List.length_append, List.length_singleton]
        refine hF' _ _ _ _ hp' hsk ((Fr.rf.u rfl).u rfl) ⟨⟨?_, ?_, ?_, ?_, ?_⟩, fun t => ?_, fun w hw => ?_, fun w hw => ?_⟩
        · rw [cuD (by omega), cuD (by omega)]; exact d0
        · rw [cuD (by omega), cuD (by omega)]; exact d1
        · rw [cuA]; show _ = nI (st.2.1 ++ [q.2 0]).length; rw [hll]
        · rw [cuD (by omega), cuD (by omega)]; exact d4
        · rw [cuD (by omega), cuD (by omega)]; exact d5
        · rw [cuD (by omega), cuA, cU_Pd _ (by decide) (by omega) hq0]
          show upd _ _ _ t = if t < (st.2.1 ++ [q.2 0]).length then nI ((st.2.1 ++ [q.2 0]).getD t 0) else 0
          rw [hll]
          by_cases e : t = st.2.1.length
          · subst e; rw [pk_us, if_pos (by omega), gd_r]
          · rw [pk_un e, d3 t]
            by_cases e2 : t < st.2.1.length
            · rw [if_pos e2, if_pos (by omega), gd_l e2]
            · rw [if_neg e2, if_neg (by omega)]
        · rw [cuD (by omega), cuD (by omega), cuD (by omega), cuD (by omega), cuD (by omega), cuD (by omega), cuD (by omega), cuD (by omega)]; exact dr w hw
        · rw [cuD (by omega), cuD (by omega)]; exact d15 w hw
  -- w
  · rw [if_pos g] at hF
    have hlt := H.lt (p := sk h len p) (by rw [g]; decide)
    rw [e1]
    refine ⟨fun q => ?_, fun q => ?_⟩
    · have : 5 ≤ st.1.length := (nI_leI (a := 5) (by decide) (by omega)).mp q
      rw [if_pos this] at hF
      exact ⟨fun z => absurd z (by decide), fun _ => hF _ _⟩
    · have hlt5 : ¬ 5 ≤ st.1.length := fun z => q (nI_le (a := 5) z (by omega))
      rw [if_neg hlt5] at hF
      refine ⟨fun _ => d_goOn hB (s_fill (t_16 hB) (t_17 hB) (by decide) ?_), fun z => absurd z (by decide)⟩
      rw [cS_fill]
      refine ⟨fun z => absurd (g.symm.trans z) (by decide), fun _ => ?_, fun z => absurd g z.2⟩
      have ix := s_ix_aske (n := n + 4) (T := T) (I := cS I (sk h len p + 1) dg (fun j => if j < 4 then 0 else it j)) (L := L) (b := 115) (F := fun r12 I11 L11 => sm_CV (n + 7) mX3_set T I11 L11 [.ref 16, .int r12, .int 1] (fun I13 L13 => sm_CZ (n + 7) mX9_readItems T I13 L13 [.ref 4, .ref 1000000] (fun r15 I14 L14 => (r15 = false → F false I14 L14) ∧ (r15 = true → sm_CZ (n + 7) mX8_addSleeper T I14 L14 [.ref 5, .ref 16] (fun r17 I16 L16 => (r17 = false → F false I16 L16) ∧ (r17 = true → F true I16 L16)))))) (by decide)
      rw [ch_nat 115 (by decide)] at ix
      refine ix (s_set (k := 16) (p := 17) (m := 4) (i := 1) (t_16 hB) (t_17 hB) (by decide) (by decide) ?_)
      rw [cS_i]
      refine d_items_aske (n := n + 3) (HH := HH) (v := dfO) hB H hC d0 h2 h8 (by omega) (fun j hj => ?_) ?_
      · unfold upd
        by_cases e : j = 1
        · subst e; rfl
        · rw [if_neg e]
          show (if j < 4 then (0 : Int32) else it j) = nI (dfO j)
          rw [if_pos hj]
          unfold dfO
          rw [if_neg e]; rfl
      · cases hq : itmP h len itO loO (hiO HH) len (sk h len p + 1) 0 dfO with
        | inl e =>
          rw [hq] at hF
          exact fun dg it => ⟨fun _ => hF _ _, fun z => absurd z (by decide)⟩
        | inr q =>
          rw [hq] at hF
          have hF' : ∀ p' dg it I', p' ≤ len → sk h len p' = q.1 → Fr kDr I I' → dD HH (st.1 ++ [q.2], st.2.1, st.2.2.1, st.2.2.2) I' → F true (cS I' p' dg it) L := hF
          intro p' dg' it' hp' hsk hit
          have i0 : ∀ J, (cS J p' dg' it') 17 0 = nI (q.2 0) := fun J => hit 0 (by decide)
          have i1 : ∀ J, (cS J p' dg' it') 17 1 = nI (q.2 1) := fun J => hit 1 (by decide)
          have i2 : ∀ J, (cS J p' dg' it') 17 2 = nI (q.2 2) := fun J => hit 2 (by decide)
          have i3 : ∀ J, (cS J p' dg' it') 17 3 = nI (q.2 3) := fun J => hit 3 (by decide)
          refine ⟨fun z => absurd z (by decide), fun _ => c_X8_addSleeper hB (s_at (i := 0) (m := 4) (t_16 hB) (t_17 hB) (by decide) (by decide) ?_)⟩
          rw [i0, show (cS I p' dg' it') 5 1 = nI st.1.length from d1]
          refine s_set (t_6 hB) (t_7 hB) (by omega) (by decide) ?_
          rw [cS_o (by decide)]
          refine s_at (i := 1) (m := 4) (t_16 hB) (t_17 hB) (by decide) (by decide) ?_
          rw [i1, cS_k (by decide), cuD (by omega), d1]
          refine s_set (t_8 hB) (t_9 hB) (by omega) (by decide) ?_
          rw [cS_o (by decide)]
          refine s_at (i := 2) (m := 4) (t_16 hB) (t_17 hB) (by decide) (by decide) ?_
          rw [i2, cS_k (by decide), cuD (by omega), cuD (by omega), d1]
          refine s_set (t_10 hB) (t_11 hB) (by omega) (by decide) ?_
          rw [cS_o (by decide)]
          refine s_at (i := 3) (m := 4) (t_16 hB) (t_17 hB) (by decide) (by decide) ?_
          rw [i3, cS_k (by decide), cuD (by omega), cuD (by omega), cuD (by omega), d1]
          refine s_set (t_12 hB) (t_13 hB) (by omega) (by decide) ⟨fun z => absurd z (by decide), fun _ => ?_⟩
          rw [cS_o (by decide), cS_k (by decide), cuD (by omega), cuD (by omega), cuD (by omega), cuD (by omega), d1, nI_1, cS_o (by decide)]
          have hll : (st.1 ++ [q.2]).length = st.1.length + 1 := by rw [List.length_append, List.length_singleton]
          refine hF' _ _ _ _ hp' hsk (((((Fr.rf.u rfl).u rfl).u rfl).u rfl).u rfl) ⟨⟨?_, ?_, ?_, ?_, ?_⟩, fun t => ?_, fun w hw => ?_, fun w hw => ?_⟩
          · rw [cuD (by omega), cuD (by omega), cuD (by omega), cuD (by omega), cuD (by omega)]; exact d0
          · rw [cuA]; show _ = nI (st.1 ++ [q.2]).length; rw [hll]
          · rw [cuD (by omega), cuD (by omega), cuD (by omega), cuD (by omega), cuD (by omega)]; exact d2
          · rw [cuD (by omega), cuD (by omega), cuD (by omega), cuD (by omega), cuD (by omega)]; exact d4
          · rw [cuD (by omega), cuD (by omega), cuD (by omega), cuD (by omega), cuD (by omega)]; exact d5
          · rw [cuD (by omega), cuD (by omega), cuD (by omega), cuD (by omega), cuD (by omega)]; exact d3 t
          · have hw' : w < st.1.length + 1 := by rw [← hll]; exact hw
            show _ = nI ((st.1 ++ [q.2]).getD w dfA 0) ∧ _ = nI ((st.1 ++ [q.2]).getD w dfA 1) ∧ _ = nI ((st.1 ++ [q.2]).getD w dfA 2) ∧ _ = nI ((st.1 ++ [q.2]).getD w dfA 3)
            by_cases e : w = st.1.length
            · subst e
              rw [gd_r]
              refine ⟨?_, ?_, ?_, ?_⟩
              · rw [cuD (by omega), cuD (by omega), cuD (by omega), cuD (by omega), cuA]
              · rw [cuD (by omega), cuD (by omega), cuD (by omega), cuA]
              · rw [cuD (by omega), cuD (by omega), cuA]
              · rw [cuD (by omega), cuA]
            · have hw2 : w < st.1.length := by omega
              rw [gd_l hw2]
              obtain ⟨r0, r1, r2, r3⟩ := dr w hw2
              refine ⟨?_, ?_, ?_, ?_⟩
              · rw [cuD (by omega), cuD (by omega), cuD (by omega), cuD (by omega), cuD (by omega)]; exact r0
              · rw [cuD (by omega), cuD (by omega), cuD (by omega), cuD (by omega), cuD (by omega)]; exact r1
              · rw [cuD (by omega), cuD (by omega), cuD (by omega), cuD (by omega), cuD (by omega)]; exact r2
              · rw [cuD (by omega), cuD (by omega), cuD (by omega), cuD (by omega), cuD (by omega)]; exact r3
          · rw [cuD (by omega), cuD (by omega), cuD (by omega), cuD (by omega), cuD (by omega)]; exact d15 w hw
  · rw [if_neg g.2.2, if_neg g.2.1, if_neg g.1] at hF
    exact ⟨fun z => absurd z (by decide), fun _ => hF _ _⟩
end
