/-- what the street's reader may touch in the class -/
def kDS (k j : Nat) : Bool := (Nat.beq k 4 && (Nat.beq j 1 || Nat.beq j 4)) || Nat.beq k 17 || Nat.beq k 15 || Nat.beq k 5 || Nat.beq k 7 || Nat.beq k 9 || Nat.beq k 11 || Nat.beq k 13
theorem kDr_S {k j : Nat} (q : kDS k j = false) : kDr k j = false := by
  cases e : kDr k j with
  | false => rfl
  | true =>
    unfold kDr at e
    unfold kDS at q
    rw [Bool.or_eq_true, Bool.or_eq_true, Bool.or_eq_true, Bool.or_eq_true] at e
    rcases e with (((e | e) | e) | e) | e <;> simp [e] at q
theorem kDS_cS {I J : sm_MI} {p : Nat} {dg : Int32} {it : Nat → Int32} (h : Fr kDS I J) : Fr kDS I (cS J p dg it) := by
  intro k j q
  rw [← h k j q]
  unfold cS
  by_cases e : k = 4
  · subst e
    rw [if_pos rfl]
    by_cases e1 : j = 1
    · subst e1; exact absurd q (by decide)
    · rw [if_neg e1]
      by_cases e4 : j = 4
      · subst e4; exact absurd q (by decide)
      · rw [if_neg e4]
  · rw [if_neg e]
    by_cases e17 : k = 17
    · subst e17; exact absurd q (by simp [kDS])
    · rw [if_neg e17]
def dOKs (F : Int32 → sm_MI → sm_ML → Prop) (I : sm_MI) (L : sm_ML) : Nat ⊕ (Nat × stT) → Prop
  | .inl e => ∀ I', Fr kDS I I' → F (nI e) I' L
  | .inr q => ∀ I', Fr kDS I I' → dD q.1 q.2 I' → F (-1) I' L
section
variable {n : Nat} {T : List sm_Sh} {I I' : sm_MI} {L L' : sm_ML} {h : Nat → Int32} {len p : Nat} {dg : Int32} {it : Nat → Int32}
theorem cS_fl {k m : Nat} {f : Nat → Int32} (hk : k ≠ 4 ∧ k ≠ 17) : sm_fill (cS I p dg it) k m f = cS (sm_fill I k m f) p dg it := by
  funext x j
  unfold sm_fill cS
  obtain ⟨h1, h2⟩ := hk
  by_cases e : x = k
  · subst e; simp [h1, h2]
  · have g4 : (4 : Nat) ≠ k := fun z => h1 z.symm
    simp [e, g4]
theorem strL_sk (H : tpH h len) {HH d : Nat} {st : stT} : strL h len HH d (sk h len p) st = strL h len HH d p st := by
  cases d with
  | zero => rw [strL, strL, sk_sk H]
  | succ d => rw [strL, strL, sk_sk H]
theorem d_street {F : Int32 → sm_MI → sm_ML → Prop} (hB : sm_Bs T) (H : tpH h len) (hC : CTp h len I) (hF : dOKs F I L (strP h len)) : sm_CI (n + 9) mX9_read T I L [.ref 4] F := by
  have hl := H.1
  have s2 := sk_le (h := h) (len := len) (Nat.zero_le len)
  have fault : ∀ (J : sm_MI) (p : Nat) (dg : Int32) (it : Nat → Int32), F (nI p) (cS J p dg it) L → sm_CI (n + 8) mX2_faultHere T (cS J p dg it) L [.ref 4] (fun r2 I1 L1 => F r2 I1 L1) := fun J p dg it hf => c_X2_faultHere_s hB hf
  refine c_X9_read hB (fun x hx => c_X2_begin_s hB ?_)
  have e0 : sm_uI I 4 1 0 = cS I 0 (I 4 4) (I 17) := by
    funext k j
    unfold sm_uI cS
    by_cases e : k = 4
    · subst e
      by_cases e1 : j = 1
      · subst e1; rfl
      · by_cases e4 : j = 4
        · subst e4; simp
        · simp [e1, e4]
    · by_cases e17 : k = 17
      · subst e17; simp
      · simp [e, e17]
  rw [e0]
  refine c_X8_clear hB ?_
  rw [cS_o (by decide), cS_o (by decide), cS_o (by decide), cS_o (by decide), cS_o (by decide), cS_o (by decide)]
  refine s_fill (t_14 hB) (t_15 hB) (by decide) ?_
  rw [cS_fl (by decide)]
  have f0 : Fr kDS I (sm_fill (sm_uI (sm_uI (sm_uI (sm_uI (sm_uI (sm_uI I 5 0 0) 5 1 0) 5 2 0) 5 3 0) 5 4 0) 5 5 0) 15 5 (fun _ => -1)) := ((((((Fr.rf.u rfl).u rfl).u rfl).u rfl).u rfl).u rfl).f (fun _ => rfl)
  have g1 : (sm_fill (sm_uI (sm_uI (sm_uI (sm_uI (sm_uI (sm_uI I 5 0 0) 5 1 0) 5 2 0) 5 3 0) 5 4 0) 5 5 0) 15 5 (fun _ => -1)) 5 1 = 0 := rfl
  have g2 : (sm_fill (sm_uI (sm_uI (sm_uI (sm_uI (sm_uI (sm_uI I 5 0 0) 5 1 0) 5 2 0) 5 3 0) 5 4 0) 5 5 0) 15 5 (fun _ => -1)) 5 2 = 0 := rfl
  have g3 : (sm_fill (sm_uI (sm_uI (sm_uI (sm_uI (sm_uI (sm_uI I 5 0 0) 5 1 0) 5 2 0) 5 3 0) 5 4 0) 5 5 0) 15 5 (fun _ => -1)) 5 3 = 0 := rfl
  have g4 : (sm_fill (sm_uI (sm_uI (sm_uI (sm_uI (sm_uI (sm_uI I 5 0 0) 5 1 0) 5 2 0) 5 3 0) 5 4 0) 5 5 0) 15 5 (fun _ => -1)) 5 4 = 0 := rfl
  have g5 : (sm_fill (sm_uI (sm_uI (sm_uI (sm_uI (sm_uI (sm_uI I 5 0 0) 5 1 0) 5 2 0) 5 3 0) 5 4 0) 5 5 0) 15 5 (fun _ => -1)) 5 5 = 0 := rfl
  have g15 : ∀ w, w < 5 → (sm_fill (sm_uI (sm_uI (sm_uI (sm_uI (sm_uI (sm_uI I 5 0 0) 5 1 0) 5 2 0) 5 3 0) 5 4 0) 5 5 0) 15 5 (fun _ => -1)) 15 w = -1 := by
    intro w hw
    unfold sm_fill
    rw [if_pos rfl, if_pos hw]
  generalize sm_fill (sm_uI (sm_uI (sm_uI (sm_uI (sm_uI (sm_uI I 5 0 0) 5 1 0) 5 2 0) 5 3 0) 5 4 0) 5 5 0) 15 5 (fun _ => -1) = J at f0 g1 g2 g3 g4 g5 g15 ⊢
  have hCJ : CTp h len J := CTp_fr hC f0 rfl (fun _ => rfl)
  unfold strP at hF
  have key : ∀ (HH : Nat), 2 ≤ HH → HH ≤ 8 → ∀ d i p dg it J st, i + d = 160 → 2 * i ≤ sk h len p → p ≤ len → Fr kDS I J → dD HH st J → fL HH st → dOKs F I L (match strL h len HH d p st with
      | .inl e => .inl e
      | .inr st => .inr (HH, st)) → sm_V x 0 0 T (cS J p dg it) L 48 [some (.ref 4), some (.int (nI i))] [] := by
    intro HH h2 h8 d
    induction d with
    | zero =>
      intro i p dg it J st e hi hp hf hD hL hF
      have s2 := sk_le (h := h) (len := len) hp
      exact absurd hi (by omega)
    | succ d ih =>
      intro i p dg it J st e hi hp hf hD hL hF
      have s1 := sk_ge (h := h) (len := len) p
      have s2 := sk_le (h := h) (len := len) hp
      have hCJ : CTp h len J := CTp_fr hC hf rfl (fun _ => rfl)
      rw [strL] at hF
      refine u_X9_read_48 hB hx ⟨fun q => absurd q (nI_ge (b := 160) (by omega) (by omega)), fun _ => d_take (n := n + 6) hB H hCJ hp (fun q => ⟨fun z => absurd z (by decide), fun _ => ?_⟩) (fun q => ⟨fun _ => d_next hB H hCJ s2 ?_, fun z => absurd z (by decide)⟩)⟩
      · rw [if_pos q] at hF
        have hlt := H.lt (p := sk h len p) (by rw [q]; decide)
        refine d_clause (n := n) hB H hCJ h2 h8 hD hL.1 hL.2.1 hL.2.2.2.2.1 (by omega) ?_
        have hE := clsS_ok H h2 hL (p := sk h len p + 1) (by omega)
        cases hq : clsS h len HH st (sk h len p + 1) with
        | inl e2 =>
          rw [hq] at hF
          exact fun dg it => ⟨fun z => absurd z (by decide), fun _ => fault _ _ _ _ (hF _ (kDS_cS hf))⟩
        | inr q2 =>
          rw [hq] at hF hE
          obtain ⟨k1, k2, k3⟩ := hE
          intro p' dg it I' hp' hsk hf' hD'
          refine ⟨fun _ => ?_, fun z => absurd z (by decide)⟩
          rw [nI_1]
          refine ih (i + 1) p' dg it I' q2.2 (by omega) (by rw [hsk]; omega) hp' (hf.tr (hf'.mono (fun k j => kDr_S))) hD' k3 ?_
          have e3 : strL h len HH d p' q2.2 = strL h len HH d q2.1 q2.2 := by rw [← strL_sk H, hsk]
          rw [e3]
          exact hF
      · rw [if_neg q] at hF
        rw [sk_sk H]
        have no : ¬ (h (sk h len p) = -1 ∧ st.1.length ≠ 0 ∧ st.2.1.length ≠ 0) → sm_V x 0 0 T (cS J (sk h len p) dg it) L 115 [some (.ref 4), some (.int (nI i))] [.int (sm_z false)] := by
          intro z
          rw [if_neg z] at hF
          exact u_X9_read_115 hB hx ⟨fun _ => fault _ _ _ _ (hF _ (kDS_cS hf)), fun y => absurd y (by decide)⟩
        have v1 : (cS J (sk h len p) dg it) 5 1 = nI st.1.length := hD.1.2.1
        have v2 : (cS J (sk h len p) dg it) 5 2 = nI st.2.1.length := hD.1.2.2.1
        have l5 := hL.1
        have l8 := hL.2.1
        refine ⟨fun z => no (fun y => z y.1), fun z => ⟨fun z2 => no (fun y => ?_), fun z2 => ⟨fun z3 => no (fun y => ?_), fun z3 => ?_⟩⟩⟩
        · rw [v1] at z2
          exact y.2.1 (Nat.le_zero.mp ((nI_leI (b := 0) (by omega) (by decide)).mp z2))
        · rw [v2] at z3
          exact y.2.2 (Nat.le_zero.mp ((nI_leI (b := 0) (by omega) (by decide)).mp z3))
        · rw [v1] at z2
          rw [v2] at z3
          have y : h (sk h len p) = -1 ∧ st.1.length ≠ 0 ∧ st.2.1.length ≠ 0 := ⟨z, fun e => z2 (by rw [e]; decide), fun e => z3 (by rw [e]; decide)⟩
          rw [if_pos y] at hF
          exact u_X9_read_115 hB hx ⟨fun w => absurd w (by decide), fun _ => hF _ (kDS_cS hf) ⟨hD.1, hD.2.1, hD.2.2.1, hD.2.2.2⟩⟩
  refine d_take (n := n + 6) hB H hCJ (Nat.zero_le _) (fun q => ⟨fun z => absurd z (by decide), fun _ => ?_⟩) (fun q => ⟨fun _ => ?_, fun z => absurd z (by decide)⟩)
  · rw [if_pos q] at hF
    have hlt := H.lt (p := sk h len 0) (by rw [q]; decide)
    refine d_digit (lo := 2) (hi := 8) (n := n + 6) hB H hCJ (by omega) (by decide) (by decide) ?_
    have hd := dgP_ok H (lo := 2) (hi := 8) (p := sk h len 0 + 1) (by omega)
    cases hq : dgP h len 2 8 (sk h len 0 + 1) with
    | inl e =>
      rw [hq] at hF
      exact fun dg => ⟨fun z => absurd z (by decide), fun _ => fault _ _ _ _ (hF _ (kDS_cS f0))⟩
    | inr q2 =>
      rw [hq] at hF hd
      obtain ⟨k1, k2, k3, k4, k5⟩ := hd
      refine ⟨fun _ => ?_, fun z => absurd z (by decide)⟩
      rw [cS_4, cS_o (by decide)]
      refine key q2.2 k3 k4 160 0 q2.1 _ _ _ ([], [], 0, 0) (by decide) (Nat.zero_le _) k2 (f0.u rfl) ⟨⟨?_, ?_, ?_, ?_, ?_⟩, fun t => ?_, fun w hw => absurd hw (Nat.not_lt_zero w), fun w hw => ?_⟩ fL_nil hF
      · rw [cuA]
      · rw [cuD (by omega)]; exact g1
      · rw [cuD (by omega)]; exact g2
      · rw [cuD (by omega)]; exact g4
      · rw [cuD (by omega)]; exact g5
      · rw [cuD (by omega), g3]
        show cU 8 0 t = if t < 0 then nI (([] : List Nat).getD t 0) else 0
        rw [if_neg (Nat.not_lt_zero t)]
        unfold cU
        by_cases e : t < 8
        · rw [if_pos e]
          apply b_ext
          intro i hi
          rw [bt_Pl _ e, b_0, Bool.false_and, b_0]
        · rw [if_neg e]
          by_cases e2 : t = 8
          · rw [if_pos e2]; rfl
          · rw [if_neg e2]
      · rw [cuD (by omega)]; exact g15 w hw
  · rw [if_neg q] at hF
    exact fault _ _ _ _ (hF _ (kDS_cS f0))
end
