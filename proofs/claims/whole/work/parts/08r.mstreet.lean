/-- the moon's two numbers -/
def kMn (k j : Nat) : Bool := Nat.beq k 76 && (Nat.beq j 22 || Nat.beq j 23)
theorem kMn_M {k j : Nat} (q : kMS k j = false) : kMn k j = false := by
  cases e : kMn k j with
  | false => rfl
  | true =>
    unfold kMn at e
    rw [Bool.and_eq_true, Bool.or_eq_true] at e
    obtain ⟨e1, e2 | e2⟩ := e
    · have e1 := Nat.eq_of_beq_eq_true e1
      have e2 := Nat.eq_of_beq_eq_true e2
      subst e1; subst e2; exact absurd q (by decide)
    · have e1 := Nat.eq_of_beq_eq_true e1
      have e2 := Nat.eq_of_beq_eq_true e2
      subst e1; subst e2; exact absurd q (by decide)
def nOKm (F : sm_MI → sm_ML → Prop) (I : sm_MI) (L : sm_ML) (h : Nat → Int32) : Nat ⊕ (Nat × (Nat → Nat)) → Prop
  | .inl e => ∀ I' a, Fr kMn I I' → F (nS I' a (nI e)) L
  | .inr q => ∀ I' wr, wS h wr q.1 → Fr kMn I I' → I' 76 22 = nI (q.2 0) → I' 76 23 = nI (q.2 1) → F (nS I' q.1 wr) L
section
variable {n : Nat} {T : List sm_Sh} {I I' : sm_MI} {L L' : sm_ML} {h : Nat → Int32} {len a p : Nat} {wr : Int32}
/-- which of the moon's letters stands here -/
theorem n_which {G : Int32 → sm_MI → sm_ML → Prop} (hB : sm_Bs T) (H : tpH h len) (hM : MTs h len I) (hp : p ≤ len) (hG : G (oN (itM (h (sk h len p)))) (nS I (sk h len p) wr) L) : sm_CI (n + 1) mX12_look T (nS I p wr) L [.ref 76] (fun r2 I1 L1 => (¬ r2 = 112 → sm_CI (n + 1) mX12_look T I1 L1 [.ref 76] (fun r4 I3 L3 => (¬ r4 = 103 → G (-1) I3 L3) ∧ (r4 = 103 → G 1 I3 L3))) ∧ (r2 = 112 → G 0 I1 L1)) := by
  have hl := H.1
  have s2 := sk_le (h := h) (len := len) hp
  unfold itM at hG
  refine n_look hB H hM (by omega) ⟨fun q => n_look hB H hM (by omega) ?_, fun q => ?_⟩
  · rw [sk_sk H]
    refine ⟨fun q2 => ?_, fun q2 => ?_⟩
    · rw [if_neg q, if_neg q2] at hG; exact hG
    · rw [if_neg q, if_pos q2] at hG; exact hG
  · rw [if_pos q] at hG; exact hG
/-- the moon's items -/
theorem n_moons {F : sm_MI → sm_ML → Prop} {x : sm_Cx} (hB : sm_Bs T) (H : tpH h len) (hx : sm_Ok x mX12_moonText (n + 4) (sm_KV T F)) :
    ∀ d p m v (I : sm_MI) wr u3, MTs h len I → len ≤ p + d → p ≤ len → m < 4 → wS h wr p → I 76 22 = nI (v 0) → I 76 23 = nI (v 1) → nOKm F I L h (itmP h len itM loM hiM d p m v) → sm_V x 0 0 T (nS I (sk h len p) wr) L 63 [some (.ref 76), some (.int (nI m)), some (.int (oN (itM (h (sk h len p))))), u3] [] := by
  have hl := H.1
  intro d
  induction d with
  | zero =>
    intro p m v I wr u3 hM hd hp hm hw hv0 hv1 hF
    have hme : h p = -1 := H.2.1 p (by omega)
    have hs : sk h len p = p := sk_stop (by rw [hme]; decide)
    have hF' : ∀ I' wr, wS h wr (sk h len p) → Fr kMn I I' → I' 76 22 = nI (v 0) → I' 76 23 = nI (v 1) → F (nS I' (sk h len p) wr) L := hF
    have wr1 : wr = -1 := hw.elim id (fun z => by rw [hme] at z; exact absurd z.2 (by decide))
    refine u_X12_moonText_63 hB hx ⟨fun q => absurd wr1 q, fun _ => ⟨fun _ => hF' I _ (Or.inl wr1) Fr.rf hv0 hv1, fun q => absurd ?_ q⟩⟩
    rw [hs, hme]; rfl
  | succ d ih =>
    intro p m v I wr u3 hM hd hp hm hw hv0 hv1 hF
    have s1 := sk_ge (h := h) (len := len) p
    have s2 := sk_le (h := h) (len := len) hp
    rcases hw with hw | ⟨hw, hdg⟩
    · subst hw
      rw [itmP] at hF
      refine u_X12_moonText_63 hB hx ⟨fun q => absurd rfl q, fun _ => ?_⟩
      cases hk : itM (h (sk h len p)) with
      | none =>
        rw [hk] at hF
        have hF' : ∀ I' wr, wS h wr (sk h len p) → Fr kMn I I' → I' 76 22 = nI (v 0) → I' 76 23 = nI (v 1) → F (nS I' (sk h len p) wr) L := hF
        exact ⟨fun _ => hF' I _ (Or.inl rfl) Fr.rf hv0 hv1, fun q => absurd rfl q⟩
      | some j =>
        rw [hk] at hF
        have hj := it_M hk
        have hj2 := hj.1
        have hlt := H.lt (p := sk h len p) (fun e => hj.2.1 e)
        obtain ⟨b3, b4, b5⟩ := tb_ok m (by omega) j (by omega)
        have hF' : nOKm F I L h (if m.testBit j = true then .inr (sk h len p, v) else (match dgP h len (loM j) (hiM j) (sk h len p + 1) with
          | .inl e => .inl e
          | .inr q => itmP h len itM loM hiM d q.1 (m ||| 2 ^ j) (updN v j q.2))) := hF
        refine ⟨fun q => absurd q (nI_m1 (by omega)), fun _ => n_has hB (by omega) (by omega) ⟨fun y => ?_, fun y => ?_⟩⟩
        · rw [if_pos y] at hF'
          exact hF' I _ (Or.inl rfl) Fr.rf hv0 hv1
        · have y' : ¬ m.testBit j = true := by rw [y]; decide
          rw [if_neg y'] at hF'
          rw [nS_3, nI_1, nS_a]
          have eo : oN (some j) = nI j := rfl
          rw [eo, b4]
          -- behind the digit
          have after : ∀ (a' : Nat) (wr' : Int32) (x1 x0 : Int32), a' ≤ len → ((∃ q, dgP h len (loM j) (hiM j) (sk h len p + 1) = .inr q ∧ q.1 = a' ∧ wS h wr' a' ∧ x1 = nI q.2 ∧ sk h len p + 1 < q.1) ∨ (∃ e, dgP h len (loM j) (hiM j) (sk h len p + 1) = .inl e ∧ wr' = nI e ∧ e ≤ len)) → (j = 0 → x0 = x1) → (j ≠ 0 → x0 = I 76 22) → sm_V x 0 0 T (nS I a' wr') L 129 [some (.ref 76), some (.int (nI (m ||| 2 ^ j))), some (.int (nI j)), some (.int x1)] [.int x0, .ref 76] := by
            intro a' wr' x1 x0 ha' hcase hx0 hx1
            have end63 : ∀ J, Fr kMn I J → J 76 22 = (if j = 0 then x1 else nI (v 0)) → J 76 23 = (if j = 0 then nI (v 1) else x1) → sm_V x 0 0 T (nS J (sk h len a') wr') L 63 [some (.ref 76), some (.int (nI (m ||| 2 ^ j))), some (.int (oN (itM (h (sk h len a'))))), some (.int x1)] [] := by
              intro J fJ j1 j2
              rcases hcase with ⟨q, hq, g1, g2, g3, g5⟩ | ⟨e, hq, g1, g2⟩
              · rw [hq] at hF'
                have hF2 : nOKm F I L h (itmP h len itM loM hiM d q.1 (m ||| 2 ^ j) (updN v j q.2)) := hF'
                rw [g1] at hF2
                refine ih a' (m ||| 2 ^ j) (updN v j q.2) J wr' _ (MTs_fr hM fJ rfl (fun _ => rfl)) (by omega) ha' ((fu_pg m hm).2 j hj2) g2 ?_ ?_ ?_
                · rw [j1, g3]; unfold updN
                  by_cases e : j = 0
                  · rw [if_pos e, if_pos e.symm]
                  · rw [if_neg e, if_neg (fun z => e z.symm)]
                · rw [j2, g3]; unfold updN
                  by_cases e : j = 0
                  · rw [if_pos e, if_neg (by omega)]
                  · rw [if_neg e, if_pos (by omega)]
                · cases hr : itmP h len itM loM hiM d a' (m ||| 2 ^ j) (updN v j q.2) with
                  | inl e => rw [hr] at hF2; exact fun I' a f => hF2 I' a (fJ.tr f)
                  | inr r => rw [hr] at hF2; exact fun I' wr w f g => hF2 I' wr w (fJ.tr f) g
              · rw [hq] at hF'
                have hF2 : ∀ I' a, Fr kMn I I' → F (nS I' a (nI e)) L := hF'
                subst g1
                exact u_X12_moonText_63 hB hx ⟨fun _ => hF2 _ _ fJ, fun z => absurd z (nI_m1 (by omega))⟩
            refine u_X12_moonText_129 hB hx ⟨fun q I1 h1 => ?_, fun q => ?_⟩
            · have ej : j = 0 := by
                have : j ≠ 1 := fun e => q (by rw [e]; rfl)
                omega
              rw [nS_o (by decide)] at h1
              subst h1
              rw [nS_o (by decide), show (nS (sm_uI I 76 22 x0) a' wr') 76 23 = I 76 23 from rfl]
              have fJ : Fr kMn I (sm_uI (sm_uI I 76 22 x0) 76 23 (I 76 23)) := (Fr.rf.u rfl).u rfl
              have he := end63 _ fJ (by rw [cuD (by omega), cuA, if_pos ej, hx0 ej]) (by rw [cuA, if_pos ej, hv1])
              exact n_which (n := n + 2) (G := fun r I1 L1 => sm_V x 0 0 T I1 L1 63 [some (.ref 76), some (.int (nI (m ||| 2 ^ j))), some (.int r), some (.int x1)] []) hB H (MTs_fr hM fJ rfl (fun _ => rfl)) ha' he
            · have ej : j = 1 := (nI_eq (a := j) (b := 1) (by omega) (by decide)).mp q
              rw [nS_o (by decide), nS_o (by decide)]
              have fJ : Fr kMn I (sm_uI (sm_uI I 76 22 x0) 76 23 x1) := (Fr.rf.u rfl).u rfl
              have he := end63 _ fJ (by rw [cuD (by omega), cuA, if_neg (by omega), hx1 (by omega), hv0]) (by rw [cuA, if_neg (by omega)])
              exact n_which (n := n + 2) (G := fun r I1 L1 => sm_V x 0 0 T I1 L1 63 [some (.ref 76), some (.int (nI (m ||| 2 ^ j))), some (.int r), some (.int x1)] []) hB H (MTs_fr hM fJ rfl (fun _ => rfl)) ha' he
          have hd2 := dgP_ok H (lo := loM j) (hi := hiM j) (p := sk h len p + 1) (by omega)
          have pick : ∀ x1 : Int32, ∃ x0 : Int32, (j = 0 → x0 = x1) ∧ (j ≠ 0 → x0 = I 76 22) := fun x1 => by
            by_cases e : j = 0
            · exact ⟨x1, fun _ => rfl, fun z => absurd e z⟩
            · exact ⟨I 76 22, fun z => absurd z e, fun _ => rfl⟩
          -- the digit, then that
          have dig : ∀ (G : Int32 → sm_MI → sm_ML → Prop), (∀ (a' : Nat) (wr' x1 x0 : Int32), (j = 0 → x0 = x1) → (j ≠ 0 → x0 = I 76 22) → (sm_V x 0 0 T (nS I a' wr') L 129 [some (.ref 76), some (.int (nI (m ||| 2 ^ j))), some (.int (nI j)), some (.int x1)] [.int x0, .ref 76]) → G x1 (nS I a' wr') L) → sm_CI (n + 3) mX12_digit T (nS I (sk h len p + 1) (-1)) L [.ref 76, .int (nI (loM j)), .int (nI (hiM j))] G := by
            intro G hG
            refine n_digit (lo := loM j) (hi := hiM j) (n := n + 1) hB H hM (by omega) (show loM j ≤ 9 by unfold loM; split <;> omega) (show hiM j ≤ 9 by unfold hiM; omega) ?_
            cases hq : dgP h len (loM j) (hiM j) (sk h len p + 1) with
            | inl e =>
              rw [hq] at hd2
              have he : e ≤ len := hd2
              intro r
              obtain ⟨x0, p1, p2⟩ := pick r
              exact hG e (nI e) r x0 p1 p2 (after e (nI e) r x0 he (Or.inr ⟨e, hq, rfl, he⟩) p1 p2)
            | inr q =>
              rw [hq] at hd2
              obtain ⟨d1, d2, d3, d4, d5⟩ := hd2
              intro wr' hwr'
              obtain ⟨x0, p1, p2⟩ := pick (nI q.2)
              exact hG q.1 wr' (nI q.2) x0 p1 p2 (after q.1 wr' (nI q.2) x0 d2 (Or.inl ⟨q, hq, rfl, hwr', rfl, d1⟩) p1 p2)
          refine ⟨fun q0 => ?_, fun q0 => ?_⟩
          · have j0 : j ≠ 0 := fun e => q0 (by rw [e]; rfl)
            have j1 : j = 1 := by omega
            have e1 : (nI (loM j), nI (hiM j)) = ((0 : Int32), (9 : Int32)) := by rw [j1]; rfl
            rw [Prod.mk.injEq] at e1
            have := dig (fun r4 I3 L3 => (¬ nI j = 0 → sm_V x 0 0 T I3 L3 129 [some (.ref 76), some (.int (nI (m ||| 2 ^ j))), some (.int (nI j)), some (.int r4)] [.int (I3 76 22), .ref 76]) ∧ (nI j = 0 → sm_V x 0 0 T I3 L3 129 [some (.ref 76), some (.int (nI (m ||| 2 ^ j))), some (.int (nI j)), some (.int r4)] [.int r4, .ref 76])) (fun a' wr' x1 x0 p1 p2 k => ⟨fun z => by rw [p2 j0] at k; exact k, fun z => absurd z q0⟩)
            rw [e1.1, e1.2] at this
            exact this
          · have j0 : j = 0 := (nI_eq (a := j) (b := 0) (by omega) (by decide)).mp q0
            have e1 : (nI (loM j), nI (hiM j)) = ((2 : Int32), (9 : Int32)) := by rw [j0]; rfl
            rw [Prod.mk.injEq] at e1
            have := dig (fun r4 I3 L3 => (¬ nI j = 0 → sm_V x 0 0 T I3 L3 129 [some (.ref 76), some (.int (nI (m ||| 2 ^ j))), some (.int (nI j)), some (.int r4)] [.int (I3 76 22), .ref 76]) ∧ (nI j = 0 → sm_V x 0 0 T I3 L3 129 [some (.ref 76), some (.int (nI (m ||| 2 ^ j))), some (.int (nI j)), some (.int r4)] [.int r4, .ref 76])) (fun a' wr' x1 x0 p1 p2 k => ⟨fun z => absurd q0 z, fun z => by rw [p1 j0] at k; exact k⟩)
            rw [e1.1, e1.2] at this
            exact this
    · have hs : sk h len p = p := sk_stop (fun e => by rw [e] at hdg; exact absurd hdg (by decide))
      rw [itm_dig (fun x hx => itM_D hx) hdg] at hF
      have hF' : ∀ I' wr, wS h wr p → Fr kMn I I' → I' 76 22 = nI (v 0) → I' 76 23 = nI (v 1) → F (nS I' p wr) L := hF
      rw [hs]
      refine u_X12_moonText_63 hB hx ⟨fun _ => hF' I _ (Or.inr ⟨hw, hdg⟩) Fr.rf hv0 hv1, fun q => absurd q ?_⟩
      rw [nS_4, hw]
      exact nI_m1 (by omega)
end
