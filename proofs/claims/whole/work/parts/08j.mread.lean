/-! ===== the model reads a clause, a rule ===== -/
theorem cuN {I : sm_MI} {k j a b : Nat} {v : Int32} (h : a ≠ k) : sm_uI I k j v a b = I a b := by unfold sm_uI; simp [h]
theorem cuA {I : sm_MI} {k j : Nat} {v : Int32} : sm_uI I k j v k j = v := by unfold sm_uI; simp
theorem cuD {I : sm_MI} {k j a b : Nat} {v : Int32} (h : ¬ (a = k ∧ b = j)) : sm_uI I k j v a b = I a b := by
  unfold sm_uI
  by_cases e : a = k
  · subst e
    by_cases e2 : b = j
    · exact absurd ⟨rfl, e2⟩ h
    · simp [e2]
  · simp [e]
/-- what a clause of text t may touch beside the reader -/
def mcX (t cl : Nat) (I J : sm_MI) : Prop := ∀ k j, ¬ (k = 81 ∧ j = t) → ¬ ((k = 82 ∨ k = 83 ∨ k = 84) ∧ j = 90 * t + cl) → J k j = I k j
theorem mcX_r {t cl : Nat} {I : sm_MI} : mcX t cl I I := fun _ _ _ _ => rfl
theorem mcX_w {t cl k i : Nat} {I J : sm_MI} {v : Int32} (h : mcX t cl I J) (hk : (k = 81 ∧ i = t) ∨ ((k = 82 ∨ k = 83 ∨ k = 84) ∧ i = 90 * t + cl)) : mcX t cl I (sm_uI J k i v) := by
  intro x j h1 h2
  have : ¬ (x = k ∧ j = i) := fun ⟨a, b⟩ => by
    subst a; subst b
    exact hk.elim h1 h2
  rw [cuD this]
  exact h x j h1 h2
theorem MTp_x {h : Nat → Int32} {len t cl : Nat} {I J : sm_MI} (hM : MTp h len t I) (hx : mcX t cl I J) : MTp h len t J := by
  obtain ⟨h1, h2, h3, h4⟩ := hM
  have e : ∀ k j, k ≠ 81 → k ≠ 82 → k ≠ 83 → k ≠ 84 → J k j = I k j := fun k j a b c d => hx k j (fun q => a q.1) (fun q => by rcases q.1 with r | r | r <;> simp_all)
  exact ⟨(e 76 2 (by decide) (by decide) (by decide) (by decide)).trans h1, fun j hj => (e 77 j (by decide) (by decide) (by decide) (by decide)).trans (h2 j hj), (e 76 14 (by decide) (by decide) (by decide) (by decide)).trans h3, h4⟩
/-- what the model does behind a clause -/
def mOKc (F : sm_MI → sm_ML → Prop) (I : sm_MI) (L : sm_ML) (t cl c : Nat) (f g : Nat → Int32) : Nat ⊕ (Nat × clT) → Prop
  | .inl e => ∀ J a' dp' c' f' g', mcX t cl I J → F (mS J t a' (nI e) dp' c' f' g') L
  | .inr q => ∀ J, mcX t cl I J → J 81 t = nI (cl + 1) → J 82 (90 * t + cl) = nI c → J 83 (90 * t + cl) = nI (c + (clC q.2).length) → J 84 (90 * t + cl) = nI (c + (clC q.2).length + q.2.2.1.length) →
      F (mS J t q.1 (-1) 0 (c + (clC q.2).length + q.2.2.1.length) (wrG mKd (wrG mKd f c (clC q.2)) (c + (clC q.2).length) q.2.2.1) (wrG mNv (wrG mNv g c (clC q.2)) (c + (clC q.2).length) q.2.2.1)) L
section
variable {n : Nat} {T : List sm_Sh} {I I' J : sm_MI} {L L' : sm_ML} {h : Nat → Int32} {len t a c B s p cl : Nat} {wr dp : Int32} {f g : Nat → Int32}
theorem mS_k {k j : Nat} (hk : k ≠ 76 ∧ k ≠ 78 ∧ k ≠ 79 ∧ k ≠ 80) : (mS I t a wr dp c f g) k j = I k j := by
  unfold mS
  simp [hk.1, hk.2.1, hk.2.2.1, hk.2.2.2]
/-- the clause's end: its sum's place, one clause more -/
theorem m_end {F : sm_MI → sm_ML → Prop} {ix : Nat} (hix : ix = 90 * t + cl) (hM : MTp h len t J) (hx : mcX t cl I J) (hcl : cl < 90) (h81 : J 81 t = nI cl) (hF : ∀ J', mcX t cl I J' → J' 81 t = nI (cl + 1) → J' 82 (90 * t + cl) = J 82 (90 * t + cl) → J' 83 (90 * t + cl) = J 83 (90 * t + cl) → J' 84 (90 * t + cl) = nI c → F (mS J' t a wr dp c f g) L) :
    vp_in ((mS J t a wr dp c f g) 76 14) 6 ∧ (vp_in (nI (90 * t + cl)) 540 ∧ (∀ I2 : sm_MI, I2 = (sm_uI (mS J t a wr dp c f g) 84 ix ((mS J t a wr dp c f g) 80 (Int32.toNatClampNeg (((mS J t a wr dp c f g) 76 14))))) → vp_in (I2 76 14) 6 ∧ (vp_in (I2 76 14) 6 ∧ (F (sm_uI I2 81 (Int32.toNatClampNeg ((I2 76 14))) ((I2 81 (Int32.toNatClampNeg ((I2 76 14)))) + 1)) L)))) := by
  have ht := hM.2.2.2
  have e14 : ∀ (J : sm_MI), J 76 14 = nI t → (mS J t a wr dp c f g) 76 14 = nI t := fun _ e => e
  subst hix
  rw [e14 J hM.2.2.1, nI_clamp (by omega), mS_80]
  refine ⟨vp_in_nI ht (by decide), vp_in_nI (by omega) (by decide), fun I2 h2 => ?_⟩
  rw [mS_o (by decide)] at h2
  subst h2
  have h14 : (sm_uI J 84 (90 * t + cl) (nI c)) 76 14 = nI t := (cuN (by omega)).trans hM.2.2.1
  rw [e14 _ h14, nI_clamp (by omega), mS_k (by decide), mS_o (by decide), cuN (by omega), h81, nI_1]
  refine ⟨vp_in_nI ht (by decide), vp_in_nI ht (by decide), hF _ (mcX_w (mcX_w hx (Or.inr ⟨by decide, rfl⟩)) (Or.inl ⟨rfl, rfl⟩)) (cuA) ?_ ?_ ?_⟩
  · rw [cuN (by omega), cuN (by omega)]
  · rw [cuN (by omega), cuN (by omega)]
  · rw [cuN (by omega), cuA]
/-- an end behind a fault -/
theorem m_endf {F : sm_MI → sm_ML → Prop} {e : Nat} (hB : sm_Bs T) {x : sm_Cx} (hx : sm_Ok x mX12_clause (n + 1) (sm_KV T F)) (hM : MTp h len t I) (hcl : cl < 90) (hY : mcX t cl I J) (h81 : J 81 t = nI cl) (he : nI e ≠ -1) {b : Bool} (hF : ∀ J' : sm_MI, mcX t cl I J' → F (mS J' t a (nI e) dp c f g) L) :
    sm_V x 0 0 T (mS J t a (nI e) dp c f g) L 183 [some (.ref 76), some (.int (nI (90 * t + cl))), some (.int (sm_z b))] [] := by
  have ht := hM.2.2.2
  have hMJ := MTp_x hM hY
  have hv : vp_in (nI (90 * t + cl)) 540 := vp_in_nI (by omega) (by decide)
  have step : ∀ (I1 : sm_MI), I1 = (sm_uI (mS J t a (nI e) dp c f g) 83 (Int32.toNatClampNeg (nI (90 * t + cl))) ((mS J t a (nI e) dp c f g) 82 (Int32.toNatClampNeg (nI (90 * t + cl))))) → ∃ J1, I1 = mS J1 t a (nI e) dp c f g ∧ mcX t cl I J1 ∧ J1 81 t = nI cl := by
    intro I1 h1
    rw [nI_clamp (by omega), mS_o (by decide)] at h1
    exact ⟨_, h1, mcX_w hY (Or.inr ⟨by decide, rfl⟩), (cuN (by omega)).trans h81⟩
  refine u_X12_clause_183 hB hx ⟨hv, hv, fun _ I1 h1 => ?_, fun _ I3 h3 => ⟨fun _ => ?_, fun q => ?_⟩⟩
  · obtain ⟨J1, e1, y1, y2⟩ := step I1 h1
    subst e1
    exact m_end (nI_clamp (by omega)) (MTp_x hM y1) y1 hcl y2 (fun J' z _ _ _ _ => hF J' z)
  · obtain ⟨J1, e1, y1, y2⟩ := step I3 h3
    subst e1
    exact m_end (nI_clamp (by omega)) (MTp_x hM y1) y1 hcl y2 (fun J' z _ _ _ _ => hF J' z)
  · obtain ⟨J1, e1, y1, y2⟩ := step I3 h3
    subst e1
    exact absurd q he
/-- a condition read: its sum -/
theorem m_cl2 {F : sm_MI → sm_ML → Prop} {P : PRt} {q0 m : Nat} (hB : sm_Bs T) (H : tpH h len) {x : sm_Cx} (hx : sm_Ok x mX12_clause (n + 25) (sm_KV T F)) (hM : MTp h len t I) (hcl : cl < 90) (hY : mcX t cl I J) (h81 : J 81 t = nI cl) (h82 : J 82 (90 * t + cl) = nI c) (hc : c ≤ q0) (hP : PK len q0 m true P) (hF : mOKc F I L t cl c f g (cl2P h len P)) :
    mOK (fun I1 L1 => sm_V x 0 0 T I1 L1 183 [some (.ref 76), some (.int (nI (90 * t + cl))), some (.int (sm_z true))] []) J L t 0 167 0 c f g P := by
  have hl := H.1
  have ht := hM.2.2.2
  have hMJ := MTp_x hM hY
  cases P with
  | inl e =>
    have he : e ≤ len := hP
    exact fun a' dp' c' f' g' ha hc' => m_endf hB hx hM hcl hY h81 (nI_m1 (by omega)) (fun J' z => hF J' _ _ _ _ _ z)
  | inr q =>
    obtain ⟨e1, e2, e3, _, _, _⟩ := hP
    have s1 := sk_ge (h := h) (len := len) q.1
    have s2 := sk_le (h := h) (len := len) e2
    have hv : vp_in (nI (90 * t + cl)) 540 := vp_in_nI (by omega) (by decide)
    refine u_X12_clause_183 hB hx ⟨hv, hv, fun z => absurd z (by decide), fun _ I3 h3 => ?_⟩
    rw [nI_clamp (by omega), mS_o (by decide), mS_k (by decide), h82] at h3
    have y1 : mcX t cl I (sm_uI J 83 (90 * t + cl) (nI c)) := mcX_w hY (Or.inr ⟨by decide, rfl⟩)
    have y2 : (sm_uI J 83 (90 * t + cl) (nI c)) 81 t = nI cl := (cuN (by omega)).trans h81
    have y3 : (sm_uI J 83 (90 * t + cl) (nI c)) 82 (90 * t + cl) = nI c := (cuN (by omega)).trans h82
    generalize hJ1 : sm_uI J 83 (90 * t + cl) (nI c) = J1 at h3 y1 y2 y3
    subst h3
    have hM1 := MTp_x hM y1
    refine ⟨fun z => absurd rfl z, fun _ => m_look hB H hM1 (by omega) ⟨fun g1 I7 h7 => ?_, fun g1 => ?_⟩⟩
    · rw [mS_3, nI_1, mS_a] at h7
      subst h7
      rw [cl2P, if_pos g1] at hF
      have hlt := H.lt (p := sk h len q.1) (by rw [g1]; decide)
      have e14 : ∀ (a c : Nat) (wr dp : Int32) (f g : Nat → Int32), (mS J1 t a wr dp c f g) 76 14 = nI t := fun _ _ _ _ _ _ => hM1.2.2.1
      rw [e14, nI_clamp (by omega), nI_clamp (by omega), mS_80, mS_o (by decide)]
      refine ⟨vp_in_nI ht (by decide), hv, ?_⟩
      have z1 : mcX t cl I (sm_uI J1 83 (90 * t + cl) (nI (c + q.2.1.length))) := mcX_w y1 (Or.inr ⟨by decide, rfl⟩)
      have z2 : (sm_uI J1 83 (90 * t + cl) (nI (c + q.2.1.length))) 81 t = nI cl := (cuN (by omega)).trans y2
      have z3 : (sm_uI J1 83 (90 * t + cl) (nI (c + q.2.1.length))) 82 (90 * t + cl) = nI c := (cuN (by omega)).trans y3
      have z4 : (sm_uI J1 83 (90 * t + cl) (nI (c + q.2.1.length))) 83 (90 * t + cl) = nI (c + q.2.1.length) := cuA
      generalize hJ2 : sm_uI J1 83 (90 * t + cl) (nI (c + q.2.1.length)) = J2 at z1 z2 z3 z4 ⊢
      have hM2 := MTp_x hM z1
      have hsum := m_sumK (n := n) (L := L) hB H hM2 6 (by decide)
      refine hsum _ _ 0 _ _ _ (by omega) (by omega) ?_
      have hE2 := (PK_sum H 6).2.2 (sk h len q.1 + 1) (by omega)
      have hF' : mOKc F I L t cl c f g (match sumK h len 6 (sk h len q.1 + 1) with
        | .inl e => .inl e
        | .inr z => .inr (z.1, (some q.2, z.2))) := hF
      cases hq : sumK h len 6 (sk h len q.1 + 1) with
      | inl e =>
        rw [hq] at hF'
        intro a' dp' c' f' g' _ _
        have := m_end (I := I) (L := L) (a := a') (c := c') (wr := nI e) (dp := dp') (f := f') (g := g') (F := F) rfl hM2 z1 hcl z2 (fun J' z _ _ _ _ => hF' J' _ _ _ _ _ z)
        exact this
      | inr z =>
        rw [hq] at hF' hE2
        have := m_end (I := I) (L := L) (a := z.1) (c := c + q.2.1.length + z.2.1.length) (wr := -1) (dp := 0) (f := wrG mKd (wrG mKd f c q.2.1) (c + q.2.1.length) z.2.1) (g := wrG mNv (wrG mNv g c q.2.1) (c + q.2.1.length) z.2.1) (F := F) rfl hM2 z1 hcl z2 (fun J' w w1 w2 w3 w4 => hF' J' w w1 (w2.trans z3) (w3.trans z4) w4)
        exact this
    · rw [cl2P, if_neg g1] at hF
      exact m_bad hB (hF J1 _ _ _ _ _ y1)
theorem m_clause {F : sm_MI → sm_ML → Prop} (hB : sm_Bs T) (H : tpH h len) (hM : MTp h len t I) (hcl : cl < 90) (h81 : I 81 t = nI cl) (hp : p ≤ len) (hc : c ≤ p) (hF : mOKc F I L t cl c f g (clauseP h len p)) : sm_CV (n + 36) mX12_clause T (mS I t p (-1) 0 c f g) L [.ref 76] F := by
  have hl := H.1
  have ht := hM.2.2.2
  have s1 := sk_ge (h := h) (len := len) p
  have s2 := sk_le (h := h) (len := len) hp
  have e14 : ∀ (a c : Nat) (wr dp : Int32) (f g : Nat → Int32), (mS I t a wr dp c f g) 76 14 = nI t := fun _ _ _ _ _ _ => hM.2.2.1
  unfold clauseP at hF
  refine c_X12_clause hB (fun x hx => ?_)
  have hv : vp_in (nI (90 * t + cl)) 540 := vp_in_nI (by omega) (by decide)
  have lost : ∀ (a e : Nat), e ≤ len → F (mS I t (a + 1) (nI e) 0 c f g) L → sm_V x 0 0 T (mS I t a (nI e) 0 c f g) L 70 [some (.ref 76), some (.int (nI (90 * t + cl))), none] [] := by
    intro a e he hf
    refine u_X12_clause_70 hB hx (fun I1 h1 => ?_)
    rw [mS_3, nI_1, mS_a] at h1
    subst h1
    exact ⟨fun q => absurd q (nI_m1 (by omega)), fun _ => hf⟩
  rw [e14, nI_clamp (by omega), mS_k (by decide), h81]
  refine ⟨vp_in_nI ht (by decide), fun v1 hv1 => ?_⟩
  have ei : (90 : Int32) * nI t + nI cl = nI (90 * t + cl) := by
    have e1 : (90 : Int32) * nI t = nI (90 * t) := pk_mul 90 t
    rw [e1, nI_add]
  rw [ei] at hv1
  subst hv1
  refine ⟨fun q => absurd rfl q, fun _ => m_look hB H hM (by omega) ⟨fun g1 I8 h8 => ?_, fun g1 => m_bad hB (fun I13 h13 => ?_)⟩⟩
  · rw [if_pos g1] at hF
    have hlt := H.lt (p := sk h len p) (by rw [g1]; decide)
    have s3 := sk_ge (h := h) (len := len) (sk h len p + 1)
    have s4 := sk_le (h := h) (len := len) (show sk h len p + 1 ≤ len by omega)
    rw [mS_3, nI_1, mS_a] at h8
    subst h8
    refine ⟨fun q => absurd rfl q, fun _ => m_look hB H hM (by omega) ⟨fun g2 => ?_, fun g2 => m_bad hB ?_⟩⟩
    · rw [if_pos g2] at hF
      have hlt2 := H.lt (p := sk h len (sk h len p + 1)) (by rw [g2]; decide)
      refine u_X12_clause_70 hB hx (fun I1 h1 => ?_)
      rw [mS_3, nI_1, mS_a] at h1
      subst h1
      generalize hp2 : sk h len (sk h len p + 1) + 1 = p2 at hF ⊢
      have s5 := sk_ge (h := h) (len := len) p2
      have s6 := sk_le (h := h) (len := len) (show p2 ≤ len by omega)
      have ss := sk_sk H p2
      refine ⟨fun _ => ?_, fun q => absurd rfl q⟩
      rw [e14, nI_clamp (by omega), nI_clamp (by omega), mS_80, mS_o (by decide)]
      refine ⟨vp_in_nI ht (by decide), hv, ?_⟩
      have y1 : mcX t cl I (sm_uI I 82 (90 * t + cl) (nI c)) := mcX_w mcX_r (Or.inr ⟨by decide, rfl⟩)
      have y2 : (sm_uI I 82 (90 * t + cl) (nI c)) 81 t = nI cl := (cuN (by omega)).trans h81
      have y3 : (sm_uI I 82 (90 * t + cl) (nI c)) 82 (90 * t + cl) = nI c := cuA
      generalize hJ1 : sm_uI I 82 (90 * t + cl) (nI c) = J1 at y1 y2 y3 ⊢
      have hM1 := MTp_x hM y1
      unfold cl1P at hF
      have PKu : ∀ p, p ≤ len → PK len p 16 true (unK h len 6 p) := fun p hp => (PK_unit H 6).2 p hp
      have PKs : ∀ p, p ≤ len → PK len p 15 false (sumK h len 6 p) := fun p hp => (PK_sum H 6).2.2 p hp
      have hun : ∀ n, mEl T J1 L len t (n + 31 + 1) 0 167 mX12_unit (unK h len 6) := fun n => m_unitK hB H hM1 6 n (by decide)
      -- a condition from its first sign
      have cond : h (sk h len p2) = 33 ∨ h (sk h len p2) = 40 → sm_V x 0 0 T (mS J1 t (sk h len p2) (-1) 0 c f g) L 127 [some (.ref 76), some (.int (nI (90 * t + cl))), none] [.int (sm_z true)] := by
        intro hcn
        rw [if_pos hcn] at hF
        refine u_X12_clause_127 hB hx ⟨fun z => absurd z (by decide), fun _ => ?_⟩
        have hcd := m_condition (n := n) (N := 31) (L := L) hB H hM1 (by omega) (by omega) (by decide) hun PKu
        refine hcd _ _ 0 _ _ _ s6 (by omega) ?_
        exact m_cl2 (n := n + 11) (m := 18) hB H hx hM hcl y1 y2 y3 (show c ≤ sk h len p2 by omega) (PK_cndF H PKu (by decide) (PKu _ s6)) hF
      refine m_look hB H hM1 (by omega) ⟨fun g3 => cond (Or.inl g3), fun g3 => m_look hB H hM1 (by omega) ?_⟩
      rw [ss]
      refine ⟨fun g4 => ?_, fun g4 => cond (Or.inr g4)⟩
      rw [if_neg (fun y => y.elim g3 g4)] at hF
      refine u_X12_clause_127 hB hx ⟨fun _ => ?_, fun z => absurd z (by decide)⟩
      have hsum := m_sumK (n := n + 11) (L := L) hB H hM1 6 (by decide)
      refine hsum _ _ 0 _ _ _ s6 (by omega) ?_
      have hE := PKs (sk h len p2) s6
      cases hq : sumK h len 6 (sk h len p2) with
      | inl e =>
        rw [hq] at hF hE
        have he : e ≤ len := hE
        exact fun a' dp' c' f' g' _ _ => ⟨fun _ => m_endf hB hx hM hcl y1 y2 (nI_m1 (by omega)) (fun J' z => hF J' _ _ _ _ _ z), fun z => absurd z (nI_m1 (by omega))⟩
      | inr q =>
        rw [hq] at hF hE
        obtain ⟨e1, e2, e3, e4, e5, e6⟩ := hE
        have s7 := sk_ge (h := h) (len := len) q.1
        have s8 := sk_le (h := h) (len := len) e2
        have ss2 := sk_sk H q.1
        have hF' : mOKc F I L t cl c f g (if isR (h (sk h len q.1)) = true then cl2P h len (cndF h len (unK h len 6) (cmpP h len (sumK h len 6) (.inr q))) else .inr (sk h len q.1, (none, q.2))) := hF
        refine ⟨fun z => absurd rfl z, fun _ => m_look hB H hM1 (by omega) (m_isSign hB ⟨fun y => ?_, fun y => ?_⟩)⟩
        · have y' : ¬ isR (h (sk h len q.1)) = true := by rw [y]; decide
          rw [if_neg y'] at hF'
          refine u_X12_clause_183 hB hx ⟨hv, hv, fun _ I1 h1 => ?_, fun z => absurd z (by decide)⟩
          rw [nI_clamp (by omega), mS_o (by decide), mS_k (by decide), y3] at h1
          subst h1
          have z1 : mcX t cl I (sm_uI J1 83 (90 * t + cl) (nI c)) := mcX_w y1 (Or.inr ⟨by decide, rfl⟩)
          have z2 : (sm_uI J1 83 (90 * t + cl) (nI c)) 81 t = nI cl := (cuN (by omega)).trans y2
          have z3 : (sm_uI J1 83 (90 * t + cl) (nI c)) 82 (90 * t + cl) = nI c := (cuN (by omega)).trans y3
          have z4 : (sm_uI J1 83 (90 * t + cl) (nI c)) 83 (90 * t + cl) = nI c := cuA
          generalize hJ2 : sm_uI J1 83 (90 * t + cl) (nI c) = J2 at z1 z2 z3 z4 ⊢
          exact m_end (nI_clamp (by omega)) (MTp_x hM z1) z1 hcl z2 (fun J' w w1 w2 w3 w4 => hF' J' w w1 (w2.trans z3) (w3.trans z4) w4)
        · rw [if_pos y] at hF'
          have hq' : PK len (sk h len p2) 15 false (.inr (sk h len q.1, q.2)) := ⟨by show sk h len p2 < sk h len q.1; omega, s8, by show sk h len p2 + q.2.1.length ≤ sk h len q.1; omega, e4, e5, e6⟩
          have hcmp : cmpP h len (sumK h len 6) (.inr (sk h len q.1, q.2)) = cmpP h len (sumK h len 6) (.inr q) := by
            rw [cmpP, cmpP]
            rw [show (sk h len q.1, q.2).1 = sk h len q.1 from rfl, ss2]
          have hPc : PK len (sk h len p2) 16 true (cmpP h len (sumK h len 6) (.inr q)) := PK_cmp (m := 15) H PKs (by decide) ⟨e1, e2, e3, e4, e5, e6⟩
          have hsum2 := m_sumK (n := n + 10) (L := L) hB H hM1 6 (by decide)
          refine m_cmp (n := n + 33) (m := 15) (q0 := sk h len p2) (q := (sk h len q.1, q.2)) (s := 0) (B := 167) hB H hM1 (by omega) (by omega) (by omega) hsum2 PKs hq' ?_
          rw [hcmp]
          have hh := m_cndF (n := n + 1) (N := 31) (m := 16) (q0 := sk h len p2) (s := 0) (B := 167) (c := c) (f := f) (g := g) (F := fun I8 L8 => sm_V x 0 0 T I8 L8 183 [some (.ref 76), some (.int (nI (90 * t + cl))), some (.int (sm_z true))] []) hB H hM1 (by omega) (by omega) (by decide) (by omega) hun PKu hPc (m_cl2 (n := n + 11) (m := 18) (q0 := sk h len p2) hB H hx hM hcl y1 y2 y3 (by omega) (PK_cndF H PKu (by decide) hPc) hF')
          exact hh
    · rw [if_neg g2] at hF
      exact lost _ _ s4 (hF I _ _ _ _ _ mcX_r)
  · rw [if_neg g1] at hF
    rw [mS_3, nI_1, mS_a] at h13
    subst h13
    exact ⟨fun _ => lost _ _ s2 (hF I _ _ _ _ _ mcX_r), fun q => absurd q (nI_m1 (by omega))⟩
end
