/-! ===== the model reads a rule ===== -/
def totL : List clT → Nat
  | [] => 0
  | q :: r => (clC q).length + q.2.1.length + totL r
theorem totL_app : ∀ (a b : List clT), totL (a ++ b) = totL a + totL b
  | [], b => by rw [List.nil_append, totL]; omega
  | q :: r, b => by rw [List.cons_append, totL, totL, totL_app r b]; omega
theorem mLay_lo {I I' : sm_MI} {i : Nat} : ∀ (CL : List clT) (c o : Nat), mLay I i c o CL → (∀ j, j < o + totL CL → I' 78 (340 * i + j) = I 78 (340 * i + j) ∧ I' 79 (340 * i + j) = I 79 (340 * i + j)) → (∀ j, j < c + CL.length → I' 82 (90 * i + j) = I 82 (90 * i + j) ∧ I' 83 (90 * i + j) = I 83 (90 * i + j) ∧ I' 84 (90 * i + j) = I 84 (90 * i + j)) → mLay I' i c o CL
  | [], c, o, h, _, _ => h
  | q :: r, c, o, h, e1, e2 => by
    obtain ⟨h1, h2, h3, h4, h5, h6⟩ := h
    rw [totL] at e1
    rw [List.length_cons] at e2
    obtain ⟨f1, f2, f3⟩ := e2 c (by omega)
    refine ⟨f1.trans h1, f2.trans h2, f3.trans h3, fun j hj => ?_, fun j hj => ?_, mLay_lo r (c + 1) _ h6 (fun j hj => e1 j (by omega)) (fun j hj => e2 j (by omega))⟩
    · obtain ⟨d1, d2⟩ := e1 (o + j) (by omega)
      exact ⟨d1.trans (h4 j hj).1, d2.trans (h4 j hj).2⟩
    · obtain ⟨d1, d2⟩ := e1 (o + (clC q).length + j) (by omega)
      exact ⟨d1.trans (h5 j hj).1, d2.trans (h5 j hj).2⟩
theorem mLay_app {I : sm_MI} {i : Nat} : ∀ (CL D : List clT) (c o : Nat), mLay I i c o CL → mLay I i (c + CL.length) (o + totL CL) D → mLay I i c o (CL ++ D)
  | [], D, c, o, _, h => h
  | q :: r, D, c, o, h, g => by
    obtain ⟨h1, h2, h3, h4, h5, h6⟩ := h
    rw [List.length_cons, totL] at g
    refine ⟨h1, h2, h3, h4, h5, mLay_app r D (c + 1) _ h6 ?_⟩
    rw [show c + 1 + r.length = c + (r.length + 1) by omega, show o + (clC q).length + q.2.1.length + totL r = o + ((clC q).length + q.2.1.length + totL r) by omega]
    exact g
theorem PK_law {h : Nat → Int32} {len : Nat} (H : tpH h len) : ∀ d p acc, p ≤ len → CLok acc → (layC 0 acc).length ≤ p → totL acc ≤ p → 3 * acc.length ≤ p → match lawP h len d p acc with
    | .inl e => e ≤ len
    | .inr CL => CLok CL ∧ (layC 0 CL).length ≤ len ∧ totL CL ≤ len ∧ 3 * CL.length ≤ len := by
  intro d
  induction d with
  | zero => intro p acc hp _ _ _ _; exact hp
  | succ d ih =>
    intro p acc hp hC hl ht h3
    have hE := PK_clause H hp
    rw [lawP]
    cases hq : clauseP h len p with
    | inl e => rw [hq] at hE; exact hE
    | inr q =>
      rw [hq] at hE
      obtain ⟨e1, e2, e3, e4, e5⟩ := hE
      have s1 := sk_ge (h := h) (len := len) q.1
      have s2 := sk_le (h := h) (len := len) e2
      have hla := layC_app acc [q.2] 0
      have hll := layC_len ((layC 0 acc).length) q.2
      have hlen : (layC 0 (acc ++ [q.2])).length ≤ q.1 := by
        rw [hla, List.length_append, Nat.zero_add, hll]; omega
      have htot : totL (acc ++ [q.2]) ≤ q.1 := by
        rw [totL_app, totL, totL]; omega
      have hCk : CLok (acc ++ [q.2]) := by
        intro c hc
        rcases List.mem_append.mp hc with z | z
        · exact hC c z
        · rw [List.mem_singleton] at z
          subst z
          exact ⟨e4, e5⟩
      have hln : (acc ++ [q.2]).length = acc.length + 1 := by rw [List.length_append, List.length_singleton]
      show match (if h (sk h len q.1) = 59 then lawP h len d (sk h len q.1 + 1) (acc ++ [q.2]) else if h (sk h len q.1) = -1 then .inr (acc ++ [q.2]) else .inl (sk h len q.1)) with
        | .inl e => e ≤ len
        | .inr CL => CLok CL ∧ (layC 0 CL).length ≤ len ∧ totL CL ≤ len ∧ 3 * CL.length ≤ len
      by_cases y : h (sk h len q.1) = 59
      · rw [if_pos y]
        have hlt := H.lt (p := sk h len q.1) (by rw [y]; decide)
        exact ih _ _ (by omega) hCk (by omega) (by omega) (by omega)
      · rw [if_neg y]
        by_cases z : h (sk h len q.1) = -1
        · rw [if_pos z]
          exact ⟨hCk, by omega, by omega, by omega⟩
        · rw [if_neg z]; exact s2
/-- what a rule's text may touch in the model -/
def mlX (t : Nat) (I J : sm_MI) : Prop := ∀ k j, ¬ (k = 76 ∧ (j = 3 ∨ j = 4 ∨ j = 5 ∨ j = 14)) → ¬ ((k = 80 ∨ k = 81) ∧ j = t) → ¬ ((k = 78 ∨ k = 79) ∧ 340 * t ≤ j ∧ j < 340 * t + 340) → ¬ ((k = 82 ∨ k = 83 ∨ k = 84) ∧ 90 * t ≤ j ∧ j < 90 * t + 90) → J k j = I k j
theorem mlX_c {t cl : Nat} {I J K : sm_MI} (h : mlX t I J) (hc : mcX t cl J K) (hcl : cl < 90) : mlX t I K := by
  intro k j h1 h2 h3 h4
  rw [hc k j (fun q => h2 ⟨Or.inr q.1, q.2⟩) (fun q => h4 ⟨q.1, by omega, by omega⟩)]
  exact h k j h1 h2 h3 h4
theorem mlX_s {t a c : Nat} {wr dp : Int32} {f g : Nat → Int32} {I J : sm_MI} (h : mlX t I J) : mlX t I (mS J t a wr dp c f g) := by
  intro k j h1 h2 h3 h4
  rw [← h k j h1 h2 h3 h4]
  unfold mS
  split
  · rename_i e
    rw [if_neg (fun q => h1 ⟨e, Or.inl q⟩), if_neg (fun q => h1 ⟨e, Or.inr (Or.inl q)⟩), if_neg (fun q => h1 ⟨e, Or.inr (Or.inr (Or.inl q))⟩), e]
  · split
    · rename_i e
      rw [if_neg (fun q => h2 ⟨Or.inl e, q⟩), e]
    · split
      · rename_i e
        rw [if_neg (fun q => h3 ⟨Or.inl e, q.1, q.2⟩), e]
      · split
        · rename_i e
          rw [if_neg (fun q => h3 ⟨Or.inr e, q.1, q.2⟩), e]
        · rfl
/-- what the model does behind a rule -/
def mOKl (F : Int32 → sm_MI → sm_ML → Prop) (I : sm_MI) (L : sm_ML) (t : Nat) : Nat ⊕ List clT → Prop
  | .inl e => ∀ J, mlX t I J → F (nI e) J L
  | .inr CL => ∀ J, mlX t I J → J 81 t = nI CL.length → mLay J t 0 0 CL → F (-1) J L
section
variable {n : Nat} {T : List sm_Sh} {I I' J : sm_MI} {L L' : sm_ML} {h : Nat → Int32} {len t a c B s p cl : Nat} {wr dp : Int32} {f g : Nat → Int32}
theorem mS_78 {j : Nat} (hj : j < 340) : (mS J t a wr dp c f g) 78 (340 * t + j) = f j := by
  unfold mS
  have h1 : 340 * t ≤ 340 * t + j ∧ 340 * t + j < 340 * t + 340 := by omega
  simp [h1]
theorem mS_79 {j : Nat} (hj : j < 340) : (mS J t a wr dp c f g) 79 (340 * t + j) = g j := by
  unfold mS
  have h1 : 340 * t ≤ 340 * t + j ∧ 340 * t + j < 340 * t + 340 := by omega
  simp [h1]
/-- the layout of one more clause -/
theorem mLay_one {acc : List clT} {q : clT} {J' : sm_MI} {a' : Nat} {wr' dp' : Int32} (hX : mcX t acc.length J J') (hcl : acc.length < 90) (hc : totL acc + (clC q).length + q.2.1.length ≤ 200) (h0 : mLay (mS J t a wr dp (totL acc) f g) t 0 0 acc) (h1 : J' 82 (90 * t + acc.length) = nI (totL acc)) (h2 : J' 83 (90 * t + acc.length) = nI (totL acc + (clC q).length)) (h3 : J' 84 (90 * t + acc.length) = nI (totL acc + (clC q).length + q.2.1.length)) :
    mLay (mS J' t a' wr' dp' (totL acc + (clC q).length + q.2.1.length) (wrG mKd (wrG mKd f (totL acc) (clC q)) (totL acc + (clC q).length) q.2.1) (wrG mNv (wrG mNv g (totL acc) (clC q)) (totL acc + (clC q).length) q.2.1)) t 0 0 (acc ++ [q]) := by
  refine mLay_app acc [q] 0 0 ?_ ?_
  · refine mLay_lo acc 0 0 h0 (fun j hj => ?_) (fun j hj => ?_)
    · rw [mS_78 (by omega), mS_79 (by omega), mS_78 (by omega), mS_79 (by omega), wrG_lo _ _ _ _ (by omega), wrG_lo _ _ _ _ (by omega), wrG_lo _ _ _ _ (by omega), wrG_lo _ _ _ _ (by omega)]
      exact ⟨rfl, rfl⟩
    · have e : ∀ k, k = 82 ∨ k = 83 ∨ k = 84 → J' k (90 * t + j) = J k (90 * t + j) := fun k hk => hX k _ (fun z => by omega) (fun z => by omega)
      rw [mS_k (by decide), mS_k (by decide), mS_k (by decide), mS_k (by decide), mS_k (by decide), mS_k (by decide)]
      exact ⟨e 82 (by decide), e 83 (by decide), e 84 (by decide)⟩
  · rw [Nat.zero_add, Nat.zero_add]
    refine ⟨(mS_k (by decide)).trans h1, (mS_k (by decide)).trans h2, (mS_k (by decide)).trans h3, fun j hj => ?_, fun j hj => ?_, by show totL acc + (clC q).length + q.2.1.length ≤ 340; omega⟩
    · rw [mS_78 (by omega), mS_79 (by omega), wrG_lo (m := mKd) _ _ _ _ (show totL acc + j < totL acc + (clC q).length by omega), wrG_lo (m := mNv) _ _ _ _ (show totL acc + j < totL acc + (clC q).length by omega), wrG_at _ _ _ _ hj, wrG_at _ _ _ _ hj]
      exact ⟨rfl, rfl⟩
    · rw [mS_78 (by omega), mS_79 (by omega), wrG_at _ _ _ _ hj, wrG_at _ _ _ _ hj]
      exact ⟨rfl, rfl⟩
theorem m_read {F : Int32 → sm_MI → sm_ML → Prop} (hB : sm_Bs T) (H : tpH h len) (ht : t < 6) (hM2 : I 76 2 = nI len) (hM7 : ∀ j, j < len → I 77 j = h j) (hF : mOKl F I L t (lawP h len 160 0 [])) : sm_CI (n + 37) mX12_readLaw T I L [.ref 76, .int (nI t)] F := by
  have hl := H.1
  refine c_X12_readLaw hB (fun x hx => c_X12_open hB ?_)
  rw [nI_clamp (by omega)]
  refine ⟨vp_in_nI ht (by decide), vp_in_nI ht (by decide), ?_⟩
  have atEnd : ∀ (J : sm_MI) (a c : Nat) (dp : Int32) (f g : Nat → Int32) (e : Nat), e ≤ len → F (nI e) (mS J t a (nI e) dp c f g) L → sm_CI (n + 36) mX12_atEnd T (mS J t a (nI e) dp c f g) L [.ref 76] (fun r2 I1 L1 => F r2 I1 L1) := by
    intro J a c dp f g e he hf
    exact c_X12_atEnd hB ⟨fun _ => hf, fun q => absurd q (nI_m1 (by omega))⟩
  -- behind a fault
  have lost : ∀ (J : sm_MI) (a c : Nat) (dp : Int32) (f g : Nat → Int32) (e : Nat), e ≤ len → F (nI e) (mS J t a (nI e) dp c f g) L → sm_V x 0 0 T (mS J t a (nI e) dp c f g) L 9 [some (.ref 76), some (.int (nI t))] [] := by
    intro J a c dp f g e he hf
    exact u_X12_readLaw_9 hB hx ⟨fun _ => atEnd _ _ _ _ _ _ _ he hf, fun q => absurd q (nI_m1 (by omega))⟩
  have key : ∀ d p acc J f g, 160 ≤ p + d → p ≤ len → mlX t I J → MTp h len t J → 3 * acc.length ≤ p → totL acc ≤ p → J 81 t = nI acc.length → mLay (mS J t p (-1) 0 (totL acc) f g) t 0 0 acc → mOKl F I L t (lawP h len d p acc) → sm_CV (n + 36) mX12_clause T (mS J t p (-1) 0 (totL acc) f g) L [.ref 76] (fun I7 L7 => sm_V x 0 0 T I7 L7 9 [some (.ref 76), some (.int (nI t))] []) := by
    intro d
    induction d with
    | zero =>
      intro p acc J f g e hp hX hM h3 htl h81 hlay hF
      have e1 : p = len := by omega
      subst e1
      have hm : h p = -1 := H.2.1 p (Nat.le_refl _)
      have hs : sk h p p = p := sk_stop (by rw [hm]; decide)
      refine m_clause (n := n) hB H hM (by omega) h81 (Nat.le_refl _) htl ?_
      unfold clauseP
      rw [hs, hm, if_neg (by decide)]
      intro J' a' dp' c' f' g' hJ'
      exact lost _ _ _ _ _ _ _ (Nat.le_refl _) (hF _ (mlX_s (mlX_c hX hJ' (by omega))))
    | succ d ih =>
      intro p acc J f g e hp hX hM h3 htl h81 hlay hF
      have hE := PK_clause H hp
      rw [lawP] at hF
      refine m_clause (n := n) hB H hM (by omega) h81 hp htl ?_
      cases hq : clauseP h len p with
      | inl e2 =>
        rw [hq] at hF hE
        have he : e2 ≤ len := hE
        intro J' a' dp' c' f' g' hJ'
        exact lost _ _ _ _ _ _ _ he (hF _ (mlX_s (mlX_c hX hJ' (by omega))))
      | inr q =>
        rw [hq] at hF hE
        obtain ⟨e1, e2, e3, _, _⟩ := hE
        have hF' : mOKl F I L t (if h (sk h len q.1) = 59 then lawP h len d (sk h len q.1 + 1) (acc ++ [q.2]) else if h (sk h len q.1) = -1 then .inr (acc ++ [q.2]) else .inl (sk h len q.1)) := hF
        have s7 := sk_ge (h := h) (len := len) q.1
        have s8 := sk_le (h := h) (len := len) e2
        intro J' hJ' w1 w2 w3 w4
        have hX' := mlX_c hX hJ' (by omega)
        have hM' := MTp_x hM hJ'
        have htot : totL (acc ++ [q.2]) = totL acc + (clC q.2).length + q.2.2.1.length := by
          rw [totL_app, totL, totL]; omega
        have hln : (acc ++ [q.2]).length = acc.length + 1 := by rw [List.length_append, List.length_singleton]
        have lay : ∀ a wr dp, mLay (mS J' t a wr dp (totL acc + (clC q.2).length + q.2.2.1.length) (wrG mKd (wrG mKd f (totL acc) (clC q.2)) (totL acc + (clC q.2).length) q.2.2.1) (wrG mNv (wrG mNv g (totL acc) (clC q.2)) (totL acc + (clC q.2).length) q.2.2.1)) t 0 0 (acc ++ [q.2]) := fun a wr dp => mLay_one hJ' (by omega) (by omega) hlay w2 w3 w4
        refine u_X12_readLaw_9 hB hx ⟨fun z => absurd rfl z, fun _ => m_look hB H hM' (by omega) ⟨fun y => ?_, fun y => ?_⟩⟩
        · rw [if_neg y] at hF'
          refine c_X12_atEnd hB ⟨fun z => absurd rfl z, fun _ => m_look hB H hM' (by omega) ?_⟩
          rw [sk_sk H]
          refine ⟨fun z => ?_, fun z => m_bad hB ?_⟩
          · rw [if_pos z] at hF'
            exact hF' _ (mlX_s hX') (by rw [mS_k (by decide), w1, hln]) (lay _ _ _)
          · rw [if_neg z] at hF'
            exact hF' _ (mlX_s hX')
        · rw [if_pos y] at hF'
          have hlt := H.lt (p := sk h len q.1) (by rw [y]; decide)
          have l1 := lay (sk h len q.1 + 1) (-1) 0
          rw [← htot] at l1 ⊢
          rw [mS_3, nI_1, mS_a]
          exact ih _ (acc ++ [q.2]) J' _ _ (by omega) (by omega) hX' hM' (by omega) (by omega) (by rw [w1, hln]) l1 hF'
  have e0 : sm_uI (sm_uI (sm_uI (sm_uI (sm_uI (sm_uI I 76 14 (nI t)) 76 3 0) 76 4 (-1)) 76 5 0) 80 t 0) 81 t 0 = mS (sm_uI (sm_uI I 76 14 (nI t)) 81 t 0) t 0 (-1) 0 (totL []) (fun j => I 78 (340 * t + j)) (fun j => I 79 (340 * t + j)) := by
    funext k j
    unfold sm_uI mS
    by_cases h76 : k = 76
    · subst h76
      by_cases e3 : j = 3
      · subst e3; rfl
      · by_cases e4 : j = 4
        · subst e4; rfl
        · by_cases e5 : j = 5
          · subst e5; rfl
          · simp [e3, e4, e5]
    · by_cases h80 : k = 80
      · subst h80
        by_cases e : j = t
        · subst e; simp; rfl
        · simp [e]
      · by_cases h81 : k = 81
        · subst h81; simp
        · by_cases h78 : k = 78
          · subst h78
            by_cases e : 340 * t ≤ j ∧ j < 340 * t + 340
            · simp only [if_pos e]
              rw [show 340 * t + (j - 340 * t) = j by omega]; simp
            · simp [e]
          · by_cases h79 : k = 79
            · subst h79
              by_cases e : 340 * t ≤ j ∧ j < 340 * t + 340
              · simp only [if_pos e]
                rw [show 340 * t + (j - 340 * t) = j by omega]; simp
              · simp [e]
            · simp [h76, h80, h81, h78, h79]
  rw [e0]
  have hX0 : mlX t I (sm_uI (sm_uI I 76 14 (nI t)) 81 t 0) := by
    intro k j h1 h2 h3 h4
    rw [cuD (fun z => h2 ⟨Or.inr z.1, z.2⟩), cuD (fun z => h1 ⟨z.1, Or.inr (Or.inr (Or.inr z.2))⟩)]
  have hM0 : MTp h len t (sm_uI (sm_uI I 76 14 (nI t)) 81 t 0) := ⟨by rw [cuD (by omega), cuD (by omega)]; exact hM2, fun j hj => by rw [cuD (by omega), cuD (by omega)]; exact hM7 j hj, by rw [cuD (by omega), cuA], ht⟩
  exact key 160 0 [] _ _ _ (by omega) (by omega) hX0 hM0 (Nat.le_refl _) (Nat.le_refl _) cuA (Nat.zero_le _) hF
end
