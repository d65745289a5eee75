/-- a clause read is sound -/
def PKcl (len p : Nat) : Nat ⊕ (Nat × clT) → Prop
  | .inl e => e ≤ len
  | .inr q => p + 3 ≤ q.1 ∧ q.1 ≤ len ∧ p + ((clC q.2).length + (if q.2.1 = none then 0 else 1) + q.2.2.1.length + 1) ≤ q.1 ∧ SO 40 q.2.2.1 q.2.2.2 ∧ ∀ d, q.2.1 = some d → SO 40 d.1 d.2 ∧ d.1 ≠ []
theorem layC_len (o : Nat) (c : clT) : (layC o [c]).length = (clC c).length + (if c.1 = none then 0 else 1) + c.2.1.length + 1 := by
  rw [layC]
  unfold clC
  cases hc : c.1 with
  | none =>
    show (sgL c.2.1 ++ (59, 0) :: layC (o + (c.2.1.length + 1)) []).length = _
    rw [List.length_append, List.length_cons, sgL_len]
    show c.2.1.length + (0 + 1) = (([] : cdL)).length + 0 + c.2.1.length + 1
    rw [List.length_nil]; omega
  | some d =>
    show (sgL d.1 ++ (63, nI (o + (d.1.length + 1 + (c.2.1.length + 1)))) :: (sgL c.2.1 ++ (59, 0) :: layC (o + (d.1.length + 1 + (c.2.1.length + 1))) [])).length = _
    rw [List.length_append, List.length_cons, List.length_append, List.length_cons, sgL_len, sgL_len]
    show d.1.length + (c.2.1.length + (0 + 1) + 1) = d.1.length + 1 + c.2.1.length + 1
    omega
section
variable {h : Nat → Int32} {len : Nat}
theorem PK_cl2 {p m : Nat} {P : PRt} (H : tpH h len) (hm : m ≤ 40) (hP : PK len (p + 2) m true P) : PKcl len p (cl2P h len P) := by
  cases P with
  | inl e => exact hP
  | inr q =>
    obtain ⟨h1, h2, h3, h4, h5, h6⟩ := hP
    have s1 := sk_ge (h := h) (len := len) q.1
    have s2 := sk_le (h := h) (len := len) h2
    by_cases g : h (sk h len q.1) = 63
    · rw [cl2P, if_pos g]
      have hlt := H.lt (p := sk h len q.1) (by rw [g]; decide)
      have hE := (PK_sum H 6).2.2 (sk h len q.1 + 1) (by omega)
      cases hq : sumK h len 6 (sk h len q.1 + 1) with
      | inl e => rw [hq] at hE; exact hE
      | inr z =>
        rw [hq] at hE
        obtain ⟨e1, e2, e3, e4, e5, e6⟩ := hE
        refine ⟨by show p + 3 ≤ z.1; omega, e2, ?_, SO_mono e5 (by decide), fun d hd => ?_⟩
        · show p + (q.2.1.length + 1 + z.2.1.length + 1) ≤ z.1
          omega
        · cases hd
          exact ⟨SO_mono h5 hm, h4⟩
    · rw [cl2P, if_neg g]; exact s2
theorem PK_cl1 {p : Nat} (H : tpH h len) (hp : p + 2 ≤ len) : PKcl len p (cl1P h len (p + 2)) := by
  have s1 := sk_ge (h := h) (len := len) (p + 2)
  have s2 := sk_le (h := h) (len := len) hp
  unfold cl1P
  by_cases g : h (sk h len (p + 2)) = 33 ∨ h (sk h len (p + 2)) = 40
  · rw [if_pos g]
    exact PK_cl2 (m := 4 + 2 * 6 + 2) H (by decide) (PK_up (PK_cndF H (fun p hp => (PK_unit H 6).2 p hp) (by decide) ((PK_unit H 6).2 _ s2)) s1 (Nat.le_refl _))
  · rw [if_neg g]
    have hE := (PK_sum H 6).2.2 (sk h len (p + 2)) s2
    cases hq : sumK h len 6 (sk h len (p + 2)) with
    | inl e => rw [hq] at hE; exact hE
    | inr q =>
      rw [hq] at hE
      have hE' := hE
      obtain ⟨e1, e2, e3, e4, e5, e6⟩ := hE'
      show PKcl len p (if isR (h (sk h len q.1)) = true then cl2P h len (cndF h len (unK h len 6) (cmpP h len (sumK h len 6) (.inr q))) else .inr (sk h len q.1, (none, q.2)))
      by_cases g2 : isR (h (sk h len q.1)) = true
      · rw [if_pos g2]
        exact PK_cl2 (m := 4 + 2 * 6 + 2) H (by decide) (PK_up (PK_cndF H (fun p hp => (PK_unit H 6).2 p hp) (by decide) (PK_cmp H (fun p hp => (PK_sum H 6).2.2 p hp) (by decide) hE)) s1 (Nat.le_refl _))
      · rw [if_neg g2]
        have s3 := sk_ge (h := h) (len := len) q.1
        have s4 := sk_le (h := h) (len := len) e2
        refine ⟨by show p + 3 ≤ sk h len q.1; omega, s4, ?_, SO_mono e5 (by decide), fun d hd => by cases hd⟩
        show p + (0 + 0 + q.2.1.length + 1) ≤ sk h len q.1
        omega
theorem PKcl_up {p p' : Nat} {P : Nat ⊕ (Nat × clT)} (hP : PKcl len p P) (e : p' ≤ p) : PKcl len p' P := by
  cases P with
  | inl e => exact hP
  | inr q =>
    obtain ⟨h1, h2, h3, h4, h5⟩ := hP
    exact ⟨by omega, h2, by omega, h4, h5⟩
theorem PK_clause {p : Nat} (H : tpH h len) (hp : p ≤ len) : PKcl len p (clauseP h len p) := by
  have s1 := sk_ge (h := h) (len := len) p
  have s2 := sk_le (h := h) (len := len) hp
  unfold clauseP
  by_cases g : h (sk h len p) = 121
  · rw [if_pos g]
    have hlt := H.lt (p := sk h len p) (by rw [g]; decide)
    have s3 := sk_ge (h := h) (len := len) (sk h len p + 1)
    have s4 := sk_le (h := h) (len := len) (show sk h len p + 1 ≤ len by omega)
    by_cases g2 : h (sk h len (sk h len p + 1)) = 58
    · rw [if_pos g2]
      have hlt2 := H.lt (p := sk h len (sk h len p + 1)) (by rw [g2]; decide)
      have hh := PK_cl1 (p := sk h len (sk h len p + 1) - 1) H (by omega)
      rw [show sk h len (sk h len p + 1) - 1 + 2 = sk h len (sk h len p + 1) + 1 by omega] at hh
      exact PKcl_up hh (by omega)
    · rw [if_neg g2]; exact s4
  · rw [if_neg g]; exact s2
end
/-- what the class does behind a clause -/
def cOKc (F : Bool → sm_MI → sm_ML → Prop) (I : sm_MI) (L : sm_ML) (k : Nat) (f g : Nat → Int32) : Nat ⊕ (Nat × clT) → Prop
  | .inl e => ∀ k' f' g', F false (rS I e k' f' g') L
  | .inr q => ∀ f' g', (∀ j, j < k → f' j = f j ∧ g' j = g j) → (∀ j, j < (layC k [q.2]).length → f' (k + j) = (atP (layC k [q.2]) j).1 ∧ g' (k + j) = (atP (layC k [q.2]) j).2) → F true (rS I q.1 (k + (layC k [q.2]).length) f' g') L
theorem lay_none {k : Nat} {f g : Nat → Int32} {cs : cdL × vfn} : (∀ j, j < k → upd (wrG mSg f k cs.1) (k + cs.1.length) 59 j = f j ∧ upd (wrG mNv g k cs.1) (k + cs.1.length) 0 j = g j) ∧ ∀ j, j < (layC k [(none, cs)]).length → upd (wrG mSg f k cs.1) (k + cs.1.length) 59 (k + j) = (atP (layC k [(none, cs)]) j).1 ∧ upd (wrG mNv g k cs.1) (k + cs.1.length) 0 (k + j) = (atP (layC k [(none, cs)]) j).2 := by
  refine ⟨fun j hj => ?_, fun j hj => ?_⟩
  · rw [pk_un (by omega), pk_un (by omega), wrG_lo _ _ _ _ hj, wrG_lo _ _ _ _ hj]; exact ⟨rfl, rfl⟩
  · have el : layC k [(none, cs)] = sgL cs.1 ++ [(59, 0)] := rfl
    rw [el] at hj ⊢
    rw [List.length_append, List.length_singleton, sgL_len] at hj
    by_cases q : j < cs.1.length
    · rw [atP_l (by rw [sgL_len]; exact q), atP_sgL q, pk_un (by omega), pk_un (by omega), wrG_at _ _ _ _ q, wrG_at _ _ _ _ q]
      exact ⟨rfl, rfl⟩
    · have e : j = cs.1.length := by omega
      subst e
      have e2 := atP_r (l := sgL cs.1) (r := [(59, 0)]) (j := 0)
      rw [sgL_len] at e2
      rw [show cs.1.length = cs.1.length + 0 from rfl, e2, Nat.add_zero, pk_us, pk_us]
      exact ⟨rfl, rfl⟩
theorem lay_some {k : Nat} {f g : Nat → Int32} {ds cs : cdL × vfn} :
    (∀ j, j < k → upd (wrG mSg (upd (wrG mSg f k ds.1) (k + ds.1.length) 63) (k + ds.1.length + 1) cs.1) (k + ds.1.length + 1 + cs.1.length) 59 j = f j ∧ upd (upd (wrG mNv (upd (wrG mNv g k ds.1) (k + ds.1.length) 0) (k + ds.1.length + 1) cs.1) (k + ds.1.length + 1 + cs.1.length) 0) (k + ds.1.length) (nI (k + ds.1.length + 1 + cs.1.length + 1)) j = g j) ∧
    ∀ j, j < (layC k [(some ds, cs)]).length → upd (wrG mSg (upd (wrG mSg f k ds.1) (k + ds.1.length) 63) (k + ds.1.length + 1) cs.1) (k + ds.1.length + 1 + cs.1.length) 59 (k + j) = (atP (layC k [(some ds, cs)]) j).1 ∧ upd (upd (wrG mNv (upd (wrG mNv g k ds.1) (k + ds.1.length) 0) (k + ds.1.length + 1) cs.1) (k + ds.1.length + 1 + cs.1.length) 0) (k + ds.1.length) (nI (k + ds.1.length + 1 + cs.1.length + 1)) (k + j) = (atP (layC k [(some ds, cs)]) j).2 := by
  refine ⟨fun j hj => ?_, fun j hj => ?_⟩
  · rw [pk_un (by omega), pk_un (by omega), pk_un (by omega), wrG_lo _ _ _ _ (by omega), wrG_lo _ _ _ _ (by omega), pk_un (by omega), pk_un (by omega), wrG_lo _ _ _ _ hj, wrG_lo _ _ _ _ hj]; exact ⟨rfl, rfl⟩
  · have el : layC k [(some ds, cs)] = sgL ds.1 ++ (63, nI (k + (ds.1.length + 1 + (cs.1.length + 1)))) :: (sgL cs.1 ++ [(59, 0)]) := rfl
    have hlen := layC_len k (some ds, cs)
    have hlen' : (layC k [(some ds, cs)]).length = ds.1.length + 1 + cs.1.length + 1 := hlen
    rw [hlen'] at hj
    rw [el]
    by_cases q : j < ds.1.length
    · rw [atP_l (by rw [sgL_len]; exact q), atP_sgL q, pk_un (by omega), pk_un (by omega), pk_un (by omega), wrG_lo _ _ _ _ (by omega), wrG_lo _ _ _ _ (by omega), pk_un (by omega), pk_un (by omega), wrG_at _ _ _ _ q, wrG_at _ _ _ _ q]
      exact ⟨rfl, rfl⟩
    · obtain ⟨i, rfl⟩ : ∃ i, j = ds.1.length + i := ⟨j - ds.1.length, by omega⟩
      have e2 := atP_r (l := sgL ds.1) (r := (63, nI (k + (ds.1.length + 1 + (cs.1.length + 1)))) :: (sgL cs.1 ++ [(59, 0)])) (j := i)
      rw [sgL_len] at e2
      rw [e2]
      cases i with
      | zero =>
        rw [show k + (ds.1.length + 0) = k + ds.1.length from rfl, pk_un (by omega), wrG_lo _ _ _ _ (by omega), pk_us, pk_us]
        refine ⟨rfl, ?_⟩
        show nI _ = nI _
        exact congrArg nI (by omega)
      | succ i =>
        have e3 : atP ((63, nI (k + (ds.1.length + 1 + (cs.1.length + 1)))) :: (sgL cs.1 ++ [(59, 0)])) (i + 1) = atP (sgL cs.1 ++ [(59, 0)]) i := rfl
        rw [e3, show k + (ds.1.length + (i + 1)) = k + ds.1.length + 1 + i by omega, pk_un (show k + ds.1.length + 1 + i ≠ k + ds.1.length by omega)]
        by_cases q2 : i < cs.1.length
        · rw [atP_l (by rw [sgL_len]; exact q2), atP_sgL q2, pk_un (by omega), pk_un (by omega), wrG_at _ _ _ _ q2, wrG_at _ _ _ _ q2]
          exact ⟨rfl, rfl⟩
        · have e : i = cs.1.length := by omega
          subst e
          have e4 := atP_r (l := sgL cs.1) (r := [(59, 0)]) (j := 0)
          rw [sgL_len] at e4
          rw [pk_us, pk_us, show cs.1.length = cs.1.length + 0 from rfl, e4]
          exact ⟨rfl, rfl⟩
section
variable {n : Nat} {T : List sm_Sh} {I I' J : sm_MI} {L L' : sm_ML} {h : Nat → Int32} {len p k dep : Nat} {f g : Nat → Int32}
/-- behind a condition: its sum -/
theorem c_tail {F : Bool → sm_MI → sm_ML → Prop} {P : PRt} {q0 m : Nat} (hB : sm_Bs T) (H : tpH h len) (hC : CTp h len I) (hk : k < q0) (hE : PK len q0 m true P) (hF : cOKc F I L k f g (cl2P h len P)) :
    cOK (fun r2 I1 L1 => (r2 = false → F false I1 L1) ∧ (r2 = true → sm_CZ (n + 3 * 6 + 6) mX2_take T I1 L1 [.ref 18, .int 63] (fun r4 I3 L3 => (r4 = true → sm_CV (n + 3 * 6 + 6) mX5_write T I3 L3 [.ref 18, .int 63, .int 0] (fun I5 L5 => sm_CZ (n + 3 * 6 + 6) mX5_readSum T I5 L5 [.ref 18, .int 0] (fun r7 I6 L6 => (r7 = true → sm_CV (n + 3 * 6 + 6) mX5_write T I6 L6 [.ref 18, .int 59, .int 0] (fun I8 L8 => sm_CV (n + 3 * 6 + 6) mX3_set T I8 L8 [.ref 21, .int (I3 18 4), .int (I8 18 4)] (fun I9 L9 => F true I9 L9))) ∧ (r7 = false → F false I6 L6)))) ∧ (r4 = false → F false I3 L3)))) I L k f g P := by
  have hl := H.1
  cases P with
  | inl e => exact fun k' f' g' => ⟨fun _ => hF k' f' g', fun y => absurd y (by decide)⟩
  | inr q =>
    obtain ⟨e1, e2, e3, _, _, _⟩ := hE
    have s1 := sk_ge (h := h) (len := len) q.1
    have s2 := sk_le (h := h) (len := len) e2
    refine ⟨fun y => absurd y (by decide), fun _ => c_take hB H hC e2 (fun y => ⟨fun _ => ?_, fun w => absurd w (by decide)⟩) (fun y => ⟨fun w => absurd w (by decide), fun _ => ?_⟩)⟩
    · rw [cl2P, if_pos y] at hF
      have hlt := H.lt (p := sk h len q.1) (by rw [y]; decide)
      have hE2 := (PK_sum H 6).2.2 (sk h len q.1 + 1) (by omega)
      have e18 : ∀ (p k : Nat) (f g : Nat → Int32), (rS I p k f g) 18 4 = nI k := fun _ _ _ _ => rfl
      rw [e18]
      refine c_write hB (by omega) ?_
      refine c_sumK (n := n) hB H hC 6 (by decide) _ _ _ _ _ (by omega) (by omega) ?_
      have hF' : cOKc F I L k f g (match sumK h len 6 (sk h len q.1 + 1) with
        | .inl e => .inl e
        | .inr z => .inr (z.1, (some q.2, z.2))) := hF
      cases hq : sumK h len 6 (sk h len q.1 + 1) with
      | inl e =>
        rw [hq] at hF'
        exact fun k' f' g' => ⟨fun y => absurd y (by decide), fun _ => hF' k' f' g'⟩
      | inr z =>
        rw [hq] at hF' hE2
        obtain ⟨d1, d2, d3, _, _, _⟩ := hE2
        refine ⟨fun _ => c_write hB (by omega) ?_, fun y => absurd y (by decide)⟩
        rw [e18]
        refine s_set (t_21 hB) (t_22 hB) (by omega) (by decide) ?_
        rw [rS_g]
        obtain ⟨l1, l2⟩ := lay_some (k := k) (f := f) (g := g) (ds := q.2) (cs := z.2)
        have hlen : (layC k [(some q.2, z.2)]).length = q.2.1.length + 1 + z.2.1.length + 1 := layC_len k (some q.2, z.2)
        have go := hF' _ _ l1 l2
        have hlen2 : k + (layC k [(some q.2, z.2)]).length = k + q.2.1.length + 1 + z.2.1.length + 1 := by omega
        have go2 : F true (rS I z.1 (k + (layC k [(some q.2, z.2)]).length) _ _) L := go
        rw [hlen2] at go2
        exact go2
    · rw [cl2P, if_neg y] at hF
      exact hF _ _ _
theorem c_clause {F : Bool → sm_MI → sm_ML → Prop} (hB : sm_Bs T) (H : tpH h len) (hC : CTp h len I) (hp : p ≤ len) (hk : k ≤ p) (hF : cOKc F I L k f g (clauseP h len p)) : sm_CZ (n + 32) mX5_readClause T (rS I p k f g) L [.ref 18] F := by
  have hl := H.1
  have s1 := sk_ge (h := h) (len := len) p
  have s2 := sk_le (h := h) (len := len) hp
  unfold clauseP at hF
  refine c_X5_readClause hB (fun x hx => c_take hB H hC hp (fun g1 => ⟨fun w => absurd w (by decide), fun _ => ?_⟩) (fun g1 => ⟨fun _ => ?_, fun w => absurd w (by decide)⟩))
  · rw [if_pos g1] at hF
    have hlt := H.lt (p := sk h len p) (by rw [g1]; decide)
    have s3 := sk_ge (h := h) (len := len) (sk h len p + 1)
    have s4 := sk_le (h := h) (len := len) (show sk h len p + 1 ≤ len by omega)
    refine c_take hB H hC (by omega) (fun g2 => ⟨fun _ => ?_, fun w => absurd w (by decide)⟩) (fun g2 => ⟨fun w => absurd w (by decide), fun _ => ?_⟩)
    · rw [if_pos g2] at hF
      have hlt2 := H.lt (p := sk h len (sk h len p + 1)) (by rw [g2]; decide)
      generalize hp2 : sk h len (sk h len p + 1) + 1 = p2 at hF ⊢
      have s5 := sk_ge (h := h) (len := len) p2
      have s6 := sk_le (h := h) (len := len) (show p2 ≤ len by omega)
      have ss := sk_sk H p2
      unfold cl1P at hF
      -- the condition path
      have cond : ∀ (u : Bool) (Jx : sm_MI) (P : PRt), cSt T I Jx L (n + 31) mX5_readCondition [.int (nI 0), .int (sm_z u)] k f g P → PK len p2 18 true P → cOKc F I L k f g (cl2P h len P) → sm_CZ (n + 31) mX5_readCondition T Jx L [.ref 18, .int 0, .int (sm_z u)] (fun r2 I1 L1 => (r2 = false → F false I1 L1) ∧ (r2 = true → sm_CZ (n + 31) mX2_take T I1 L1 [.ref 18, .int 63] (fun r4 I3 L3 => (r4 = true → sm_CV (n + 31) mX5_write T I3 L3 [.ref 18, .int 63, .int 0] (fun I5 L5 => sm_CZ (n + 31) mX5_readSum T I5 L5 [.ref 18, .int 0] (fun r7 I6 L6 => (r7 = true → sm_CV (n + 31) mX5_write T I6 L6 [.ref 18, .int 59, .int 0] (fun I8 L8 => sm_CV (n + 31) mX3_set T I8 L8 [.ref 21, .int (I3 18 4), .int (I8 18 4)] (fun I9 L9 => F true I9 L9))) ∧ (r7 = false → F false I6 L6)))) ∧ (r4 = false → F false I3 L3)))) := by
        intro u Jx P hS hE hc
        exact hS _ (c_tail (n := n + 7) hB H hC (by omega) hE hc)
      have hun := c_unitK (L := L) hB H hC 6 (n + 4) (by decide)
      have hPu : ∀ p, p ≤ len → PK len p 16 true (unK h len 6 p) := fun p hp => (PK_unit H 6).2 p hp
      -- a condition from its first sign
      have first : h (sk h len p2) = 33 ∨ h (sk h len p2) = 40 → sm_V x 0 0 T (rS I (sk h len p2) k f g) L 58 [some (.ref 18), some (.int (sm_z false)), none] [] := by
        intro hc
        rw [if_pos hc] at hF
        refine u_X5_readClause_58 hB hx ⟨fun _ => cond false _ _ ?_ (PK_up (PK_cndF H hPu (by decide) (hPu _ s6)) s5 (by decide)) hF, fun w => absurd w (by decide)⟩
        exact c_cond (n := n + 27) (q0 := sk h len p2) (m := 16) hB H hC (by omega) (by decide) (fun F hF => hun F _ _ _ _ s6 (by omega) hF) (hPu _ s6) hun hPu
      refine c_next hB H hC (by omega) ⟨fun g3 => first (Or.inl g3), fun g3 => c_next hB H hC (by omega) ?_⟩
      rw [ss]
      refine ⟨fun g4 => first (Or.inr g4), fun g4 => ?_⟩
      rw [if_neg (fun y => y.elim g3 g4)] at hF
      have hE := (PK_sum H 6).2.2 (sk h len p2) s6
      refine c_sumK (n := n + 7) hB H hC 6 (by decide) _ _ _ _ _ s6 (by omega) ?_
      cases hq : sumK h len 6 (sk h len p2) with
      | inl e =>
        rw [hq] at hF
        exact fun k' f' g' => ⟨fun y => absurd y (by decide), fun _ => hF k' f' g'⟩
      | inr q =>
        rw [hq] at hF hE
        have hE' := hE
        obtain ⟨e1, e2, e3, _, _, _⟩ := hE'
        have s7 := sk_ge (h := h) (len := len) q.1
        have s8 := sk_le (h := h) (len := len) e2
        have ss2 := sk_sk H q.1
        have hF' : cOKc F I L k f g (if isR (h (sk h len q.1)) = true then cl2P h len (cndF h len (unK h len 6) (cmpP h len (sumK h len 6) (.inr q))) else .inr (sk h len q.1, (none, q.2))) := hF
        refine ⟨fun _ => u_X5_readClause_58 hB hx ⟨fun w => absurd w (by decide), fun _ => c_next hB H hC e2 (c_isRelation hB ⟨fun y => ?_, fun y => ?_⟩)⟩, fun w => absurd w (by decide)⟩
        · rw [if_pos y] at hF'
          refine cond true _ _ ?_ (PK_up (PK_cndF H hPu (by decide) (PK_cmp H (fun p hp => (PK_sum H 6).2.2 p hp) (by decide) hE)) s5 (by decide)) hF'
          refine c_cond (n := n + 27) (q0 := sk h len p2) (m := 16) hB H hC (by omega) (by decide) ?_ (PK_cmp H (fun p hp => (PK_sum H 6).2.2 p hp) (by decide) hE) hun hPu
          intro F2 hF2
          -- the sum is read: the state stands behind its blanks
          have hcm := c_cmp (n := n + 27) (q := (sk h len q.1, q.2)) (m := 15) (q0 := sk h len p2) (dep := 0) (k := k) (f := f) (g := g) (F := F2) hB H hC (by omega) (c_sumK (n := n + 4) hB H hC 6 (by decide)) (fun p hp => (PK_sum H 6).2.2 p hp) ⟨by show sk h len p2 < sk h len q.1; omega, s8, by show sk h len p2 + q.2.1.length ≤ sk h len q.1; omega, hE.2.2.2.1, hE.2.2.2.2.1, hE.2.2.2.2.2⟩ (by
            rw [cmpP] at hF2 ⊢
            rw [show (sk h len q.1, q.2).1 = sk h len q.1 from rfl, ss2]
            exact hF2)
          refine c_X5_readUnit hB (fun x hx => ⟨fun w => absurd w (by decide), fun _ => u_X5_readUnit_12 hB hx ⟨fun w => absurd w (by decide), fun _ => ⟨fun _ => ⟨fun _ => hcm, fun w => absurd w (by decide)⟩, fun w => absurd w (by decide)⟩⟩⟩)
        · have y' : ¬ isR (h (sk h len q.1)) = true := by rw [y]; decide
          rw [if_neg y'] at hF'
          refine c_write hB (by omega) ?_
          obtain ⟨l1, l2⟩ := lay_none (k := k) (f := f) (g := g) (cs := q.2)
          have hlen : (layC k [(none, q.2)]).length = 0 + 0 + q.2.1.length + 1 := layC_len k (none, q.2)
          have go : F true (rS I (sk h len q.1) (k + (layC k [(none, q.2)]).length) _ _) L := hF' _ _ l1 l2
          rw [show k + (layC k [(none, q.2)]).length = k + q.2.1.length + 1 by omega] at go
          exact go
    · rw [if_neg g2] at hF
      exact hF _ _ _
  · rw [if_neg g1] at hF
    exact hF _ _ _
/-- what the class does behind a rule -/
def cOKl (F : Int32 → sm_MI → sm_ML → Prop) (I : sm_MI) (L : sm_ML) : Nat ⊕ List clT → Prop
  | .inl e => ∀ p' k' f' g', F (nI e) (rS I p' k' f' g') L
  | .inr CL => ∀ p' f' g', (∀ j, j < (layC 0 CL).length → f' j = (atP (layC 0 CL) j).1 ∧ g' j = (atP (layC 0 CL) j).2) → F (-1) (rS I p' (layC 0 CL).length f' g') L
theorem c_read {F : Int32 → sm_MI → sm_ML → Prop} (hB : sm_Bs T) (H : tpH h len) (hC : CTp h len I) (hF : cOKl F I L (lawP h len 160 0 [])) : sm_CI (n + 33) mX5_read T I L [.ref 18] F := by
  have hl := H.1
  refine c_X5_read hB (fun x hx => c_X2_begin_r hB ?_)
  have fault : ∀ (p k : Nat) (f g : Nat → Int32), F (nI p) (rS I p k f g) L → sm_CI (n + 32) mX2_faultHere T (rS I p k f g) L [.ref 18] (fun r2 I1 L1 => F r2 I1 L1) := fun p k f g hf => c_X2_faultHere_r hB hf
  have key : ∀ d i p acc f g, i + d = 160 → p ≤ len → (layC 0 acc).length ≤ p → (∀ j, j < (layC 0 acc).length → f j = (atP (layC 0 acc) j).1 ∧ g j = (atP (layC 0 acc) j).2) → cOKl F I L (lawP h len d p acc) → sm_V x 0 0 T (rS I p (layC 0 acc).length f g) L 11 [some (.ref 18), some (.int (nI i))] [] := by
    intro d
    induction d with
    | zero =>
      intro i p acc f g e hp hk hc hF
      have : i = 160 := by omega
      subst this
      refine u_X5_read_11 hB hx ⟨fun _ => fault _ _ _ _ (hF _ _ _ _), fun q => absurd (nI_le (a := 160) (b := 160) (by omega) (by omega)) q⟩
    | succ d ih =>
      intro i p acc f g e hp hk hc hF
      have hE := PK_clause H hp
      rw [lawP] at hF
      refine u_X5_read_11 hB hx ⟨fun q => absurd q (nI_ge (b := 160) (by omega) (by omega)), fun _ => c_clause (n := n) hB H hC hp hk ?_⟩
      cases hq : clauseP h len p with
      | inl e =>
        rw [hq] at hF
        exact fun k' f' g' => ⟨fun _ => fault _ _ _ _ (hF _ _ _ _), fun y => absurd y (by decide)⟩
      | inr q =>
        rw [hq] at hF hE
        obtain ⟨e1, e2, e3, _, _⟩ := hE
        have hF' : cOKl F I L (if h (sk h len q.1) = 59 then lawP h len d (sk h len q.1 + 1) (acc ++ [q.2]) else if h (sk h len q.1) = -1 then .inr (acc ++ [q.2]) else .inl (sk h len q.1)) := hF
        have hla := layC_app acc [q.2] 0
        rw [Nat.zero_add] at hla
        have hll : (layC 0 (acc ++ [q.2])).length = (layC 0 acc).length + (layC (layC 0 acc).length [q.2]).length := by rw [hla, List.length_append]
        have hlc := layC_len (layC 0 acc).length q.2
        have s7 := sk_ge (h := h) (len := len) q.1
        have s8 := sk_le (h := h) (len := len) e2
        intro f' g' l1 l2
        have hcn : ∀ j, j < (layC 0 (acc ++ [q.2])).length → f' j = (atP (layC 0 (acc ++ [q.2])) j).1 ∧ g' j = (atP (layC 0 (acc ++ [q.2])) j).2 := by
          intro j hj
          rw [hla]
          by_cases y : j < (layC 0 acc).length
          · rw [atP_l y, (l1 j y).1, (l1 j y).2]; exact hc j y
          · obtain ⟨i, rfl⟩ : ∃ i, j = (layC 0 acc).length + i := ⟨j - (layC 0 acc).length, by omega⟩
            rw [atP_r]
            exact l2 i (by omega)
        have hlk : (layC 0 acc).length + (layC (layC 0 acc).length [q.2]).length = (layC 0 (acc ++ [q.2])).length := hll.symm
        rw [hlk]
        refine ⟨fun y => absurd y (by decide), fun _ => c_take hB H hC e2 (fun y => ⟨fun _ => ?_, fun w => absurd w (by decide)⟩) (fun y => ⟨fun w => absurd w (by decide), fun _ => c_next hB H hC s8 ?_⟩)⟩
        · rw [if_pos y] at hF'
          have hlt := H.lt (p := sk h len q.1) (by rw [y]; decide)
          rw [nI_1]
          exact ih (i + 1) _ _ _ _ (by omega) (by omega) (by omega) hcn hF'
        · rw [sk_sk H]
          rw [if_neg y] at hF'
          refine ⟨fun z => ?_, fun z => ?_⟩
          · rw [if_neg z] at hF'
            exact fault _ _ _ _ (hF' _ _ _ _)
          · rw [if_pos z] at hF'
            exact hF' _ _ _ hcn
  have e0 : sm_uI (sm_uI I 18 1 0) 18 4 0 = rS I 0 (layC 0 ([] : List clT)).length (I 20) (I 22) := by
    funext a j
    unfold sm_uI rS
    by_cases ha : a = 18
    · subst ha
      by_cases e4 : j = 4
      · subst e4; rfl
      · by_cases e1 : j = 1
        · subst e1; rfl
        · simp [e4, e1]
    · by_cases h20 : a = 20
      · subst h20; simp
      · by_cases h22 : a = 22
        · subst h22; simp
        · simp [ha, h20, h22]
  rw [e0]
  exact key 160 0 0 [] (I 20) (I 22) (by omega) (by omega) (Nat.le_refl _) (fun j hj => absurd hj (by show ¬ j < 0; omega)) hF
end
