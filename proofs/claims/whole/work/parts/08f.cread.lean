/-! ===== the class reads conditions, clauses, rules ===== -/
theorem isR_kRl (c : Int32) : (isR c = true ∧ ∃ k, kRl c = some k ∧ sgC k = c) ∨ (isR c = false ∧ kRl c = none) := by
  unfold isR kRl
  by_cases h1 : c = 61
  · subst h1; exact Or.inl ⟨rfl, 6, rfl, rfl⟩
  · rw [if_neg h1, if_neg h1]
    by_cases h2 : c = 60
    · subst h2; exact Or.inl ⟨rfl, 7, rfl, rfl⟩
    · rw [if_neg h2, if_neg h2]
      by_cases h3 : c = 62
      · subst h3; exact Or.inl ⟨rfl, 8, rfl, rfl⟩
      · rw [if_neg h3, if_neg h3]; exact Or.inr ⟨rfl, rfl⟩
theorem layC_app : ∀ (a b : List clT) (o : Nat), layC o (a ++ b) = layC o a ++ layC (o + (layC o a).length) b
  | [], b, o => rfl
  | c :: a, b, o => by
    rw [List.cons_append, layC, layC]
    cases hc : c.1 with
    | none =>
      show sgL c.2.1 ++ (59, 0) :: layC (o + (c.2.1.length + 1)) (a ++ b) = (sgL c.2.1 ++ (59, 0) :: layC (o + (c.2.1.length + 1)) a) ++ layC (o + (sgL c.2.1 ++ (59, 0) :: layC (o + (c.2.1.length + 1)) a).length) b
      rw [layC_app a b, List.append_assoc, List.cons_append, List.length_append, List.length_cons, sgL_len]
      congr 4
      omega
    | some d =>
      show sgL d.1 ++ (63, nI (o + (d.1.length + 1 + (c.2.1.length + 1)))) :: (sgL c.2.1 ++ (59, 0) :: layC (o + (d.1.length + 1 + (c.2.1.length + 1))) (a ++ b)) = (sgL d.1 ++ (63, nI (o + (d.1.length + 1 + (c.2.1.length + 1)))) :: (sgL c.2.1 ++ (59, 0) :: layC (o + (d.1.length + 1 + (c.2.1.length + 1))) a)) ++ layC (o + (sgL d.1 ++ (63, nI (o + (d.1.length + 1 + (c.2.1.length + 1)))) :: (sgL c.2.1 ++ (59, 0) :: layC (o + (d.1.length + 1 + (c.2.1.length + 1))) a)).length) b
      rw [layC_app a b, List.append_assoc, List.cons_append, List.append_assoc, List.cons_append, List.length_append, List.length_cons, List.length_append, List.length_cons, sgL_len, sgL_len]
      congr 6
      omega
/-- a reading from any state -/
def cSt (T : List sm_Sh) (I J : sm_MI) (L : sm_ML) (n : Nat) (md : sm_MD) (args : List Value) (k : Nat) (f g : Nat → Int32) (P : PRt) : Prop := ∀ F : Bool → sm_MI → sm_ML → Prop, cOK F I L k f g P → sm_CZ n md T J L (.ref 18 :: args) F
section
variable {n : Nat} {T : List sm_Sh} {I I' J : sm_MI} {L L' : sm_ML} {h : Nat → Int32} {len p k dep : Nat} {f g : Nat → Int32}
theorem c_loopA {F : Bool → sm_MI → sm_ML → Prop} {x : sm_Cx} {el : Nat → PRt} {m k0 : Nat} {f0 g0 : Nat → Int32} {b2 : Bool} (hB : sm_Bs T) (H : tpH h len) (hC : CTp h len I) (hx : sm_Ok x mX5_readTruth (n + 3) (sm_KZ T F)) (hel : cEl T I L len (n + 2) mX5_readUnit [.int (nI dep), .int (sm_z false)] el) (hPK : ∀ p, p ≤ len → PK len p m true (el p)) :
    ∀ d i r cs v, i < r → r ≤ len → len ≤ r + d → k0 + cs.length ≤ r → cOK F I L k0 f0 g0 (loopP h len el kAn d r cs v) → sm_V x 0 0 T (rS I r (k0 + cs.length) (wrG mSg f0 k0 cs) (wrG mNv g0 k0 cs)) L 13 [some (.ref 18), some (.int (nI dep)), some (.int (sm_z b2)), some (.int (nI i))] [] := by
  have hl := H.1
  intro d
  induction d with
  | zero =>
    intro i r cs v hi hr hd hk hF
    have hm : h r = -1 := H.2.1 r (by omega)
    have hs : sk h len r = r := sk_stop (by rw [hm]; decide)
    refine u_X5_readTruth_13 hB hx ⟨fun q => absurd q (nI_ge (b := 160) (by omega) (by omega)), fun _ => c_take hB H hC hr (fun q => absurd q (by rw [hs, hm]; decide)) (fun q => ⟨fun _ => ?_, fun z => absurd z (by decide)⟩)⟩
    rw [hs]; exact hF
  | succ d ih =>
    intro i r cs v hi hr hd hk hF
    have s1 := sk_ge (h := h) (len := len) r
    have s2 := sk_le (h := h) (len := len) hr
    refine u_X5_readTruth_13 hB hx ⟨fun q => absurd q (nI_ge (b := 160) (by omega) (by omega)), fun _ => c_take hB H hC hr (fun q => ⟨fun z => absurd z (by decide), fun _ => ?_⟩) (fun q => ⟨fun _ => ?_, fun z => absurd z (by decide)⟩)⟩
    · obtain ⟨d', ed, hlt, eloop⟩ := loop_go (el := el) (cs := cs) (v := v) H kAn_ok hr hd (show kAn (h (sk h len r)) = some 10 by rw [q]; rfl)
      have ed' : d' = d := by omega
      subst ed'
      rw [eloop] at hF
      have hE := hPK (sk h len r + 1) (by omega)
      refine hel _ _ _ _ _ (by omega) (by omega) ?_
      cases hq : el (sk h len r + 1) with
      | inl e =>
        rw [hq] at hF
        exact fun k' f' g' => ⟨fun z => absurd z (by decide), fun _ => hF k' f' g'⟩
      | inr q =>
        rw [hq] at hF hE
        obtain ⟨e1, e2, e3, _, _, _⟩ := hE
        obtain ⟨j1, j2, j3⟩ := join_st (k2 := 10) (cs := cs) (cs' := q.2.1) (v := v) (v' := q.2.2) (k0 := k0) (f0 := f0) (g0 := g0)
        refine ⟨fun _ => c_write hB (by omega) ?_, fun z => absurd z (by decide)⟩
        rw [show (38 : Int32) = sgC 10 from rfl, j1, j2, j3, nI_1]
        exact ih (i + 1) q.1 _ _ (by omega) e2 (by omega) (by omega) hF
    · rw [loop_end (z := true) H kAn_ok hr hd (by unfold kAn; rw [if_neg q])] at hF
      exact hF
theorem c_loopO {F : Bool → sm_MI → sm_ML → Prop} {x : sm_Cx} {el : Nat → PRt} {m k0 : Nat} {f0 g0 : Nat → Int32} {b2 : Bool} (hB : sm_Bs T) (H : tpH h len) (hC : CTp h len I) (hx : sm_Ok x mX5_readCondition (n + 3) (sm_KZ T F)) (hel : cEl T I L len (n + 2) mX5_readTruth [.int (nI dep), .int (sm_z false)] el) (hPK : ∀ p, p ≤ len → PK len p m true (el p)) :
    ∀ d i r cs v, i < r → r ≤ len → len ≤ r + d → k0 + cs.length ≤ r → cOK F I L k0 f0 g0 (loopP h len el kOr d r cs v) → sm_V x 0 0 T (rS I r (k0 + cs.length) (wrG mSg f0 k0 cs) (wrG mNv g0 k0 cs)) L 13 [some (.ref 18), some (.int (nI dep)), some (.int (sm_z b2)), some (.int (nI i))] [] := by
  have hl := H.1
  intro d
  induction d with
  | zero =>
    intro i r cs v hi hr hd hk hF
    have hm : h r = -1 := H.2.1 r (by omega)
    have hs : sk h len r = r := sk_stop (by rw [hm]; decide)
    refine u_X5_readCondition_13 hB hx ⟨fun q => absurd q (nI_ge (b := 160) (by omega) (by omega)), fun _ => c_take hB H hC hr (fun q => absurd q (by rw [hs, hm]; decide)) (fun q => ⟨fun _ => ?_, fun z => absurd z (by decide)⟩)⟩
    rw [hs]; exact hF
  | succ d ih =>
    intro i r cs v hi hr hd hk hF
    have s1 := sk_ge (h := h) (len := len) r
    have s2 := sk_le (h := h) (len := len) hr
    refine u_X5_readCondition_13 hB hx ⟨fun q => absurd q (nI_ge (b := 160) (by omega) (by omega)), fun _ => c_take hB H hC hr (fun q => ⟨fun z => absurd z (by decide), fun _ => ?_⟩) (fun q => ⟨fun _ => ?_, fun z => absurd z (by decide)⟩)⟩
    · obtain ⟨d', ed, hlt, eloop⟩ := loop_go (el := el) (cs := cs) (v := v) H kOr_ok hr hd (show kOr (h (sk h len r)) = some 11 by rw [q]; rfl)
      have ed' : d' = d := by omega
      subst ed'
      rw [eloop] at hF
      have hE := hPK (sk h len r + 1) (by omega)
      refine hel _ _ _ _ _ (by omega) (by omega) ?_
      cases hq : el (sk h len r + 1) with
      | inl e =>
        rw [hq] at hF
        exact fun k' f' g' => ⟨fun z => absurd z (by decide), fun _ => hF k' f' g'⟩
      | inr q =>
        rw [hq] at hF hE
        obtain ⟨e1, e2, e3, _, _, _⟩ := hE
        obtain ⟨j1, j2, j3⟩ := join_st (k2 := 11) (cs := cs) (cs' := q.2.1) (v := v) (v' := q.2.2) (k0 := k0) (f0 := f0) (g0 := g0)
        refine ⟨fun _ => c_write hB (by omega) ?_, fun z => absurd z (by decide)⟩
        rw [show (124 : Int32) = sgC 11 from rfl, j1, j2, j3, nI_1]
        exact ih (i + 1) q.1 _ _ (by omega) e2 (by omega) (by omega) hF
    · rw [loop_end (z := true) H kOr_ok hr hd (by unfold kOr; rw [if_neg q])] at hF
      exact hF
theorem c_truth {el : Nat → PRt} {m q0 : Nat} {P : PRt} {b2 : Bool} (hB : sm_Bs T) (H : tpH h len) (hC : CTp h len I) (hk : k ≤ q0) (hU : cSt T I J L (n + 2) mX5_readUnit [.int (nI dep), .int (sm_z b2)] k f g P) (hE : PK len q0 m true P) (hel : cEl T I L len (n + 2) mX5_readUnit [.int (nI dep), .int (sm_z false)] el) (hPK : ∀ p, p ≤ len → PK len p m true (el p)) : cSt T I J L (n + 3) mX5_readTruth [.int (nI dep), .int (sm_z b2)] k f g (goP h len el kAn P) := by
  intro F hF
  refine c_X5_readTruth hB (fun x hx => hU _ ?_)
  cases hq : P with
  | inl e =>
    rw [hq] at hF
    exact fun k' f' g' => ⟨fun z => absurd z (by decide), fun _ => hF k' f' g'⟩
  | inr q =>
    rw [hq] at hF hE
    obtain ⟨e1, e2, e3, _, _, _⟩ := hE
    exact ⟨fun _ => c_loopA hB H hC hx hel hPK (len - q.1) 0 q.1 q.2.1 q.2.2 (by omega) e2 (by omega) (by omega) hF, fun z => absurd z (by decide)⟩
theorem c_cond {un : Nat → PRt} {m q0 : Nat} {P : PRt} {b2 : Bool} (hB : sm_Bs T) (H : tpH h len) (hC : CTp h len I) (hk : k ≤ q0) (hm : 1 ≤ m) (hU : cSt T I J L (n + 2) mX5_readUnit [.int (nI dep), .int (sm_z b2)] k f g P) (hE : PK len q0 m true P) (hel : cEl T I L len (n + 2) mX5_readUnit [.int (nI dep), .int (sm_z false)] un) (hPK : ∀ p, p ≤ len → PK len p m true (un p)) : cSt T I J L (n + 4) mX5_readCondition [.int (nI dep), .int (sm_z b2)] k f g (cndF h len un P) := by
  intro F hF
  have ht : cEl T I L len (n + 3) mX5_readTruth [.int (nI dep), .int (sm_z false)] (truthP h len un) := by
    intro F p k f g hp hk hF
    exact c_truth (q0 := p) hB H hC hk (fun F hF => hel F p k f g hp hk hF) (hPK p hp) hel hPK F hF
  have htP : ∀ p, p ≤ len → PK len p (m + 1) true (truthP h len un p) := fun p hp => PK_go H hPK kAn_ok (Nat.le_refl _) hm (PK_up (hPK p hp) (Nat.le_refl _) (by omega))
  have h1 := c_truth hB H hC hk hU hE hel hPK
  have hE1 : PK len q0 (m + 1) true (goP h len un kAn P) := PK_go H hPK kAn_ok (Nat.le_refl _) hm (PK_up hE (Nat.le_refl _) (by omega))
  refine c_X5_readCondition hB (fun x hx => h1 _ ?_)
  unfold cndF at hF
  cases hq : goP h len un kAn P with
  | inl e =>
    rw [hq] at hF
    exact fun k' f' g' => ⟨fun z => absurd z (by decide), fun _ => hF k' f' g'⟩
  | inr q =>
    rw [hq] at hF hE1
    obtain ⟨e1, e2, e3, _, _, _⟩ := hE1
    exact ⟨fun _ => c_loopO (n := n + 1) hB H hC hx ht htP (len - q.1) 0 q.1 q.2.1 q.2.2 (by omega) e2 (by omega) (by omega) hF, fun z => absurd z (by decide)⟩
/-- a comparison, its left sum read -/
theorem c_cmp {F : Bool → sm_MI → sm_ML → Prop} {sm : Nat → PRt} {m q0 : Nat} {q : Nat × cdL × vfn} (hB : sm_Bs T) (H : tpH h len) (hC : CTp h len I) (hk : k ≤ q0) (hsm : cEl T I L len (n + 1) mX5_readSum [.int (nI dep)] sm) (hPK : ∀ p, p ≤ len → PK len p m false (sm p)) (hE : PK len q0 m false (.inr q)) (hF : cOK F I L k f g (cmpP h len sm (.inr q))) :
    sm_CI (n + 1) mX2_nextSign T (rS I q.1 (k + q.2.1.length) (wrG mSg f k q.2.1) (wrG mNv g k q.2.1)) L [.ref 18] (fun r12 I11 L11 => sm_CZ (n + 1) mX5_isRelation T I11 L11 [.int r12] (fun r14 I13 L13 => (r14 = true → sm_CV (n + 1) mX2_goOn T I13 L13 [.ref 18] (fun I15 L15 => sm_CZ (n + 1) mX5_readSum T I15 L15 [.ref 18, .int (nI dep)] (fun r17 I16 L16 => (r17 = true → sm_CV (n + 1) mX5_write T I16 L16 [.ref 18, .int r12, .int 0] (fun I18 L18 => F true I18 L18)) ∧ (r17 = false → F false I16 L16)))) ∧ (r14 = false → F false I13 L13))) := by
  have hl := H.1
  obtain ⟨e1, e2, e3, _, _, _⟩ := hE
  have s1 := sk_ge (h := h) (len := len) q.1
  have s2 := sk_le (h := h) (len := len) e2
  refine c_next hB H hC e2 (c_isRelation hB ?_)
  rw [cmpP] at hF
  rcases isR_kRl (h (sk h len q.1)) with ⟨z1, kk, z2, z3⟩ | ⟨z1, z2⟩
  · rw [z2] at hF
    rw [z1]
    have hlt := H.lt (kRl_ok _ _ z2).1
    have hE2 := hPK (sk h len q.1 + 1) (by omega)
    refine ⟨fun _ => c_goOn hB (hsm _ _ _ _ _ (by omega) (by omega) ?_), fun y => absurd y (by decide)⟩
    have hF' : cOK F I L k f g (match sm (sk h len q.1 + 1) with
      | .inl e => .inl e
      | .inr z => .inr (z.1, joinP kk q.2.1 q.2.2 z.2.1 z.2.2)) := hF
    cases hq : sm (sk h len q.1 + 1) with
    | inl e =>
      rw [hq] at hF'
      exact fun k' f' g' => ⟨fun y => absurd y (by decide), fun _ => hF' k' f' g'⟩
    | inr w =>
      rw [hq] at hF' hE2
      obtain ⟨d1, d2, d3, _, _, _⟩ := hE2
      obtain ⟨j1, j2, j3⟩ := join_st (k2 := kk) (cs := q.2.1) (cs' := w.2.1) (v := q.2.2) (v' := w.2.2) (k0 := k) (f0 := f) (g0 := g)
      refine ⟨fun _ => c_write hB (by omega) ?_, fun y => absurd y (by decide)⟩
      rw [← z3, j1, j2, j3]
      exact hF'
  · rw [z2] at hF
    rw [z1]
    exact ⟨fun y => absurd y (by decide), fun _ => hF _ _ _⟩
theorem c_notP {F : Bool → sm_MI → sm_ML → Prop} {P : PRt} {m q0 : Nat} (hB : sm_Bs T) (H : tpH h len) (hk : k < q0) (hE : PK len q0 m true P) (hF : cOK F I L k f g (notP P)) : cOK (fun r2 I1 L1 => (r2 = true → sm_CV (n + 1) mX5_write T I1 L1 [.ref 18, .int 33, .int 0] (fun I3 L3 => F true I3 L3)) ∧ (r2 = false → F false I1 L1)) I L k f g P := by
  have hl := H.1
  cases P with
  | inl a => exact fun k' f' g' => ⟨fun y => absurd y (by decide), fun _ => hF k' f' g'⟩
  | inr q =>
    obtain ⟨e1, e2, e3, _, _, _⟩ := hE
    refine ⟨fun _ => c_write hB (by omega) ?_, fun y => absurd y (by decide)⟩
    have hF' : F true (rS I q.1 (k + (q.2.1 ++ [(9, 0)]).length) (wrG mSg f k (q.2.1 ++ [(9, 0)])) (wrG mNv g k (q.2.1 ++ [(9, 0)]))) L := hF
    rw [wrG_app, wrG_app, List.length_append, List.length_singleton] at hF'
    exact hF'
/-- units with lv brackets left -/
theorem c_unitK (hB : sm_Bs T) (H : tpH h len) (hC : CTp h len I) : ∀ (lv n : Nat), lv ≤ 6 → cEl T I L len (n + 3 * lv + 7) mX5_readUnit [.int (nI (6 - lv)), .int (sm_z false)] (unK h len lv) := by
  have hl := H.1
  -- one level
  have mk : ∀ lv (n : Nat), lv ≤ 6 → (∀ (n : Nat) fi, unO h len lv = some fi → cEl T I L len (n + 3 * lv + 4) mX5_readUnit [.int (nI (7 - lv)), .int (sm_z false)] fi) → cEl T I L len (n + 3 * lv + 7) mX5_readUnit [.int (nI (6 - lv)), .int (sm_z false)] (unK h len lv) := by
    intro lv n hlv hin F p k f g hp hk hF
    have s1 := sk_ge (h := h) (len := len) p
    have s2 := sk_le (h := h) (len := len) hp
    have hsum := c_sumK (n := n) (L := L) hB H hC lv hlv
    have PKin := (PK_unit H lv).1
    unfold unK unitP at hF
    refine c_X5_readUnit hB (fun x hx => ⟨fun _ => c_next hB H hC hp (u_X5_readUnit_12 hB hx ⟨fun q => u_X5_readUnit_25 hB hx ⟨fun q2 => ?_, fun q2 => ?_⟩, fun q => ⟨fun q2 => ⟨fun q3 => absurd q3 (by decide), fun _ => ?_⟩, fun q2 => u_X5_readUnit_25 hB hx ⟨fun q3 => ?_, fun q3 => ?_⟩⟩⟩), fun q => absurd q (by decide)⟩)
    · rw [if_pos q] at hF
      have hlt := H.lt (p := sk h len p) (by rw [q]; decide)
      cases lv with
      | zero => exact absurd q2 (by decide)
      | succ lv =>
        have e7 : nI (6 - (lv + 1)) + 1 = nI (7 - (lv + 1)) := by rw [nI_1]; exact congrArg nI (by omega)
        have hF' : cOK F I L k f g (notP (unK h len lv (sk h len p + 1))) := hF
        refine c_goOn hB ⟨fun y => absurd q y, fun _ => ?_⟩
        rw [e7]
        refine c_X5_readDenied hB ?_
        have hr := hin (n + 1) _ rfl
        rw [show n + 1 + 3 * (lv + 1) + 4 = n + 3 * (lv + 1) + 5 by omega] at hr
        refine hr _ _ _ _ _ (by omega) (by omega) ?_
        exact c_notP hB H (by omega) (PKin _ rfl _ (by omega)) hF'
    · rw [if_pos q] at hF
      cases lv with
      | zero => exact hF _ _ _
      | succ lv => exact absurd (nI_lt (a := 6 - (lv + 1)) (b := 6) (by omega) (by decide)) q2
    · rw [if_neg q, if_neg q2] at hF
      have hE := (PK_sum H lv).2.2 (sk h len p) s2
      refine hsum _ _ _ _ _ s2 (by omega) ?_
      cases hq : sumK h len lv (sk h len p) with
      | inl e =>
        rw [hq] at hF
        exact fun k' f' g' => ⟨fun y => absurd y (by decide), fun _ => hF k' f' g'⟩
      | inr w =>
        rw [hq] at hF hE
        exact ⟨fun _ => c_cmp (n := n + 3 * lv + 5) hB H hC (by omega) hsum (fun p hp => (PK_sum H lv).2.2 p hp) hE hF, fun y => absurd y (by decide)⟩
    · rw [if_neg q, if_pos q2] at hF
      have hlt := H.lt (p := sk h len p) (by rw [q2]; decide)
      cases lv with
      | zero => exact absurd q3 (by decide)
      | succ lv =>
        have e7 : nI (6 - (lv + 1)) + 1 = nI (7 - (lv + 1)) := by rw [nI_1]; exact congrArg nI (by omega)
        have hF' : cOK F I L k f g (clsP h len 41 (condP h len (unK h len lv) (sk h len p + 1))) := hF
        refine c_goOn hB ⟨fun _ => ?_, fun y => absurd (y.symm.trans q2) (by decide)⟩
        rw [e7]
        have hr := hin n _ rfl
        have hp2 : ∀ p, p ≤ len → PK len p (2 + 2 * (lv + 1)) true (unK h len lv p) := fun p hp => PKin _ rfl p hp
        have hcd := c_cond (n := n + 3 * (lv + 1) + 2) (k := k) (f := f) (g := g) (J := rS I (sk h len p + 1) k f g) (q0 := sk h len p + 1) hB H hC (by omega) (by omega) (fun F hF => hr F _ _ _ _ (by omega) (by omega) hF) (hp2 _ (by omega)) hr hp2
        exact hcd _ (c_cls (n := n + 3 * (lv + 1) + 4) hB H hC (PK_cndF H hp2 (by omega) (hp2 _ (by omega))) hF')
    · rw [if_neg q, if_pos q2] at hF
      cases lv with
      | zero => exact hF _ _ _
      | succ lv => exact absurd (nI_lt (a := 6 - (lv + 1)) (b := 6) (by omega) (by decide)) q3
  intro lv
  induction lv with
  | zero => intro n hlv; exact mk 0 n hlv (fun n fi e => by cases e)
  | succ lv ih =>
    intro n hlv
    refine mk (lv + 1) n hlv (fun n fi e => ?_)
    have e2 : unitP h len (sumK h len lv) (unO h len lv) = fi := Option.some.inj e
    rw [← e2, show n + 3 * (lv + 1) + 4 = n + 3 * lv + 7 by omega, show 7 - (lv + 1) = 6 - lv by omega]
    exact ih n (by omega)
end
