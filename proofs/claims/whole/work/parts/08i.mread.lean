section
variable {n : Nat} {T : List sm_Sh} {I I' : sm_MI} {L L' : sm_ML} {h : Nat → Int32} {len t a c B s : Nat} {wr dp : Int32} {f g : Nat → Int32}
theorem m_loopA {F : sm_MI → sm_ML → Prop} {x : sm_Cx} {un : Nat → PRt} {m c0 N : Nat} {f0 g0 : Nat → Int32} (hB : sm_Bs T) (H : tpH h len) (hM : MTp h len t I) (hBb : len ≤ B) (hBB : B ≤ 200) (hx : sm_Ok x mX12_goOnAnd (n + N + 2) (sm_KV T F)) (hel : ∀ n, mEl T I L len t (n + N + 1) dp B mX12_unit un) (hPK : ∀ p, p ≤ len → PK len p m true (un p)) :
    ∀ d r cs v, r ≤ len → len ≤ r + d → c0 + cs.length + s ≤ r → mOK F I L t dp B s c0 f0 g0 (loopP h len un kAn d r cs v) → sm_V x 0 0 T (mS I t r (-1) dp (c0 + cs.length) (wrG mKd f0 c0 cs) (wrG mNv g0 c0 cs)) L 0 [some (.ref 76)] [] := by
  have hl := H.1
  intro d
  induction d with
  | zero =>
    intro r cs v hr hd hk hF
    have hm : h r = -1 := H.2.1 r (by omega)
    have hs : sk h len r = r := sk_stop (by rw [hm]; decide)
    refine u_X12_goOnAnd_0 hB hx ⟨fun q => absurd rfl q, fun _ => m_look hB H hM (by omega) ?_⟩
    rw [hs, hm]
    exact ⟨fun _ => hF, fun q => absurd q (by decide)⟩
  | succ d ih =>
    intro r cs v hr hd hk hF
    have s1 := sk_ge (h := h) (len := len) r
    have s2 := sk_le (h := h) (len := len) hr
    refine u_X12_goOnAnd_0 hB hx ⟨fun q => absurd rfl q, fun _ => m_look hB H hM (by omega) ⟨fun q => ?_, fun q => ?_⟩⟩
    · rw [loop_end (z := true) H kAn_ok hr hd (by unfold kAn; rw [if_neg q])] at hF
      exact hF
    · obtain ⟨d', ed, hlt, eloop⟩ := loop_go (el := un) (cs := cs) (v := v) H kAn_ok hr hd (show kAn (h (sk h len r)) = some 10 by rw [q]; rfl)
      have ed' : d' = d := by omega
      subst ed'
      rw [eloop] at hF
      have hE := hPK (sk h len r + 1) (by omega)
      rw [mS_3, nI_1, mS_a]
      refine hel n _ _ (s + 1) _ _ _ (by omega) (by omega) ?_
      cases hq : un (sk h len r + 1) with
      | inl e =>
        rw [hq] at hF
        have he : nI e ≠ -1 := by
          rw [hq] at hE
          have : e ≤ len := hE
          exact nI_m1 (by omega)
        exact fun a' dp' c' f' g' ha hc => m_note hB hM (by omega) (u_X12_goOnAnd_0 hB hx ⟨fun _ => hF _ _ _ _ _ ha (by omega), fun z => absurd z he⟩)
      | inr q =>
        rw [hq] at hF hE
        obtain ⟨e1, e2, e3, _, _, _⟩ := hE
        obtain ⟨j1, j2, j3⟩ := joinM (k2 := 10) (cs := cs) (cs' := q.2.1) (v := v) (v' := q.2.2) (k0 := c0) (f0 := f0) (g0 := g0)
        refine m_note (x := nI 10) hB hM (by omega) ?_
        rw [j1, j2, j3]
        exact ih q.1 _ _ e2 (by omega) (by omega) hF
/-- and so on, behind P -/
theorem m_goOnAnd {F : sm_MI → sm_ML → Prop} {un : Nat → PRt} {m q0 N : Nat} {P : PRt} (hB : sm_Bs T) (H : tpH h len) (hM : MTp h len t I) (hBb : len ≤ B) (hBB : B ≤ 200) (hk : c + s ≤ q0) (hel : ∀ n, mEl T I L len t (n + N + 1) dp B mX12_unit un) (hPK : ∀ p, p ≤ len → PK len p m true (un p)) (hE : PK len q0 m true P) (hF : mOK F I L t dp B s c f g (goP h len un kAn P)) : mOK (fun I1 L1 => sm_CV (n + N + 2) mX12_goOnAnd T I1 L1 [.ref 76] F) I L t dp B s c f g P := by
  have hl := H.1
  cases P with
  | inl e =>
    have he : nI e ≠ -1 := by
      have : e ≤ len := hE
      exact nI_m1 (by omega)
    exact fun a' dp' c' f' g' ha hc => c_X12_goOnAnd hB (fun x hx => u_X12_goOnAnd_0 hB hx ⟨fun _ => hF _ _ _ _ _ ha hc, fun z => absurd z he⟩)
  | inr q =>
    obtain ⟨e1, e2, e3, _, _, _⟩ := hE
    exact c_X12_goOnAnd hB (fun x hx => m_loopA hB H hM hBb hBB hx hel hPK (len - q.1) q.1 q.2.1 q.2.2 e2 (by omega) (by omega) hF)
/-- a unit, and so on -/
theorem m_truth {F : sm_MI → sm_ML → Prop} {un : Nat → PRt} {m N p : Nat} (hB : sm_Bs T) (H : tpH h len) (hM : MTp h len t I) (hBb : len ≤ B) (hBB : B ≤ 200) (hp : p ≤ len) (hk : c + s ≤ p) (hel : ∀ n, mEl T I L len t (n + N + 1) dp B mX12_unit un) (hPK : ∀ p, p ≤ len → PK len p m true (un p)) (hF : mOK F I L t dp B s c f g (truthP h len un p)) : sm_CV (n + N + 2) mX12_unit T (mS I t p (-1) dp c f g) L [.ref 76] (fun I1 L1 => sm_CV (n + N + 2) mX12_goOnAnd T I1 L1 [.ref 76] F) := by
  have := hel (n + 1) (fun I1 L1 => sm_CV (n + N + 2) mX12_goOnAnd T I1 L1 [.ref 76] F) p s c f g hp hk (m_goOnAnd hB H hM hBb hBB hk hel hPK (hPK p hp) hF)
  rw [show n + 1 + N + 1 = n + N + 2 by omega] at this
  exact this
theorem m_loopO {F : sm_MI → sm_ML → Prop} {x : sm_Cx} {un : Nat → PRt} {m c0 N : Nat} {f0 g0 : Nat → Int32} (hB : sm_Bs T) (H : tpH h len) (hM : MTp h len t I) (hBb : len ≤ B) (hBB : B ≤ 200) (hm1 : 1 ≤ m) (hx : sm_Ok x mX12_goOnOr (n + N + 3) (sm_KV T F)) (hel : ∀ n, mEl T I L len t (n + N + 1) dp B mX12_unit un) (hPK : ∀ p, p ≤ len → PK len p m true (un p)) :
    ∀ d r cs v, r ≤ len → len ≤ r + d → c0 + cs.length + s ≤ r → mOK F I L t dp B s c0 f0 g0 (loopP h len (truthP h len un) kOr d r cs v) → sm_V x 0 0 T (mS I t r (-1) dp (c0 + cs.length) (wrG mKd f0 c0 cs) (wrG mNv g0 c0 cs)) L 0 [some (.ref 76)] [] := by
  have hl := H.1
  have htP : ∀ p, p ≤ len → PK len p (m + 1) true (truthP h len un p) := fun p hp => PK_go H hPK kAn_ok (Nat.le_refl _) hm1 (PK_up (hPK p hp) (Nat.le_refl _) (by omega))
  intro d
  induction d with
  | zero =>
    intro r cs v hr hd hk hF
    have hm : h r = -1 := H.2.1 r (by omega)
    have hs : sk h len r = r := sk_stop (by rw [hm]; decide)
    refine u_X12_goOnOr_0 hB hx ⟨fun q => absurd rfl q, fun _ => m_look hB H hM (by omega) ?_⟩
    rw [hs, hm]
    exact ⟨fun _ => hF, fun q => absurd q (by decide)⟩
  | succ d ih =>
    intro r cs v hr hd hk hF
    have s1 := sk_ge (h := h) (len := len) r
    have s2 := sk_le (h := h) (len := len) hr
    refine u_X12_goOnOr_0 hB hx ⟨fun q => absurd rfl q, fun _ => m_look hB H hM (by omega) ⟨fun q => ?_, fun q => ?_⟩⟩
    · rw [loop_end (z := true) H kOr_ok hr hd (by unfold kOr; rw [if_neg q])] at hF
      exact hF
    · obtain ⟨d', ed, hlt, eloop⟩ := loop_go (el := truthP h len un) (cs := cs) (v := v) H kOr_ok hr hd (show kOr (h (sk h len r)) = some 11 by rw [q]; rfl)
      have ed' : d' = d := by omega
      subst ed'
      rw [eloop] at hF
      have hE := htP (sk h len r + 1) (by omega)
      rw [mS_3, nI_1, mS_a]
      refine m_truth (s := s + 1) hB H hM hBb hBB (by omega) (by omega) hel hPK ?_
      cases hq : truthP h len un (sk h len r + 1) with
      | inl e =>
        rw [hq] at hF
        have he : nI e ≠ -1 := by
          rw [hq] at hE
          have : e ≤ len := hE
          exact nI_m1 (by omega)
        exact fun a' dp' c' f' g' ha hc => m_note hB hM (by omega) (u_X12_goOnOr_0 hB hx ⟨fun _ => hF _ _ _ _ _ ha (by omega), fun z => absurd z he⟩)
      | inr q =>
        rw [hq] at hF hE
        obtain ⟨e1, e2, e3, _, _, _⟩ := hE
        obtain ⟨j1, j2, j3⟩ := joinM (k2 := 11) (cs := cs) (cs' := q.2.1) (v := v) (v' := q.2.2) (k0 := c0) (f0 := f0) (g0 := g0)
        refine m_note (x := nI 11) hB hM (by omega) ?_
        rw [j1, j2, j3]
        exact ih q.1 _ _ e2 (by omega) (by omega) hF
/-- a condition from its first unit on -/
theorem m_cndF {F : sm_MI → sm_ML → Prop} {un : Nat → PRt} {m q0 N : Nat} {P : PRt} (hB : sm_Bs T) (H : tpH h len) (hM : MTp h len t I) (hBb : len ≤ B) (hBB : B ≤ 200) (hm1 : 1 ≤ m) (hk : c + s ≤ q0) (hel : ∀ n, mEl T I L len t (n + N + 1) dp B mX12_unit un) (hPK : ∀ p, p ≤ len → PK len p m true (un p)) (hE : PK len q0 m true P) (hF : mOK F I L t dp B s c f g (cndF h len un P)) : mOK (fun I1 L1 => sm_CV (n + N + 3) mX12_goOnAnd T I1 L1 [.ref 76] (fun I2 L2 => sm_CV (n + N + 3) mX12_goOnOr T I2 L2 [.ref 76] F)) I L t dp B s c f g P := by
  have hl := H.1
  have hE1 : PK len q0 (m + 1) true (goP h len un kAn P) := PK_go H hPK kAn_ok (Nat.le_refl _) hm1 (PK_up hE (Nat.le_refl _) (by omega))
  have inner : mOK (fun I2 L2 => sm_CV (n + N + 3) mX12_goOnOr T I2 L2 [.ref 76] F) I L t dp B s c f g (goP h len un kAn P) := by
    unfold cndF at hF
    cases hq : goP h len un kAn P with
    | inl e =>
      rw [hq] at hF hE1
      have he : nI e ≠ -1 := by
        have : e ≤ len := hE1
        exact nI_m1 (by omega)
      exact fun a' dp' c' f' g' ha hc => c_X12_goOnOr hB (fun x hx => u_X12_goOnOr_0 hB hx ⟨fun _ => hF _ _ _ _ _ ha hc, fun z => absurd z he⟩)
    | inr q =>
      rw [hq] at hF hE1
      obtain ⟨e1, e2, e3, _, _, _⟩ := hE1
      exact c_X12_goOnOr hB (fun x hx => m_loopO hB H hM hBb hBB hm1 hx hel hPK (len - q.1) q.1 q.2.1 q.2.2 e2 (by omega) (by omega) hF)
  have := m_goOnAnd (n := n + 1) hB H hM hBb hBB hk hel hPK hE inner
  rw [show n + 1 + N + 2 = n + N + 3 by omega] at this
  exact this
theorem m_condition {un : Nat → PRt} {m N : Nat} (hB : sm_Bs T) (H : tpH h len) (hM : MTp h len t I) (hBb : len ≤ B) (hBB : B ≤ 200) (hm1 : 1 ≤ m) (hel : ∀ n, mEl T I L len t (n + N + 1) dp B mX12_unit un) (hPK : ∀ p, p ≤ len → PK len p m true (un p)) : mEl T I L len t (n + N + 4) dp B mX12_condition (condP h len un) := by
  intro F p s c f g hp hk hF
  have hu := hel (n + 2)
  rw [show n + 2 + N + 1 = n + N + 3 by omega] at hu
  exact c_X12_condition hB (hu _ p s c f g hp hk (m_cndF hB H hM hBb hBB hm1 hk hel hPK (hPK p hp) hF))
/-- a comparison, its left sum read -/
theorem m_cmp {F : sm_MI → sm_ML → Prop} {sm : Nat → PRt} {m q0 : Nat} {q : Nat × cdL × vfn} (hB : sm_Bs T) (H : tpH h len) (hM : MTp h len t I) (hBb : len ≤ B) (hBB : B ≤ 200) (hk : c + s ≤ q0) (hsm : mEl T I L len t (n + 1) dp B mX12_sum sm) (hPK : ∀ p, p ≤ len → PK len p m false (sm p)) (hE : PK len q0 m false (.inr q)) (hF : mOK F I L t dp B s c f g (cmpP h len sm (.inr q))) : sm_CV (n + 2) mX12_compare T (mS I t q.1 (-1) dp (c + q.2.1.length) (wrG mKd f c q.2.1) (wrG mNv g c q.2.1)) L [.ref 76] F := by
  have hl := H.1
  obtain ⟨e1, e2, e3, _, _, _⟩ := hE
  have s1 := sk_ge (h := h) (len := len) q.1
  have s2 := sk_le (h := h) (len := len) e2
  refine c_X12_compare hB ⟨fun z => absurd rfl z, fun _ => m_look hB H hM (by omega) (m_isSign hB ?_)⟩
  rw [cmpP] at hF
  rcases isR_kRl (h (sk h len q.1)) with ⟨z1, kk, z2, z3⟩ | ⟨z1, z2⟩
  · rw [z2] at hF
    rw [z1]
    have hlt := H.lt (kRl_ok _ _ z2).1
    have hE2 := hPK (sk h len q.1 + 1) (by omega)
    have hF' : mOK F I L t dp B s c f g (match sm (sk h len q.1 + 1) with
      | .inl e => .inl e
      | .inr z => .inr (z.1, joinP kk q.2.1 q.2.2 z.2.1 z.2.2)) := hF
    refine ⟨fun _ => ?_, fun y => absurd y (by decide)⟩
    rw [mS_3, nI_1, mS_a]
    have main : sm_CV (n + 1) mX12_sum T (mS I t (sk h len q.1 + 1) (-1) dp (c + q.2.1.length) (wrG mKd f c q.2.1) (wrG mNv g c q.2.1)) L [.ref 76] (fun I10 L10 => sm_CV (n + 1) mX12_note T I10 L10 [.ref 76, .int (nI kk), .int 0] (fun I11 L11 => F I11 L11)) := by
      refine hsm _ _ (s + 1) _ _ _ (by omega) (by omega) ?_
      cases hq : sm (sk h len q.1 + 1) with
      | inl e =>
        rw [hq] at hF'
        exact fun a' dp' c' f' g' ha hc => m_note hB hM (by omega) (hF' _ _ _ _ _ ha (by omega))
      | inr w =>
        rw [hq] at hF' hE2
        obtain ⟨d1, d2, d3, _, _, _⟩ := hE2
        obtain ⟨j1, j2, j3⟩ := joinM (k2 := kk) (cs := q.2.1) (cs' := w.2.1) (v := q.2.2) (v' := w.2.2) (k0 := c) (f0 := f) (g0 := g)
        refine m_note hB hM (by omega) ?_
        rw [j1, j2, j3]
        exact hF'
    have h678 : (h (sk h len q.1) = 61 → kk = 6) ∧ (h (sk h len q.1) = 60 → kk = 7) ∧ (¬ h (sk h len q.1) = 61 → ¬ h (sk h len q.1) = 60 → kk = 8) := by
      unfold kRl at z2
      refine ⟨fun y => ?_, fun y => ?_, fun y y2 => ?_⟩
      · rw [if_pos y] at z2; exact (Option.some.inj z2).symm
      · rw [y, if_neg (by decide), if_pos rfl] at z2; exact (Option.some.inj z2).symm
      · rw [if_neg y, if_neg y2] at z2
        by_cases y3 : h (sk h len q.1) = 62
        · rw [if_pos y3] at z2; exact (Option.some.inj z2).symm
        · rw [if_neg y3] at z2; cases z2
    by_cases y1 : h (sk h len q.1) = 61
    · rw [h678.1 y1] at main
      exact sm_CV.mono main (fun I1 L1 g => ⟨fun z => absurd y1 z, fun _ => g⟩)
    · by_cases y2 : h (sk h len q.1) = 60
      · rw [h678.2.1 y2] at main
        exact sm_CV.mono main (fun I1 L1 g => ⟨fun _ => ⟨fun z => absurd y2 z, fun _ => g⟩, fun z => absurd z y1⟩)
      · rw [h678.2.2 y1 y2] at main
        exact sm_CV.mono main (fun I1 L1 g => ⟨fun _ => ⟨fun _ => g, fun z => absurd z y2⟩, fun z => absurd z y1⟩)
  · rw [z2] at hF
    rw [z1]
    exact ⟨fun y => absurd y (by decide), fun _ => m_bad hB (hF _ _ _ _ _ (by omega) (by omega))⟩
/-- units with lv brackets left -/
theorem m_unitK (hB : sm_Bs T) (H : tpH h len) (hM : MTp h len t I) : ∀ (lv n : Nat), lv ≤ 6 → mEl T I L len t (n + 4 * lv + 8) (nI (6 - lv)) (161 + lv) mX12_unit (unK h len lv) := by
  have hl := H.1
  have mk : ∀ lv (n : Nat), lv ≤ 6 → (∀ k, lv = k + 1 → ∀ n, mEl T I L len t (n + (4 * k + 7) + 1) (nI (6 - k)) (161 + k) mX12_unit (unK h len k)) → mEl T I L len t (n + 4 * lv + 8) (nI (6 - lv)) (161 + lv) mX12_unit (unK h len lv) := by
    intro lv n hlv hin F p s c f g hp hk hF
    have s1 := sk_ge (h := h) (len := len) p
    have s2 := sk_le (h := h) (len := len) hp
    have hsum := m_sumK (n := n + lv + 1) (L := L) hB H hM lv hlv
    rw [show n + lv + 1 + 3 * lv + 6 = n + 4 * lv + 7 by omega] at hsum
    have hsum2 := m_sumK (n := n + lv) (L := L) hB H hM lv hlv
    rw [show n + lv + 3 * lv + 6 = n + 4 * lv + 5 + 1 by omega] at hsum2
    have PKs : ∀ p, p ≤ len → PK len p (3 + 2 * lv) false (sumK h len lv p) := fun p hp => (PK_sum H lv).2.2 p hp
    unfold unK unitP at hF
    refine c_X12_unit hB (m_look hB H hM (by omega) ⟨fun q => ⟨fun q2 => ?_, fun q2 => ?_⟩, fun q => ?_⟩)
    · rw [if_neg q, if_neg q2] at hF
      have hE := PKs (sk h len p) s2
      refine hsum _ _ s _ _ _ s2 (by omega) ?_
      cases hq : sumK h len lv (sk h len p) with
      | inl e =>
        rw [hq] at hF
        obtain ⟨he, _⟩ := nI_fault PKs H hq s2
        exact fun a' dp' c' f' g' ha hc => ⟨fun _ => hF _ _ _ _ _ ha hc, fun z => absurd z he⟩
      | inr w =>
        rw [hq] at hF hE
        refine ⟨fun z => absurd rfl z, fun _ => m_cmp (n := n + 4 * lv + 5) hB H hM (by omega) (by omega) (by omega) hsum2 PKs hE hF⟩
    · rw [if_neg q, if_pos q2] at hF
      have hlt := H.lt (p := sk h len p) (by rw [q2]; decide)
      refine m_opens hB hlv (fun k hk' => ⟨fun z => absurd rfl z, fun _ => ?_⟩) (fun hk' => ⟨fun _ => ?_, fun z => absurd z (nI_m1 (by omega))⟩)
      · subst hk'
        have hF' : mOK F I L t (nI (6 - (k + 1))) (161 + (k + 1)) s c f g (clsP h len 41 (condP h len (unK h len k) (sk h len p + 1))) := hF
        have PKu : ∀ p, p ≤ len → PK len p (4 + 2 * k) true (unK h len k p) := fun p hp => (PK_unit H k).2 p hp
        have hcd := m_condition (n := n) (N := 4 * k + 7) hB H hM (by omega) (by omega) (by omega) (hin k rfl) PKu
        rw [show n + (4 * k + 7) + 4 = n + 4 * (k + 1) + 7 by omega] at hcd
        refine hcd _ _ s _ _ _ (by omega) (by omega) ?_
        have hE := PK_cndF H PKu (by omega) (PKu (sk h len p + 1) (by omega))
        have hE' : PK len (sk h len p + 1) (4 + 2 * k + 2) true (condP h len (unK h len k) (sk h len p + 1)) := hE
        cases hq : condP h len (unK h len k) (sk h len p + 1) with
        | inl e =>
          rw [hq] at hF' hE'
          have he : nI e ≠ -1 := by
            have : e ≤ len := hE'
            exact nI_m1 (by omega)
          exact fun a' dp' c' f' g' ha hc => m_closes_no hB he (hF' _ _ _ _ _ (by omega) (by omega))
        | inr w =>
          rw [hq] at hF' hE'
          obtain ⟨e1, e2, e3, _, _, _⟩ := hE'
          have s3 := sk_ge (h := h) (len := len) w.1
          have s4 := sk_le (h := h) (len := len) e2
          have ed : nI (6 - k) - 1 = nI (6 - (k + 1)) := by
            have := pk_sub (a := 6 - k) (b := 1) (by omega)
            rw [show 6 - (k + 1) = 6 - k - 1 by omega]
            exact this
          refine m_closes (n := n + 4 * (k + 1) + 5) hB H hM (by omega) (fun y => ?_) (fun y => ?_)
          · rw [clsP, if_pos y] at hF'
            rw [ed]; exact hF'
          · rw [clsP, if_neg y] at hF'
            exact hF' _ _ _ _ _ (by omega) (by omega)
      · subst hk'
        exact hF _ _ _ _ _ (by omega) (by omega)
    · rw [if_pos q] at hF
      have hlt := H.lt (p := sk h len p) (by rw [q]; decide)
      refine m_opens hB hlv (fun k hk' => ⟨fun z => absurd rfl z, fun _ => ?_⟩) (fun hk' => ⟨fun _ => ?_, fun z => absurd z (nI_m1 (by omega))⟩)
      · subst hk'
        have hF' : mOK F I L t (nI (6 - (k + 1))) (161 + (k + 1)) s c f g (notP (unK h len k (sk h len p + 1))) := hF
        have hu := hin k rfl (n + 3)
        rw [show n + 3 + (4 * k + 7) + 1 = n + 4 * (k + 1) + 7 by omega] at hu
        refine hu _ _ (s + 1) _ _ _ (by omega) (by omega) ?_
        have hE := (PK_unit H k).2 (sk h len p + 1) (by omega)
        have ed : nI (6 - k) - 1 = nI (6 - (k + 1)) := by
          have := pk_sub (a := 6 - k) (b := 1) (by omega)
          rw [show 6 - (k + 1) = 6 - k - 1 by omega]
          exact this
        cases hq : unK h len k (sk h len p + 1) with
        | inl e =>
          rw [hq] at hF'
          refine fun a' dp' c' f' g' ha hc => m_note hB hM (by omega) ?_
          rw [mS_5, mS_d]
          exact hF' _ _ _ _ _ (by omega) (by omega)
        | inr w =>
          rw [hq] at hF' hE
          obtain ⟨e1, e2, e3, _, _, _⟩ := hE
          refine m_note (x := nI 9) hB hM (by omega) ?_
          rw [mS_5, mS_d, ed]
          have hF2 : F (mS I t w.1 (-1) (nI (6 - (k + 1))) (c + (w.2.1 ++ [(9, 0)]).length) (wrG mKd f c (w.2.1 ++ [(9, 0)])) (wrG mNv g c (w.2.1 ++ [(9, 0)]))) L := hF'
          rw [wrG_app, wrG_app, List.length_append, List.length_singleton] at hF2
          exact hF2
      · subst hk'
        exact hF _ _ _ _ _ (by omega) (by omega)
  intro lv
  induction lv with
  | zero => intro n hlv; exact mk 0 n hlv (fun k e => by cases e)
  | succ lv ih =>
    intro n hlv
    refine mk (lv + 1) n hlv (fun k e n => ?_)
    have e2 : lv = k := by omega
    subst e2
    rw [show n + (4 * lv + 7) + 1 = n + 4 * lv + 8 by omega]
    exact ih n (by omega)
end
