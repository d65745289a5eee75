/-! ===== homing of the class's ===== -/
section
variable {n : Nat} {T : List sm_Sh} {I I' I1 I0 : sm_MI} {L L' : sm_ML} {A : Nat → Nat → Int32} {H S N R ν lb b ν' lb' b' t w : Nat} {W : Nat → (Nat → Int32) → Int32} {f u : Nat → Int32} {g g' hh s : Int32}
theorem s_starts {F : Int32 → sm_MI → sm_ML → Prop} (hB : sm_Bs T) (hH : I 24 0 = nI H) (hN : I 24 2 = nI N) (h8 : N ≤ 8) (h : F (nI (H ^ N)) I L) : sm_CI n mX8_starts T I L [.ref 24] F := by
  refine c_X8_starts hB (fun x hx => ?_)
  have key : ∀ d t, t + d = N → sm_V x 0 0 T I L 4 [some (.ref 24), some (.int (nI (H ^ t))), some (.int (nI t))] [] := by
    intro d
    induction d with
    | zero =>
      intro t e
      have : t = N := by omega
      subst this
      exact u_X8_starts_4 hB hx ⟨fun _ => h, fun q => absurd (by rw [hN]; exact nI_le (Nat.le_refl _) (by omega)) q⟩
    | succ d ih =>
      intro t e
      refine u_X8_starts_4 hB hx ⟨fun q => absurd q (by rw [hN]; exact nI_ge (by omega) (by omega)), fun _ => ?_⟩
      have e1 : nI (H ^ t) * nI H = nI (H ^ (t + 1)) := by rw [Nat.pow_succ]; exact pk_mul _ _
      rw [hH, e1, nI_1]
      exact ih (t + 1) (by omega)
  exact key N 0 (by omega)
theorem vO_c {p : Int32} (ht : t < N) : cU N p t = nI (vO (cU N p) t) := by
  obtain ⟨k, hk, e⟩ := cU_lt p ht
  unfold vO
  rw [e, nI_clamp (by omega)]
theorem s_startOf {F : Int32 → sm_MI → sm_ML → Prop} {p : Int32} (hB : sm_Bs T) (hH : I 24 0 = nI H) (hN : I 24 2 = nI N) (h8 : N ≤ 8) (h : F (nI (stF H (vO (cU N p)) N)) I L) : sm_CI (n + 1) mX8_startOf T I L [.ref 24, .int p] F := by
  refine c_X8_startOf hB (fun x hx => ?_)
  have key : ∀ d t, t + d = N → sm_V x 0 0 T I L 4 [some (.ref 24), some (.int p), some (.int (nI (stF H (vO (cU N p)) t))), some (.int (nI t))] [] := by
    intro d
    induction d with
    | zero =>
      intro t e
      have : t = N := by omega
      subst this
      exact u_X8_startOf_4 hB hx ⟨fun _ => h, fun q => absurd (by rw [hN]; exact nI_le (Nat.le_refl _) (by omega)) q⟩
    | succ d ih =>
      intro t e
      refine u_X8_startOf_4 hB hx ⟨fun q => absurd q (by rw [hN]; exact nI_ge (by omega) (by omega)), fun _ => s_placeIn hB ?_⟩
      have e1 : nI (stF H (vO (cU N p)) t) * nI H + qPl p (nI t) = nI (stF H (vO (cU N p)) (t + 1)) := by
        rw [← cU_at (N := N) p (show t < N by omega), vO_c (show t < N by omega), pk_mul, nI_add]
        rfl
      rw [hH, e1, nI_1]
      exact ih (t + 1) (by omega)
  exact key N 0 (by omega)
theorem s_digitsOf {F : Int32 → sm_MI → sm_ML → Prop} {p : Int32} (hB : sm_Bs T) (hN : I 24 2 = nI N) (h8 : N ≤ 8) (h : F (nI (dgF (vO (cU N p)) N)) I L) : sm_CI (n + 1) mX8_digitsOf T I L [.ref 24, .int p] F := by
  refine c_X8_digitsOf hB (fun x hx => ?_)
  have key : ∀ d t, t + d = N → sm_V x 0 0 T I L 4 [some (.ref 24), some (.int p), some (.int (nI (dgF (vO (cU N p)) t))), some (.int (nI t))] [] := by
    intro d
    induction d with
    | zero =>
      intro t e
      have : t = N := by omega
      subst this
      exact u_X8_digitsOf_4 hB hx ⟨fun _ => h, fun q => absurd (by rw [hN]; exact nI_le (Nat.le_refl _) (by omega)) q⟩
    | succ d ih =>
      intro t e
      refine u_X8_digitsOf_4 hB hx ⟨fun q => absurd q (by rw [hN]; exact nI_ge (by omega) (by omega)), fun _ => s_placeIn hB ?_⟩
      have e1 : 10 * nI (dgF (vO (cU N p)) t) + qPl p (nI t) = nI (dgF (vO (cU N p)) (t + 1)) := by
        have e2 : (10 : Int32) * nI (dgF (vO (cU N p)) t) = nI (10 * dgF (vO (cU N p)) t) := pk_mul 10 _
        rw [← cU_at (N := N) p (show t < N by omega), vO_c (show t < N by omega), e2, nI_add, Nat.mul_comm]
        rfl
      rw [e1, nI_1]
      exact ih (t + 1) (by omega)
  exact key N 0 (by omega)
theorem s_placesOf {F : Int32 → sm_MI → sm_ML → Prop} {st : Nat} (hB : sm_Bs T) (hH : I 24 0 = nI H) (h0 : 0 < H) (hH8 : H ≤ 8) (hN : I 24 2 = nI N) (h8 : N ≤ 8) (hst : st < 2 ^ 31) (h : ∀ p, cU N p = plL H N st → F p I L) : sm_CI (n + 1) mX8_placesOf T I L [.ref 24, .int (nI st)] F := by
  refine c_X8_placesOf hB (fun x hx => ?_)
  rw [hN]
  have key : ∀ k p, k ≤ N → cU N p = (fun t => if k ≤ t ∧ t < N then nI (dgt H N st t) else 0) → sm_V x 0 0 T I L 12 [some (.ref 24), some (.int (nI st)), some (.int p), some (.int (nI (st / H ^ (N - k)))), some (.int (nI k - 1))] [] := by
    intro k
    induction k with
    | zero =>
      intro p hk hp
      refine u_X8_placesOf_12 hB hx ⟨fun _ => h p ?_, fun q => absurd (by decide) q⟩
      rw [hp]
      funext t
      unfold plL
      by_cases ht : t < N
      · rw [if_pos ⟨by omega, ht⟩, if_pos ht]
      · rw [if_neg (fun y => ht y.2), if_neg ht]
    | succ k ih =>
      intro p hk hp
      have e1 : nI (k + 1) - 1 = nI k := pk_sub (a := k + 1) (b := 1) (by omega)
      rw [e1]
      have hdv : st / H ^ (N - (k + 1)) < 2 ^ 31 := Nat.lt_of_le_of_lt (Nat.div_le_self _ _) hst
      have hrem : nI (st / H ^ (N - (k + 1))) - nI (st / H ^ (N - (k + 1))) / nI H * nI H = nI (dgt H N st k) := by
        unfold dgt
        rw [pk_rem hdv h0 (by omega), show N - 1 - k = N - (k + 1) by omega]
      have hdiv : nI (st / H ^ (N - (k + 1))) / nI H = nI (st / H ^ (N - k)) := by
        rw [pk_div hdv h0 (by omega), Nat.div_div_eq_div_mul, ← Nat.pow_succ, show (N - (k + 1)).succ = N - k by omega]
      have e2 : nI k + (-1) = nI k - 1 := by rw [Int32.sub_eq_add_neg]
      refine u_X8_placesOf_12 hB hx ⟨fun q => absurd q (nI_pos (by omega)), fun _ => ⟨fun q => absurd q (by rw [hH]; exact nI_nle h0 (by omega)), fun _ => ⟨by rw [hH]; exact nI_ne0 h0 (by omega), s_placed hB ⟨by rw [hH]; exact nI_ne0 h0 (by omega), ?_⟩⟩⟩⟩
      rw [hH, hrem, hdiv, e2]
      have hd : dgt H N st k < H := Nat.mod_lt _ h0
      refine ih _ (by omega) ?_
      rw [cU_Pd p h8 (by omega) (by omega), hp]
      funext t
      by_cases et : t = k
      · subst et
        rw [pk_us, if_pos ⟨Nat.le_refl _, by omega⟩]
      · rw [pk_un et]
        by_cases q : k ≤ t ∧ t < N
        · rw [if_pos q, if_pos ⟨by omega, q.2⟩]
        · rw [if_neg q, if_neg (fun y => q ⟨by omega, y.2⟩)]
  have go := key N 0 (Nat.le_refl _) ?_
  · rw [Nat.sub_self, Nat.pow_zero, Nat.div_one] at go
    exact go
  · funext t
    rw [if_neg (by omega)]
    unfold cU
    by_cases ht : t < N
    · rw [if_pos ht]
      exact (by decide +kernel : ∀ t, t < 8 → qPl 0 (nI t) = 0) t (by omega)
    · rw [if_neg ht]
      by_cases e : t = N
      · rw [if_pos e]
        exact (by decide +kernel : ∀ m, m ≤ 8 → q_s 0 (nI (3 * m)) = 0) N h8
      · rw [if_neg e]
theorem RR_c' {I' : sm_MI} (h : RR A W H S N R ν lb b T I L) (hf : Fr PQ I I') (hC : Cok (mkE A 0 0 0 0 0 (fun _ => 0)) W S I') : RR A W H S N R ν lb b T I' L := by
  have := RR_c (v := L 53 3) h hf hC
  rwa [sm_uL_id rfl] at this
/-- where start st has come behind i nights -/
def lnd (A : Nat → Nat → Int32) (W : Nat → (Nat → Int32) → Int32) (H S N ν lb i st : Nat) : Nat := stF H (vO (nU0 A W H S N ν lb i (plL H N st))) N
def nxt (A : Nat → Nat → Int32) (W : Nat → (Nat → Int32) → Int32) (H S N ν lb i st : Nat) : Nat := stF H (vO (nst (E0 A lb 0) W H N (ν + i) S (zz (plL H N st))).1) N
theorem nU0_gR (hV : vE (E0 A lb 0) H S N R) (hu : gR H N u) : ∀ i, gR H N (nU0 A W H S N ν lb i u)
  | 0 => hu
  | i + 1 => by
    have ih := nU0_gR hV hu i
    show gR H N (ngt (E0 A lb 0) W H S N (ν + i) (ngs (E0 A lb 0) W H S N ν i (zz u))).1
    rw [ngt_n rfl]
    exact gR_nst hV ih S (Nat.le_refl _)
theorem nU0_hi (h8 : N ≤ 8) (hu : ∀ t, N ≤ t → u t = 0) {i t : Nat} (ht : N ≤ t) : nU0 A W H S N ν lb i u t = 0 := by
  show (ngs (E0 A lb 0) W H S N ν i (zz u)).1 t = 0
  rw [ngs_hi h8 rfl ht]
  exact hu t ht
theorem pl_hi {st t : Nat} (ht : N ≤ t) : plL H N st t = 0 := by unfold plL; rw [if_neg (by omega)]
theorem pl_lnd (hV : vE (E0 A lb 0) H S N R) (h8 : N ≤ 8) {i st : Nat} : plL H N (lnd A W H S N ν lb i st) = nU0 A W H S N ν lb i (plL H N st) :=
  pl_st hV.2.1 (nU0_gR hV (plL_gR hV.1) i) (fun t ht => nU0_hi h8 (fun t ht => pl_hi ht) ht)
theorem lnd_s (hV : vE (E0 A lb 0) H S N R) (h8 : N ≤ 8) {i st : Nat} : lnd A W H S N ν lb (i + 1) st = nxt A W H S N ν lb i (lnd A W H S N ν lb i st) := by
  unfold nxt
  rw [pl_lnd hV h8]
  unfold lnd
  have e : nU0 A W H S N ν lb (i + 1) (plL H N st) = (nst (E0 A lb 0) W H N (ν + i) S (zz (nU0 A W H S N ν lb i (plL H N st)))).1 := by
    show (ngt (E0 A lb 0) W H S N (ν + i) (ngs (E0 A lb 0) W H S N ν i (zz (plL H N st)))).1 = _
    rw [ngt_n rfl]
    exact (nst_cong (z := ngs (E0 A lb 0) W H S N ν i (zz (plL H N st))) (z' := zz (nU0 A W H S N ν lb i (plL H N st))) rfl S).1
  rw [e]
theorem lnd_lt (hV : vE (E0 A lb 0) H S N R) {i st : Nat} : lnd A W H S N ν lb i st < H ^ N := stF_lt (fun t ht => (vO_in hV.2.1 (nU0_gR hV (plL_gR hV.1) i) ht).1)
theorem s_landAll {F : sm_MI → sm_ML → Prop} {k : Nat} (hR : RR A W H S N R ν lb b T I L) (h0 : 0 < H) (hH6 : H ≤ 6) (hN4 : N ≤ 4) (hk : k ≤ 60)
    (h : ∀ I' L', RR A W H S N R ν lb b T I' L' → Fr PQ I I' → (∀ st, st < H ^ N → I' 71 st = nI (lnd A W H S N ν lb k st)) → F I' L') : sm_CV (n + 8) mX11_landAllStarts T I L [.ref 0, .int (nI k)] F := by
  have hB := hR.hB
  have hb := hR.bb
  have hν := hR.now.1
  have v4 := hR.va.2.2.2.1
  obtain ⟨⟨a1, a2, a3, a4, a5⟩, aw, _, _, _⟩ := hR.st
  have hV : vE (E0 A lb 0) H S N R := vE_mk hR.va h0
  have hM : H ^ N ≤ 1296 := by
    have h1 : H ^ N ≤ 6 ^ N := Nat.pow_le_pow_left hH6 N
    have h2 : 6 ^ N ≤ 6 ^ 4 := Nat.pow_le_pow_right (by decide) hN4
    have h3 : 6 ^ 4 = 1296 := by decide
    omega
  refine c_X11_landAllStarts hB (fun x hx => s_starts (n := n + 7) hB a1 a3 v4 ?_)
  have hV' : ∀ g, vE (E0 A lb g) H S N R := fun g => vE_mk hR.va h0
  -- the nights
  have nights : ∀ (I1 : sm_MI) (L1 : sm_ML) (g : Int32), RR A W H S N R ν lb b T I1 L1 → Fr PQ I I1 → I1 53 2 = nI lb → I1 53 9 = 0 → I1 53 10 = -1 → I1 53 11 = -1 → I1 53 12 = g → (∀ w, w < 5 → I1 55 w = -1) → (∀ st, st < H ^ N → I1 71 st = nI st ∧ I1 75 st = -1) →
      sm_V x 0 0 T I1 L1 52 [some (.ref 0), some (.int (nI k)), some (.int (nI (H ^ N))), some (.int 0), none, none, none] [] := by
    intro I1 L1 g hR1 f1 q2 q9 q10 q11 q12 q55 h71
    have outer : ∀ d i (J : sm_MI) (u4 u5 u6 : Option Value), i + d = k → Fr PQ I1 J → Cok (mkE A 0 0 0 0 0 (fun _ => 0)) W S J → J 53 2 = nI lb → J 53 9 = 0 → J 53 10 = -1 → J 53 11 = -1 → J 53 12 = g → (∀ w, w < 5 → J 55 w = -1) → (∀ st, st < H ^ N → J 71 st = nI (lnd A W H S N ν lb i st)) → (∀ st, st < H ^ N → J 75 st = -1 ∨ ∃ j, j < i ∧ J 75 st = nI (ν + j)) →
        sm_V x 0 0 T J L1 52 [some (.ref 0), some (.int (nI k)), some (.int (nI (H ^ N))), some (.int (nI i)), u4, u5, u6] [] := by
      intro d
      induction d with
      | zero =>
        intro i J u4 u5 u6 e fJ hC _ _ _ _ _ _ hl _
        have : i = k := by omega
        subst this
        exact u_X11_landAllStarts_52 hB hx ⟨fun _ => h J L1 (RR_c' hR1 fJ hC) (f1.tr fJ) hl, fun q => absurd (nI_le (Nat.le_refl _) (by omega)) q⟩
      | succ d ih =>
        intro i J u4 u5 u6 e fJ hC j2 j9 j10 j11 j12 j55 hl hc
        refine u_X11_landAllStarts_52 hB hx ⟨fun q => absurd q (nI_ge (by omega) (by omega)), fun _ => ?_⟩
        have en : J 35 1 + nI i = nI (ν + i) := by
          rw [fJ 35 1 rfl, hR1.now.2.2.1, nI_add]
        rw [en]
        have inner : ∀ d2 s (K : sm_MI) (u6 : Option Value), s + d2 = H ^ N → Fr PQ I1 K → Cok (mkE A 0 0 0 0 0 (fun _ => 0)) W S K → K 53 2 = nI lb → K 53 9 = 0 → K 53 10 = -1 → K 53 11 = -1 → K 53 12 = g → (∀ w, w < 5 → K 55 w = -1) → (∀ st, st < H ^ N → K 71 st = nI (if st < s then lnd A W H S N ν lb (i + 1) st else lnd A W H S N ν lb i st)) → (∀ st, st < H ^ N → (K 75 st = -1 ∨ ∃ j, j < i ∧ K 75 st = nI (ν + j)) ∨ (K 75 st = nI (ν + i) ∧ K 73 st = nI (nxt A W H S N ν lb i st))) →
            sm_V x 0 0 T K L1 71 [some (.ref 0), some (.int (nI k)), some (.int (nI (H ^ N))), some (.int (nI i)), some (.int (nI (ν + i))), some (.int (nI s)), u6] [] := by
          intro d2
          induction d2 with
          | zero =>
            intro s K u6 e2 fK hC2 k2 k9 k10 k11 k12 k55 hl2 hc2
            have hs : s = H ^ N := by omega
            refine u_X11_landAllStarts_71 hB hx ⟨fun _ => ?_, fun q => absurd (by rw [hs]; exact nI_le (Nat.le_refl _) (by omega)) q⟩
            rw [nI_1]
            refine ih (i + 1) K _ _ _ (by omega) fK hC2 k2 k9 k10 k11 k12 k55 (fun st hst => ?_) (fun st hst => ?_)
            · rw [hl2 st hst, if_pos (by omega)]
            · rcases hc2 st hst with (y | ⟨j, hj, y⟩) | ⟨y, _⟩
              · exact Or.inl y
              · exact Or.inr ⟨j, by omega, y⟩
              · exact Or.inr ⟨i, by omega, y⟩
          | succ d2 ih2 =>
            intro s K u6 e2 fK hC2 k2 k9 k10 k11 k12 k55 hl2 hc2
            have hs : s < H ^ N := by omega
            have hlt := lnd_lt (W := W) (ν := ν) hV (i := i) (st := s)
            have hls := lnd_s (W := W) (ν := ν) hV v4 (i := i) (st := s)
            refine u_X11_landAllStarts_71 hB hx ⟨fun q => absurd q (nI_ge (by omega) (by omega)), fun _ => s_at (t_70 hB) (t_71 hB) (by omega) (by decide) ?_⟩
            rw [hl2 s hs, if_neg (Nat.lt_irrefl s)]
            generalize hfr : lnd A W H S N ν lb i s = fr at hlt hls
            refine s_at (t_74 hB) (t_75 hB) (by omega) (by decide) ⟨fun y => s_at (t_72 hB) (t_73 hB) (by omega) (by decide) (s_set (t_70 hB) (t_71 hB) (by omega) (by decide) ?_), fun y => ?_⟩
            · -- kept
              rw [nI_1]
              have e73 : K 73 fr = nI (nxt A W H S N ν lb i fr) := by
                rcases hc2 fr hlt with (z | ⟨j, hj, z⟩) | ⟨_, z⟩
                · rw [z] at y; exact absurd y.symm (nI_m1 (by omega))
                · rw [z] at y; have := (nI_eq (by omega) (by omega)).mp y; omega
                · exact z
              rw [e73, ← hls]
              refine ih2 (s + 1) _ _ (by omega) (fK.u rfl) (Cok_fr hC2 (sm_uI_ne (by decide)) (sm_uI_ne (by decide))) k2 k9 k10 k11 k12 k55 (fun st hst => ?_) hc2
              rw [sm_uI_at]
              by_cases es : st = s
              · subst es; rw [pk_us, if_pos (by omega)]
              · rw [pk_un es, hl2 st hst]
                by_cases e3 : st < s
                · rw [if_pos e3, if_pos (by omega)]
                · rw [if_neg e3, if_neg (by omega)]
            · -- a night
              refine s_placesOf (n := n + 6) hB ((fK 24 0 rfl).trans ((f1 24 0 rfl).trans a1)) h0 (by omega) ((fK 24 2 rfl).trans ((f1 24 2 rfl).trans a3)) v4 (by omega) (fun p hp => ?_)
              have fJ2 : Fr PQ I1 (sm_uI (sm_uI K 53 0 p) 53 1 (nI (ν + i))) := (fK.u rfl).u rfl
              have hC3 : Cok (mkE A 0 0 0 0 0 (fun _ => 0)) W S (sm_uI (sm_uI K 53 0 p) 53 1 (nI (ν + i))) := Cok_fr hC2 (by rw [sm_uI_ne (by decide), sm_uI_ne (by decide)]) (by rw [sm_uI_ne (by decide), sm_uI_ne (by decide)])
              have hD : cD (E0 A lb g) W H S N R I1 (ν + i) (sm_uI (sm_uI K 53 0 p) 53 1 (nI (ν + i))) := cD_r (r := 0) hR1 (fJ2.mono PQ_PNt) rfl k2 k9 k10 k11 k12 k55 hC3
              refine s_goOneNight (n := n + 1) (z := (cU N p, (sm_uI (sm_uI K 53 0 p) 53 1 (nI (ν + i))) 53 13, L1 53 3, K 57, K 59)) hB hR1.rl (hV' g) (Or.inl rfl) (by omega) hD ⟨rfl, rfl, rfl, by rw [sm_uI_ne (by decide), sm_uI_ne (by decide)], by rw [sm_uI_ne (by decide), sm_uI_ne (by decide)]⟩ (fun I3 f3 hD3 hz3 => ?_)
              rw [ngt_n rfl] at hz3 ⊢
              rw [nst_D rfl] at hz3 ⊢
              rw [sm_uL_id rfl] at hz3 ⊢
              have hu3 : cU N (I3 53 0) = (nst (E0 A lb 0) W H N (ν + i) S (zz (plL H N fr))).1 := hz3.1.trans (nst_cong hp S).1
              have f4 : Fr PQ I1 I3 := fJ2.tr (f3.mono PN_PQ)
              refine s_startOf (n := n + 6) hB ((f4 24 0 rfl).trans ((f1 24 0 rfl).trans a1)) ((f4 24 2 rfl).trans ((f1 24 2 rfl).trans a3)) v4 ?_
              have env : stF H (vO (cU N (I3 53 0))) N = nxt A W H S N ν lb i fr := by rw [hu3]; rfl
              rw [env]
              have hfr2 : fr < 1296 := by omega
              refine s_set (t_72 hB) (t_73 hB) hfr2 (by decide) (s_set (t_74 hB) (t_75 hB) hfr2 (by decide) (s_at (t_72 hB) (t_73 hB) hfr2 (by decide) (s_set (t_70 hB) (t_71 hB) (by omega) (by decide) ?_)))
              rw [sm_uI_ne (show (73 : Nat) ≠ 75 by decide), sm_uI_at, pk_us, nI_1, ← hls]
              refine ih2 (s + 1) _ _ (by omega) (((f4.u rfl).u rfl).u rfl) (Cok_fr (Cok_of hD3) (by rw [sm_uI_ne (by decide), sm_uI_ne (by decide), sm_uI_ne (by decide)]) (by rw [sm_uI_ne (by decide), sm_uI_ne (by decide), sm_uI_ne (by decide)])) ((f3 53 2 rfl).trans k2) ((f3 53 9 rfl).trans k9) ((f3 53 10 rfl).trans k10) ((f3 53 11 rfl).trans k11) ((f3 53 12 rfl).trans k12) (fun w hw => (f3 55 w rfl).trans (k55 w hw)) (fun st hst => ?_) (fun st hst => ?_)
              · rw [sm_uI_at]
                by_cases es : st = s
                · subst es; rw [pk_us, if_pos (by omega)]
                · rw [pk_un es, sm_uI_ne (by decide), sm_uI_ne (by decide), f3.at 71 (fun _ => rfl), sm_uI_ne (by decide), sm_uI_ne (by decide), hl2 st hst]
                  by_cases e3 : st < s
                  · rw [if_pos e3, if_pos (by omega)]
                  · rw [if_neg e3, if_neg (by omega)]
              · have e75 : (sm_uI (sm_uI (sm_uI I3 73 fr (nI (lnd A W H S N ν lb (i + 1) s))) 75 fr (nI (ν + i))) 71 s (nI (lnd A W H S N ν lb (i + 1) s))) 75 = upd (K 75) fr (nI (ν + i)) := by
                  rw [sm_uI_ne (by decide), sm_uI_at, sm_uI_ne (by decide), f3.at 75 (fun _ => rfl), sm_uI_ne (by decide), sm_uI_ne (by decide)]
                have e73 : (sm_uI (sm_uI (sm_uI I3 73 fr (nI (lnd A W H S N ν lb (i + 1) s))) 75 fr (nI (ν + i))) 71 s (nI (lnd A W H S N ν lb (i + 1) s))) 73 = upd (K 73) fr (nI (lnd A W H S N ν lb (i + 1) s)) := by
                  rw [sm_uI_ne (by decide), sm_uI_ne (by decide), sm_uI_at, f3.at 73 (fun _ => rfl), sm_uI_ne (by decide), sm_uI_ne (by decide)]
                rw [e75, e73]
                by_cases es : st = fr
                · rw [es, pk_us, pk_us]
                  exact Or.inr ⟨rfl, by rw [hls]⟩
                · rw [pk_un es, pk_un es]; exact hc2 st hst
        refine inner (H ^ N) 0 J _ (by omega) fJ hC j2 j9 j10 j11 j12 j55 (fun st hst => by rw [if_neg (by omega)]; exact hl st hst) (fun st hst => Or.inl (hc st hst))
    have l0 : ∀ st, st < H ^ N → lnd A W H S N ν lb 0 st = st := fun st hst => st_pl h0 (by omega) hst
    exact outer k 0 I1 none none none (by omega) Fr.rf hR1.c q2 q9 q10 q11 q12 q55 (fun st hst => by rw [l0 st hst]; exact (h71 st hst).1) (fun st hst => Or.inl (h71 st hst).2)
  have key : ∀ d s (J : sm_MI), s + d = H ^ N → Fr PQ I J → J 65 = I 65 → J 67 = I 67 → (∀ st, st < s → J 71 st = nI st ∧ J 75 st = -1) → sm_V x 0 0 T J L 10 [some (.ref 0), some (.int (nI k)), some (.int (nI (H ^ N))), some (.int (nI s)), none, none, none] [] := by
    intro d
    induction d with
    | zero =>
      intro s J e fJ e65 e67 hs
      have hsM : s = H ^ N := by omega
      refine u_X11_landAllStarts_10 hB hx ⟨fun _ => ?_, fun q => absurd (by rw [hsM]; exact nI_le (Nat.le_refl _) (by omega)) q⟩
      have hRJ := RR_c' hR fJ (Cok_fr hR.c e65 e67)
      refine s_begin (n := n + 6) hB (fun I1 f1 e0 e1 e2 e9 e10 e11 e55 e57 e59 => ?_)
      have f2 : Fr PQ J I1 := f1.mono PB_PQ
      have hR1 := RR_c (v := L 35 3) hRJ f2 (Cok_fr hRJ.c (f1.at 65 (fun _ => rfl)) (f1.at 67 (fun _ => rfl)))
      refine nights I1 _ (I1 53 12) hR1 (fJ.tr f2) (e2.trans hRJ.now.2.2.2.1) e9 e10 e11 rfl e55 (fun st hst => ?_)
      rw [f1.at 71 (fun _ => rfl), f1.at 75 (fun _ => rfl)]
      exact hs st (by omega)
    | succ d ih =>
      intro s J e fJ e65 e67 hs
      refine u_X11_landAllStarts_10 hB hx ⟨fun q => absurd q (nI_ge (by omega) (by omega)), fun _ => s_set (t_70 hB) (t_71 hB) (by omega) (by decide) (s_set (t_74 hB) (t_75 hB) (by omega) (by decide) ?_)⟩
      rw [nI_1]
      refine ih (s + 1) _ (by omega) ((fJ.u rfl).u rfl) (by rw [sm_uI_ne (by decide), sm_uI_ne (by decide)]; exact e65) (by rw [sm_uI_ne (by decide), sm_uI_ne (by decide)]; exact e67) (fun st hst => ?_)
      rw [sm_uI_at, sm_uI_ne (show (71 : Nat) ≠ 75 by decide), sm_uI_at, sm_uI_ne (show (75 : Nat) ≠ 71 by decide)]
      by_cases es : st = s
      · subst es; rw [pk_us, pk_us]; exact ⟨rfl, rfl⟩
      · rw [pk_un es, pk_un es]; exact hs st (by omega)
  exact key (H ^ N) 0 I (by omega) Fr.rf rfl rfl (fun st hst => absurd hst (by omega))
end
