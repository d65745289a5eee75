/-! ===== parts of the state that stay ===== -/
def rs (P : Nat → Nat → Bool) (I : sm_MI) : sm_MI := fun k j => if P k j = true then 0 else I k j
theorem rs_eq {P : Nat → Nat → Bool} {I I' : sm_MI} (e : Fr P I I') : rs P I' = rs P I := by
  funext k j
  unfold rs
  by_cases q : P k j = true
  · rw [if_pos q, if_pos q]
  · rw [if_neg q, if_neg q]; exact e k j (Bool.eq_false_iff.mpr q)
def kS (k j : Nat) : Bool := !(Nat.beq k 24 || Nat.beq k 26 || Nat.beq k 28 || Nat.beq k 30 || Nat.beq k 32 || Nat.beq k 34 || Nat.beq k 89 || Nat.beq k 90 || Nat.beq k 91 || (Nat.beq k 76 && (Nat.ble 26 j && Nat.ble j 30)))
def kT (k j : Nat) : Bool := !(Nat.beq k 1 || Nat.beq k 3 || Nat.beq k 77 || (Nat.beq k 76 && Nat.beq j 2))
def kI (k j : Nat) : Bool := !((Nat.beq k 0 && Nat.beq j 7) || Nat.beq k 36 || Nat.beq k 108 || (Nat.beq k 76 && (Nat.beq j 57 || Nat.beq j 58 || Nat.beq j 60)))
def kP (k j : Nat) : Bool := !(Nat.beq k 37 || Nat.beq k 39 || Nat.beq k 41 || Nat.beq k 43 || Nat.beq k 95 || (Nat.beq k 76 && Nat.beq j 42))
def kE (k j : Nat) : Bool := !(Nat.beq k 44 || Nat.beq k 46 || Nat.beq k 48 || Nat.beq k 50 || Nat.beq k 52 || (Nat.ble 100 k && Nat.ble k 103) || (Nat.beq k 76 && Nat.beq j 51))
def kR (k j : Nat) : Bool := !((Nat.beq k 0 && Nat.beq j 11) || (Nat.beq k 76 && Nat.beq j 35))
def kM (k j : Nat) : Bool := !(Nat.beq k 23 || Nat.beq k 93 || (Nat.beq k 76 && (Nat.beq j 13 || Nat.beq j 39)))
section
variable {n : Nat} {T : List sm_Sh} {I I' : sm_MI} {L L' : sm_ML} {A : Nat → Nat → Int32} {H S N R ν lb b ν' lb' b' : Nat} {W : Nat → (Nat → Int32) → Int32}
theorem gS_t (h : gS A H S N I) (e : Fr kS I I') : gS A H S N I' := by
  have h1 : gS A H S N (rs kS I) := h
  rw [← rs_eq e] at h1
  exact h1
theorem gT_t (h : gT I) (e : Fr kT I I') : gT I' := by
  have h1 : gT (rs kT I) := h
  rw [← rs_eq e] at h1
  exact h1
theorem gI_t (h : gI H N b I L) (hb : b ≤ b') (e : Fr kI I I') (e1 : L' 36 3 = L 36 3) (e2 : L' 76 59 = L 76 59) : gI H N b' I' L' := by
  have h1 : gI H N b (rs kI I) L := h
  rw [← rs_eq e] at h1
  obtain ⟨hi, g1, g2, g3⟩ := h1
  refine ⟨hi, g1, g2, fun q => ?_⟩
  obtain ⟨f1, f2, f3, ⟨m, hm, f4⟩, f5, f6⟩ := g3 q
  exact ⟨f1, f2, f3, ⟨m, by omega, f4⟩, f5, by rw [e1, e2]; exact f6⟩
theorem gP_t (h : gP H N ν I L) (hν : ν ≤ ν') (e : Fr kP I I') (e1 : ∀ i, L' 96 i = L 96 i) : gP H N ν' I' L' := by
  have h1 : gP H N ν (rs kP I) L := h
  rw [← rs_eq e] at h1
  obtain ⟨nx, ct, g1, g2, g3, g4, g5, g6, g7⟩ := h1
  refine ⟨nx, ct, g1, g2, by omega, g4, g5, g6, fun i hi => ?_⟩
  rw [e1]
  exact g7 i hi
theorem gE_t (h : gE H N I) (e : Fr kE I I') : gE H N I' := by
  have h1 : gE H N (rs kE I) := h
  rw [← rs_eq e] at h1
  exact h1
def gK (I : sm_MI) : Prop := ∃ r, r ≤ 100 ∧ I 0 11 = nI r ∧ I 76 35 = nI r
theorem gK_t (h : gK I) (e : Fr kR I I') : gK I' := by
  have h1 : gK (rs kR I) := h
  rw [← rs_eq e] at h1
  exact h1
def gM (R : Nat) (I : sm_MI) : Prop := I 23 2 = nI R ∧ I 76 13 = nI R ∧ I 76 39 = -1 ∧ ∀ w, w < 5 → I 93 w = -1
theorem gM_t (h : gM R I) (e : Fr kM I I') : gM R I' := by
  have h1 : gM R (rs kM I) := h
  rw [← rs_eq e] at h1
  exact h1
def gN (H N ν lb b : Nat) (I : sm_MI) (L : sm_ML) : Prop := ν ≤ b ∧ lb < 256 ∧ I 35 1 = nI ν ∧ I 35 2 = nI lb ∧ I 76 33 = nI lb ∧ L 35 3 = L 76 36 ∧ gR H N (cU N (I 35 0))
theorem RR.gt (h : RR A W H S N R ν lb b T I L) : gT I := h.2.2.1.2.2.2.1
theorem RR.gi (h : RR A W H S N R ν lb b T I L) : gI H N b I L := h.2.2.1.2.2.2.2.1
theorem RR.gp (h : RR A W H S N R ν lb b T I L) : gP H N ν I L := h.2.2.1.2.2.2.2.2.1
theorem RR.ge (h : RR A W H S N R ν lb b T I L) : gE H N I := h.2.2.1.2.2.2.2.2.2.1
theorem RR.gk (h : RR A W H S N R ν lb b T I L) : gK I := h.2.2.1.2.2.2.2.2.2.2.1
theorem RR.gm (h : RR A W H S N R ν lb b T I L) : gM R I := h.2.2.1.2.2.2.2.2.2.2.2
theorem RR.gn (h : RR A W H S N R ν lb b T I L) : gN H N ν lb b I L := h.2.2.1.2.2.1
theorem RR_mk (hB : sm_Bs T) (hb : b < 2 ^ 29) (h1 : gS A H S N I) (h2 : gV A H S N R) (h3 : gN H N ν lb b I L) (h4 : gT I) (h5 : gI H N b I L) (h6 : gP H N ν I L) (h7 : gE H N I) (h8 : gK I) (h9 : gM R I) (h10 : cU N (I 35 0) = mU N (I 92)) (h11 : I 76 34 = nI ν) (h12 : Cok (mkE A 0 0 0 0 0 (fun _ => 0)) W S I) (h13 : sRL T W R I) (h14 : mRL T W R I) : RR A W H S N R ν lb b T I L :=
  ⟨hB, hb, ⟨h1, h2, h3, h4, h5, h6, h7, h8, h9⟩, h10, h11, h12, h13, h14⟩
/-- more nights may have gone by -/
theorem RR_b (h : RR A W H S N R ν lb b T I L) (hb : b ≤ b') (hb' : b' < 2 ^ 29) : RR A W H S N R ν lb b' T I L := by
  obtain ⟨g1, g2, g3, g4, g5, g6, g7⟩ := h.gn
  exact RR_mk h.hB hb' h.st h.va ⟨by omega, g2, g3, g4, g5, g6, g7⟩ h.gt (gI_t h.gi hb Fr.rf rfl rfl) h.gp h.ge h.gk h.gm h.u h.n34 h.c h.rl h.ml
/-- what rows of rules and of laws stand on -/
def kC (k _ : Nat) : Bool := !(Nat.ble 110 k || Nat.beq k 65 || Nat.beq k 67 || (Nat.ble 78 k && Nat.ble k 84))
theorem kC_110 {k j : Nat} (h : 110 ≤ k) : kC k j = false := by simp only [kC, q_ble h, Bool.true_or, Bool.not_true]
theorem kC_78 {k j : Nat} (h : 78 ≤ k) (h' : k ≤ 84) : kC k j = false := by simp only [kC, q_ble h, q_ble h', Bool.and_self, Bool.or_true, Bool.not_true]
theorem RR_n (h : RR A W H S N R ν lb b T I L) (e : Fr kC I I') : Cok (mkE A 0 0 0 0 0 (fun _ => 0)) W S I' ∧ sRL T W R I' ∧ mRL T W R I' :=
  ⟨Cok_fr h.c (e.at 65 (fun _ => rfl)) (e.at 67 (fun _ => rfl)), sRL_up h.rl (fun k hk => e.at k (fun j => kC_110 hk)), mRL_up h.ml (fun k h1 h2 => e.at k (fun j => kC_78 h1 h2))⟩
/-- now alone changes -/
theorem RR_now (h : RR A W H S N R ν lb b T I L) (eS : Fr kS I I') (eT : Fr kT I I') (eI : Fr kI I I') (eP : Fr kP I I') (eE : Fr kE I I') (eK : Fr kR I I') (eM : Fr kM I I') (eC : Fr kC I I') (l1 : L' 36 3 = L 36 3) (l2 : L' 76 59 = L 76 59) (l3 : ∀ i, L' 96 i = L 96 i) (hn : gN H N ν lb' b I' L') (hu : cU N (I' 35 0) = mU N (I' 92)) (h34 : I' 76 34 = nI ν) : RR A W H S N R ν lb' b T I' L' :=
  RR_mk h.hB h.bb (gS_t h.st eS) h.va hn (gT_t h.gt eT) (gI_t h.gi (Nat.le_refl _) eI l1 l2) (gP_t h.gp (Nat.le_refl _) eP l3) (gE_t h.ge eE) (gK_t h.gk eK) (gM_t h.gm eM) hu h34 (RR_n h eC).1 (RR_n h eC).2.1 (RR_n h eC).2.2
theorem p_count {G : Int32 → Int32 → sm_MI → sm_ML → Prop} {a : Int32} {e0 : Nat} (h23 : T[23]? = some (.inr (0, [.int 0, .ref e0, .int 0]))) (hsz : ∀ (F : Int32 → sm_MI → sm_ML → Prop) (n : Nat) (I : sm_MI) (L : sm_ML), F (I 23 2) I L → sm_CI n mJx4a65c_size_8abf5 T I L [.ref 23] F) (hR : RR A W H S N R ν lb b T I L) (h : ∀ v I' L', RR A W H S N R ν lb b T I' L' → G v v I' L') :
    sm_CI (n + 20) mX11_count T I L [.ref 0, .int a] (fun r1 I1 L1 => sm_CI (n + 20) mX12_count T I1 L1 [.ref 76, .int a] (fun r2 I2 L2 => G r1 r2 I2 L2)) := by
  have hB := hR.hB
  obtain ⟨⟨a1, a2, a3, a4, a5⟩, _, ⟨c1, c2, c3, c4, c5⟩, _, c6⟩ := hR.st
  obtain ⟨_, n2, n3, n4, n5, _, _⟩ := hR.now
  obtain ⟨len, _, t1, t2, _⟩ := hR.gt
  obtain ⟨sc, _, _, _, s1, s2, _, _⟩ := hR.ge
  obtain ⟨nx, ct, _, _, _, _, p1, p2, _⟩ := hR.gp
  have mod : ∀ v, (a = 0 → v = nI H) → (a = 1 → v = nI S) → (a = 2 → v = nI N) → (a = 3 → v = nI R) → (a = 4 → v = nI len) → (a = 5 → v = nI ν) → (a = 6 → v = A 0 3) → (a = 7 → v = nI sc) → (a = 8 → v = nI ct) → (a = 9 → v = nI lb) → (¬ a = 0 ∧ ¬ a = 1 ∧ ¬ a = 2 ∧ ¬ a = 3 ∧ ¬ a = 4 ∧ ¬ a = 5 ∧ ¬ a = 6 ∧ ¬ a = 7 ∧ ¬ a = 8 ∧ ¬ a = 9 → v = -1000000) → sm_CI (n + 20) mX12_count T I L [.ref 76, .int a] (fun r2 I2 L2 => G v r2 I2 L2) := by
    intro v g0 g1 g2 g3 g4 g5 g6 g7 g8 g9 g10
    have hh : ∀ w, v = w → G v w I L := fun w e => by subst e; exact h _ _ _ hR
    exact c_X12_count hB ⟨fun q => hh _ ((g0 q).trans c1.symm), fun q => hh _ ((g1 q).trans c2.symm), fun q => hh _ ((g2 q).trans c3.symm), fun q => hh _ ((g3 q).trans hR.rest.2.1.symm), fun q => hh _ ((g4 q).trans t2.symm), fun q => hh _ ((g5 q).trans hR.n34.symm), fun q => hh _ ((g6 q).trans c4.symm), fun q => hh _ ((g7 q).trans s2.symm), fun q => hh _ ((g8 q).trans p2.symm), fun q => hh _ ((g9 q).trans n5.symm), fun q => hh _ (g10 q)⟩
  have no : ∀ {x y : Int32} {P : Prop}, a = x → x ≠ y → a = y → P := fun e1 e2 e3 => absurd (e1.symm.trans e3) e2
  refine c_X11_count hB h23 ⟨fun q => mod _ ?_ ?_ ?_ ?_ ?_ ?_ ?_ ?_ ?_ ?_ ?_, fun q => mod _ ?_ ?_ ?_ ?_ ?_ ?_ ?_ ?_ ?_ ?_ ?_, fun q => mod _ ?_ ?_ ?_ ?_ ?_ ?_ ?_ ?_ ?_ ?_ ?_, fun q => hsz _ _ _ _ (mod _ ?_ ?_ ?_ ?_ ?_ ?_ ?_ ?_ ?_ ?_ ?_), fun q => mod _ ?_ ?_ ?_ ?_ ?_ ?_ ?_ ?_ ?_ ?_ ?_, fun q => mod _ ?_ ?_ ?_ ?_ ?_ ?_ ?_ ?_ ?_ ?_ ?_, fun q => mod _ ?_ ?_ ?_ ?_ ?_ ?_ ?_ ?_ ?_ ?_ ?_, fun q => mod _ ?_ ?_ ?_ ?_ ?_ ?_ ?_ ?_ ?_ ?_ ?_, fun q => mod _ ?_ ?_ ?_ ?_ ?_ ?_ ?_ ?_ ?_ ?_ ?_, fun q => mod _ ?_ ?_ ?_ ?_ ?_ ?_ ?_ ?_ ?_ ?_ ?_, fun q => mod _ ?_ ?_ ?_ ?_ ?_ ?_ ?_ ?_ ?_ ?_ ?_⟩
  all_goals first
    | exact no q (by decide)
    | exact fun _ => a1
    | exact fun _ => a2
    | exact fun _ => a3
    | exact fun _ => hR.rest.1
    | exact fun _ => t1
    | exact fun _ => n3
    | exact fun _ => a4
    | exact fun _ => s1
    | exact fun _ => p1
    | exact fun _ => n4
    | exact fun _ => rfl
    | (intro z; subst z; exact absurd rfl (by first | exact q.1 | exact q.2.1 | exact q.2.2.1 | exact q.2.2.2.1 | exact q.2.2.2.2.1 | exact q.2.2.2.2.2.1 | exact q.2.2.2.2.2.2.1 | exact q.2.2.2.2.2.2.2.1 | exact q.2.2.2.2.2.2.2.2.1 | exact q.2.2.2.2.2.2.2.2.2))
    | (intro z; exact absurd q (by first | exact z.1 | exact z.2.1 | exact z.2.2.1 | exact z.2.2.2.1 | exact z.2.2.2.2.1 | exact z.2.2.2.2.2.1 | exact z.2.2.2.2.2.2.1 | exact z.2.2.2.2.2.2.2.1 | exact z.2.2.2.2.2.2.2.2.1 | exact z.2.2.2.2.2.2.2.2.2))
theorem p_seed {G : Bool → Bool → sm_MI → sm_ML → Prop} {v : Int64} (hR : RR A W H S N R ν lb b T I L) (h : ∀ v I' L', RR A W H S N R ν lb b T I' L' → G v v I' L') :
    sm_CZ (n + 20) mX11_seed T I L [.ref 0, .long v] (fun r1 I1 L1 => sm_CZ (n + 20) mX12_seed T I1 L1 [.ref 76, .long v] (fun r2 I2 L2 => G r1 r2 I2 L2)) := by
  obtain ⟨g1, g2, g3, g4, g5, g6, g7⟩ := hR.gn
  refine c_X11_seed hR.hB (c_X12_seed hR.hB (h _ _ _ (RR_now hR Fr.rf Fr.rf Fr.rf Fr.rf Fr.rf Fr.rf Fr.rf Fr.rf ?_ ?_ (fun i => ?_) ⟨g1, g2, g3, g4, g5, ?_, g7⟩ hR.u hR.n34)))
  · rw [sm_uL_ne (by decide), sm_uL_ne (by decide)]
  · simp [sm_uL]
  · rw [sm_uL_ne (by decide), sm_uL_ne (by decide)]
  · rw [sm_uL_s, sm_uL_ne (by decide), sm_uL_s]
end
