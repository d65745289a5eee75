/-- what a question of the class's may change -/
def PQ (k _ : Nat) : Bool := (Nat.ble 53 k && Nat.ble k 67) || Nat.beq k 69 || Nat.beq k 71 || Nat.beq k 73 || Nat.beq k 75
theorem q_ble {a b : Nat} (h : a ≤ b) : Nat.ble a b = true := Nat.ble_eq.mpr h
theorem PQ_in {k j : Nat} (h1 : 53 ≤ k) (h2 : k ≤ 67) : PQ k j = true := by
  simp only [PQ, q_ble h1, q_ble h2, Bool.and_self, Bool.true_or]
theorem PQ_big {k j : Nat} (h : 76 ≤ k) : PQ k j = false := by
  have e0 : Nat.ble k 67 = false := Bool.eq_false_iff.mpr (fun q => by have := Nat.ble_eq.mp q; omega)
  have e1 : Nat.beq k 69 = false := Bool.eq_false_iff.mpr (fun q => by have := Nat.eq_of_beq_eq_true q; omega)
  have e2 : Nat.beq k 71 = false := Bool.eq_false_iff.mpr (fun q => by have := Nat.eq_of_beq_eq_true q; omega)
  have e3 : Nat.beq k 73 = false := Bool.eq_false_iff.mpr (fun q => by have := Nat.eq_of_beq_eq_true q; omega)
  have e4 : Nat.beq k 75 = false := Bool.eq_false_iff.mpr (fun q => by have := Nat.eq_of_beq_eq_true q; omega)
  simp only [PQ, e0, e1, e2, e3, e4, Bool.and_false, Bool.or_false]
theorem PQ_qM (k j : Nat) (h : qM k j = false) : PQ k j = false := by
  simp only [qM, PQ, Bool.or_eq_false_iff] at h ⊢
  obtain ⟨⟨⟨⟨⟨⟨⟨⟨⟨⟨⟨⟨⟨h1, h2⟩, h3⟩, h4⟩, h5⟩, h6⟩, _⟩, _⟩, _⟩, _⟩, _⟩, _⟩, _⟩, _⟩ := h
  exact ⟨⟨⟨⟨h2, h3⟩, h4⟩, h5⟩, h6⟩
theorem PN_PQ (k j : Nat) (h : PQ k j = false) : PN k j = false := by
  rw [Bool.eq_false_iff] at h ⊢
  intro q
  apply h
  simp only [PN, Bool.or_eq_true, Bool.and_eq_true, beq_iff_eq] at q
  exact PQ_in (by omega) (by omega)
section
variable {n : Nat} {T : List sm_Sh} {I : sm_MI} {L : sm_ML} {A : Nat → Nat → Int32} {H S N R ν lb b : Nat} {W : Nat → (Nat → Int32) → Int32}
theorem RR.hB (h : RR A W H S N R ν lb b T I L) : sm_Bs T := h.1
theorem RR.st (h : RR A W H S N R ν lb b T I L) : gS A H S N I := h.2.2.1.1
theorem RR.va (h : RR A W H S N R ν lb b T I L) : gV A H S N R := h.2.2.1.2.1
theorem RR.now (h : RR A W H S N R ν lb b T I L) : ν ≤ b ∧ lb < 256 ∧ I 35 1 = nI ν ∧ I 35 2 = nI lb ∧ I 76 33 = nI lb ∧ L 35 3 = L 76 36 ∧ gR H N (cU N (I 35 0)) := h.2.2.1.2.2.1
theorem RR.rest (h : RR A W H S N R ν lb b T I L) : I 23 2 = nI R ∧ I 76 13 = nI R ∧ I 76 39 = -1 ∧ ∀ w, w < 5 → I 93 w = -1 := h.2.2.1.2.2.2.2.2.2.2.2
theorem RR.bb (h : RR A W H S N R ν lb b T I L) : b < 2 ^ 29 := h.2.1
theorem RR.u (h : RR A W H S N R ν lb b T I L) : cU N (I 35 0) = mU N (I 92) := h.2.2.2.1
theorem RR.n34 (h : RR A W H S N R ν lb b T I L) : I 76 34 = nI ν := h.2.2.2.2.1
theorem RR.c (h : RR A W H S N R ν lb b T I L) : Cok (mkE A 0 0 0 0 0 (fun _ => 0)) W S I := h.2.2.2.2.2.1
theorem RR.rl (h : RR A W H S N R ν lb b T I L) : sRL T W R I := h.2.2.2.2.2.2.1
theorem RR.ml (h : RR A W H S N R ν lb b T I L) : mRL T W R I := h.2.2.2.2.2.2.2
theorem ltE_mk {lk bed rk gh gs lk' bed' rk' gh' gs' : Int32} {f f' : Nat → Int32} {w q : Nat} : ltE (mkE A lk bed rk gh gs f) ν w q = ltE (mkE A lk' bed' rk' gh' gs' f') ν w q := by
  funext j
  match j with
  | 0 => rfl
  | 1 => rfl
  | 2 => rfl
  | 3 => rfl
  | 4 => rfl
  | 5 => rfl
  | j + 6 => rfl
theorem Cok_mk {lk bed rk gh gs lk' bed' rk' gh' gs' : Int32} {f f' : Nat → Int32} (h : Cok (mkE A lk bed rk gh gs f) W S I) : Cok (mkE A lk' bed' rk' gh' gs' f') W S I := by
  intro ν w q h1 h2 h3 h4 h5
  have := h ν w q h1 h2 h3 h4 h5
  rw [ltE_mk] at this
  exact this
theorem sRL_up {I' : sm_MI} (h : sRL T W R I) (e : ∀ k, 110 ≤ k → I' k = I k) : sRL T W R I' := by
  obtain ⟨h1, e0, m0, r0, h2, h3⟩ := h
  refine ⟨h1, e0, m0, r0, h2, fun i hi => ?_⟩
  obtain ⟨g1, g2, g3, k, a, b, g4, g5, g0, g6⟩ := h3 i hi
  exact ⟨g1, g2, g3, k, a, b, g4, g5, sRK_up g0 e, fun n I'' L F hq => g6 n I'' L F (fun k hk => (hq k hk).trans (e k hk))⟩
theorem mRL_up {I' : sm_MI} (h : mRL T W R I) (e : ∀ k, 78 ≤ k → k ≤ 84 → I' k = I k) : mRL T W R I' :=
  ⟨h.1, fun i hi => ⟨mRK_up (h.2 i hi).1 (by rw [e 81 (by decide) (by decide)]) (fun j _ => by rw [e 78 (by decide) (by decide), e 79 (by decide) (by decide)]; exact ⟨rfl, rfl⟩) (fun j _ => by rw [e 82 (by decide) (by decide), e 83 (by decide) (by decide), e 84 (by decide) (by decide)]; exact ⟨rfl, rfl, rfl⟩), fun n I'' L F hq => (h.2 i hi).2 n I'' L F (fun k h1 h2 => (hq k h1 h2).trans (e k h1 h2))⟩⟩
theorem qM_big {k j : Nat} (h : 110 ≤ k) : qM k j = false := by
  rw [Bool.eq_false_iff]
  intro q
  simp only [qM, Bool.or_eq_true, Bool.and_eq_true] at q
  have hb : ∀ {a c : Nat}, Nat.beq a c = true → a = c := fun g => Nat.eq_of_beq_eq_true g
  have hl : ∀ {a c : Nat}, Nat.ble a c = true → a ≤ c := fun g => Nat.ble_eq.mp g
  rcases q with ((((((((((((q | q) | q) | q) | q) | q) | q) | q) | q) | q) | q) | q) | q) | q
  · have := hl q.2; omega
  · have := hl q.2; omega
  · have := hb q; omega
  · have := hb q; omega
  · have := hb q; omega
  · have := hb q; omega
  · have := hl q.2; omega
  · have := hb q; omega
  · have := hb q; omega
  · have := hb q; omega
  · have := hb q; omega
  · have := hb q; omega
  · have := hl q.2; omega
  · have := hb q.1; omega
theorem RR_q {I' : sm_MI} {L' : sm_ML} (h : RR A W H S N R ν lb b T I L) (hf : Fr qM I I') (hL : mskL L' = mskL L) (h92 : mU N (I' 92) = mU N (I 92)) (h34 : I' 76 34 = I 76 34) (hC : Cok (mkE A 0 0 0 0 0 (fun _ => 0)) W S I') (h78 : ∀ k, 78 ≤ k → k ≤ 84 → I' k = I k) : RR A W H S N R ν lb b T I' L' := by
  obtain ⟨g1, g2, g3, g4, g5, g6, g7, g8⟩ := h
  refine ⟨g1, g2, ?_, ?_, h34.trans g5, hC, sRL_up g7 (fun k hk => hf.at k (fun j => qM_big hk)), mRL_up g8 h78⟩
  · rw [msk_fr hf, hL]; exact g3
  · rw [h92, hf 35 0 rfl]; exact g4
/-- a question of the class's: PQ alone -/
theorem RR_c {I' : sm_MI} {v : Int64} (h : RR A W H S N R ν lb b T I L) (hf : Fr PQ I I') (hC : Cok (mkE A 0 0 0 0 0 (fun _ => 0)) W S I') : RR A W H S N R ν lb b T I' (sm_uL L 53 3 v) :=
  RR_q h (hf.mono PQ_qM) mskL_u (by rw [hf.at 92 (fun j => PQ_big (by decide))]) (hf 76 34 (PQ_big (by decide))) hC (fun k h1 h2 => hf.at k (fun j => PQ_big (by omega)))
def PB (k j : Nat) : Bool := (k == 53 && (j == 0 || j == 1 || j == 2 || j == 9 || j == 10 || j == 11)) || k == 55 || k == 57 || k == 59
theorem PB_PQ (k j : Nat) (h : PQ k j = false) : PB k j = false := by
  rw [Bool.eq_false_iff] at h ⊢
  intro q
  apply h
  simp only [PB, Bool.or_eq_true, Bool.and_eq_true, beq_iff_eq] at q
  exact PQ_in (by omega) (by omega)
theorem s_begin {F : sm_MI → sm_ML → Prop} (hB : sm_Bs T)
    (h : ∀ I' : sm_MI, Fr PB I I' → I' 53 0 = I 35 0 → I' 53 1 = I 35 1 → I' 53 2 = I 35 2 → I' 53 9 = 0 → I' 53 10 = -1 → I' 53 11 = -1 → (∀ j, j < 5 → I' 55 j = -1) → (∀ j, j < 6 → I' 57 j = 0) → (∀ j, j < 8 → I' 59 j = 0) → F I' (sm_uL L 53 3 (L 35 3))) : sm_CV (n + 1) mX0_begin T I L [.ref 53, .ref 35] F := by
  refine c_X0_begin hB (c_X7_copy_dn hB (fun I1 h1 I2 h2 => s_fill (t_54 hB) (t_55 hB) (by decide) (s_fill (t_56 hB) (t_57 hB) (by decide) (s_fill (t_58 hB) (t_59 hB) (by decide) ?_))))
  subst h1
  subst h2
  refine h _ (((((((((Fr.rf.u rfl).u rfl).u rfl).f (fun _ => rfl)).f (fun _ => rfl)).f (fun _ => rfl)).u rfl).u rfl).u rfl) rfl rfl rfl rfl rfl rfl (fun j hj => ?_) (fun j hj => ?_) (fun j hj => ?_)
  · simp [sm_uI, sm_fill, hj]
  · simp [sm_uI, sm_fill, hj]
  · simp [sm_uI, sm_fill, hj]
end
