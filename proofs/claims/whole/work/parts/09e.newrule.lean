/-! ===== a new rule stands ===== -/
/-- cells that a new rule's text may touch -/
def bdR (k j : Nat) : Bool := Nat.ble 110 k || Nat.beq k 23 || kRd k j || (Nat.beq k 1 && Nat.beq j 1) || (Nat.beq k 76 && (Nat.beq j 2 || Nat.beq j 3 || Nat.beq j 4 || Nat.beq j 5 || Nat.beq j 13 || Nat.beq j 14)) || (Nat.ble 78 k && Nat.ble k 84)
theorem bdR_k {k j : Nat} (h : bdR k j = true) : 110 ≤ k ∨ k = 23 ∨ k = 18 ∨ k = 20 ∨ k = 22 ∨ k = 1 ∨ (k = 76 ∧ (j = 2 ∨ j = 3 ∨ j = 4 ∨ j = 5 ∨ j = 13 ∨ j = 14)) ∨ (78 ≤ k ∧ k ≤ 84) := by
  unfold bdR kRd at h
  simp only [Bool.or_eq_true, Bool.and_eq_true] at h
  rcases h with ((((h | h) | ((h | h) | h)) | h) | h) | h
  · exact Or.inl (Nat.le_of_ble_eq_true h)
  · exact Or.inr (Or.inl (Nat.eq_of_beq_eq_true h))
  · exact Or.inr (Or.inr (Or.inl (Nat.eq_of_beq_eq_true h.1)))
  · exact Or.inr (Or.inr (Or.inr (Or.inl (Nat.eq_of_beq_eq_true h))))
  · exact Or.inr (Or.inr (Or.inr (Or.inr (Or.inl (Nat.eq_of_beq_eq_true h)))))
  · exact Or.inr (Or.inr (Or.inr (Or.inr (Or.inr (Or.inl (Nat.eq_of_beq_eq_true h.1))))))
  · refine Or.inr (Or.inr (Or.inr (Or.inr (Or.inr (Or.inr (Or.inl ⟨Nat.eq_of_beq_eq_true h.1, ?_⟩))))))
    rcases h.2 with ((((h | h) | h) | h) | h) | h <;> have := Nat.eq_of_beq_eq_true h <;> omega
  · exact Or.inr (Or.inr (Or.inr (Or.inr (Or.inr (Or.inr (Or.inr ⟨Nat.le_of_ble_eq_true h.1, Nat.le_of_ble_eq_true h.2⟩))))))
theorem bd_kS {k j : Nat} (q : kS k j = false) : bdR k j = false := by
  cases e : bdR k j with
  | false => rfl
  | true =>
    have t : kS k j = true := by
      rcases bdR_k e with h | h | h | h | h | h | ⟨h, h'⟩ | h
      · unfold kS; simp [nbF (show k ≠ 24 by omega), nbF (show k ≠ 26 by omega), nbF (show k ≠ 28 by omega), nbF (show k ≠ 30 by omega), nbF (show k ≠ 32 by omega), nbF (show k ≠ 34 by omega), nbF (show k ≠ 89 by omega), nbF (show k ≠ 90 by omega), nbF (show k ≠ 91 by omega), nbF (show k ≠ 76 by omega)]
      · subst h; rfl
      · subst h; rfl
      · subst h; rfl
      · subst h; rfl
      · subst h; rfl
      · subst h; rcases h' with r | r | r | r | r | r <;> subst r <;> rfl
      · have h3 : k = 78 ∨ k = 79 ∨ k = 80 ∨ k = 81 ∨ k = 82 ∨ k = 83 ∨ k = 84 := by omega
        rcases h3 with r | r | r | r | r | r | r <;> subst r <;> rfl
    rw [t] at q; exact q
theorem bd_kI {k j : Nat} (q : kI k j = false) : bdR k j = false := by
  cases e : bdR k j with
  | false => rfl
  | true =>
    have t : kI k j = true := by
      rcases bdR_k e with h | h | h | h | h | h | ⟨h, h'⟩ | h
      · unfold kI; simp [nbF (show k ≠ 0 by omega), nbF (show k ≠ 36 by omega), nbF (show k ≠ 108 by omega), nbF (show k ≠ 76 by omega)]
      · subst h; rfl
      · subst h; rfl
      · subst h; rfl
      · subst h; rfl
      · subst h; rfl
      · subst h; rcases h' with r | r | r | r | r | r <;> subst r <;> rfl
      · have h3 : k = 78 ∨ k = 79 ∨ k = 80 ∨ k = 81 ∨ k = 82 ∨ k = 83 ∨ k = 84 := by omega
        rcases h3 with r | r | r | r | r | r | r <;> subst r <;> rfl
    rw [t] at q; exact q
theorem bd_kP {k j : Nat} (q : kP k j = false) : bdR k j = false := by
  cases e : bdR k j with
  | false => rfl
  | true =>
    have t : kP k j = true := by
      rcases bdR_k e with h | h | h | h | h | h | ⟨h, h'⟩ | h
      · unfold kP; simp [nbF (show k ≠ 37 by omega), nbF (show k ≠ 39 by omega), nbF (show k ≠ 41 by omega), nbF (show k ≠ 43 by omega), nbF (show k ≠ 95 by omega), nbF (show k ≠ 76 by omega)]
      · subst h; rfl
      · subst h; rfl
      · subst h; rfl
      · subst h; rfl
      · subst h; rfl
      · subst h; rcases h' with r | r | r | r | r | r <;> subst r <;> rfl
      · have h3 : k = 78 ∨ k = 79 ∨ k = 80 ∨ k = 81 ∨ k = 82 ∨ k = 83 ∨ k = 84 := by omega
        rcases h3 with r | r | r | r | r | r | r <;> subst r <;> rfl
    rw [t] at q; exact q
theorem bd_kE {k j : Nat} (q : kE k j = false) : bdR k j = false := by
  cases e : bdR k j with
  | false => rfl
  | true =>
    have t : kE k j = true := by
      rcases bdR_k e with h | h | h | h | h | h | ⟨h, h'⟩ | h
      · have nbl : Nat.ble k 103 = false := by
          cases e2 : Nat.ble k 103 with
          | false => rfl
          | true => exact absurd (Nat.le_of_ble_eq_true e2) (by omega)
        unfold kE; simp [nbF (show k ≠ 44 by omega), nbF (show k ≠ 46 by omega), nbF (show k ≠ 48 by omega), nbF (show k ≠ 50 by omega), nbF (show k ≠ 52 by omega), nbF (show k ≠ 76 by omega), nbl]
      · subst h; rfl
      · subst h; rfl
      · subst h; rfl
      · subst h; rfl
      · subst h; rfl
      · subst h; rcases h' with r | r | r | r | r | r <;> subst r <;> rfl
      · have h3 : k = 78 ∨ k = 79 ∨ k = 80 ∨ k = 81 ∨ k = 82 ∨ k = 83 ∨ k = 84 := by omega
        rcases h3 with r | r | r | r | r | r | r <;> subst r <;> rfl
    rw [t] at q; exact q
theorem bd_kR {k j : Nat} (q : kR k j = false) : bdR k j = false := by
  cases e : bdR k j with
  | false => rfl
  | true =>
    have t : kR k j = true := by
      rcases bdR_k e with h | h | h | h | h | h | ⟨h, h'⟩ | h
      · unfold kR; simp [nbF (show k ≠ 0 by omega), nbF (show k ≠ 76 by omega)]
      · subst h; rfl
      · subst h; rfl
      · subst h; rfl
      · subst h; rfl
      · subst h; rfl
      · subst h; rcases h' with r | r | r | r | r | r <;> subst r <;> rfl
      · have h3 : k = 78 ∨ k = 79 ∨ k = 80 ∨ k = 81 ∨ k = 82 ∨ k = 83 ∨ k = 84 := by omega
        rcases h3 with r | r | r | r | r | r | r <;> subst r <;> rfl
    rw [t] at q; exact q
theorem ne_3 (p : Nat) : (∀ r, (.inr (3, [.ref p]) : sm_Sh) ≠ oArr r) ∧ ∀ e, (.inr (3, [.ref p]) : sm_Sh) ≠ oLst e := by
  refine ⟨fun r e => ?_, fun e z => ?_⟩
  · cases e
  · cases z
theorem ne_i (m : Nat) (r' : List (Option Nat)) : (∀ r, (.inl (.int, m, r') : sm_Sh) ≠ oArr r) ∧ ∀ e, (.inl (.int, m, r') : sm_Sh) ≠ oLst e := by
  refine ⟨fun r e => ?_, fun e z => ?_⟩
  · cases e
  · cases z
theorem ne_4 (a b : Nat) : (∀ r, (.inr (4, [.ref a, .ref b]) : sm_Sh) ≠ oArr r) ∧ ∀ e, (.inr (4, [.ref a, .ref b]) : sm_Sh) ≠ oLst e := by
  refine ⟨fun r e => ?_, fun e z => ?_⟩
  · cases e
  · cases z
theorem wCL_cg : ∀ (CL : List clT), CLok CL → ∀ f g : Nat → Int32, (∀ j, j < 6 → f j = g j) → wCL CL f = wCL CL g
  | [], _, _, _, _ => rfl
  | c :: r, h, f, g, e => by
    obtain ⟨hs, hd⟩ := h c List.mem_cons_self
    have ih := wCL_cg r (fun x hx => h x (List.mem_cons_of_mem _ hx)) f g e
    rw [wCL, wCL]
    cases hc : c.1 with
    | none => exact hs.1 f g e
    | some d =>
      show (if d.2 f = 0 then wCL r f else c.2.2 f) = (if d.2 g = 0 then wCL r g else c.2.2 g)
      rw [(hd d hc).1.1 f g e, ih, hs.1 f g e]
section
variable {n : Nat} {T T2 T3 : List sm_Sh} {I I1 I2 I3 J I' : sm_MI} {L L2 L3 : sm_ML} {A : Nat → Nat → Int32} {W : Nat → (Nat → Int32) → Int32} {H S N R ν lb b : Nat}
theorem Bs_lt {k : Nat} {s : sm_Sh} (h : sm_tB[k]? = some (some s)) : k < 110 ∧ k ≠ 23 := by
  refine ⟨(List.getElem?_eq_some_iff.mp h).1, fun e => ?_⟩
  subst e
  exact absurd h (by intro z; cases z)
theorem sRL_of {T : List sm_Sh} (hB : sm_Bs T) (hW : ∀ i (f g : Nat → Int32), (∀ j, j < 6 → f j = g j) → W i f = W i g) {e0 m0 : Nat} {r0 : List (Option Nat)} (h23 : T[23]? = some (oLst e0)) (hr : ∀ i, i < R → T[e0]? = some (.inl (.object "java/lang/Object", m0, r0)) ∧ i < m0 ∧ m0 < 2 ^ 31 ∧ ∃ k a b : Nat, r0.getD i none = some k ∧ T[k]? = some (.inr (4, [.ref a, .ref b])) ∧ sRK T (W i) a b I) : sRL T W R I := by
  refine ⟨hW, e0, m0, r0, h23, fun i hi => ?_⟩
  obtain ⟨g1, g2, g3, k, a, b, g4, g5, g6⟩ := hr i hi
  exact ⟨g1, g2, g3, k, a, b, g4, g5, g6, fun n I' L' F hI hF => s_worth hB g5 g6 n I' L' F hI hF⟩
/-- a rule as the class keeps it, the list beside it grown -/
theorem sRK_T {w : vfn} {a b : Nat} (h : sRK T w a b I) (hT : ∀ (j : Nat) (sh : sm_Sh), T[j]? = some sh → (∀ r, sh ≠ oArr r) → (∀ e, sh ≠ oLst e) → T3[j]? = some sh) (hI : ∀ k, 110 ≤ k → k < T.length → J k = I k) : sRK T3 w a b J := by
  obtain ⟨pa, pb, m, ra, rb, CL, h1, h2, h3, h4, h5, h6, h7, h8, h9, h10, h11⟩ := h
  have n3 := ne_3
  have nI' := ne_i m
  refine ⟨pa, pb, m, ra, rb, CL, h1, h2, hT _ _ h3 (n3 pa).1 (n3 pa).2, hT _ _ h4 (nI' ra).1 (nI' ra).2, hT _ _ h5 (n3 pb).1 (n3 pb).2, hT _ _ h6 (nI' rb).1 (nI' rb).2, h7, h8, fun j hj => ?_, h10, h11⟩
  rw [hI pa h1 (lt_of h4), hI pb h2 (lt_of h6)]
  exact h9 j hj
theorem RR_rule {CL : List clT} (hR : RR A W H S N R ν lb b T I L) (hA : AL T R) (hR5 : R < 5) (hl : T.length + 6 < 1000000) (hCL : CLok CL) (hm : (layC 0 CL).length ≤ 160) (hc90 : CL.length ≤ 90)
    (f1 : Fr kRd I I1) (c1 : ∀ j, j < (layC 0 CL).length → I1 20 j = (atP (layC 0 CL) j).1 ∧ I1 22 j = (atP (layC 0 CL) j).2)
    (hM : kMade T (sm_uI I1 1 1 0) L (layC 0 CL).length (some (.ref T.length)) T2 I2 L2) (hAd : kAddF T2 I2 L2 R T.length (some (.int 1)) T3 I3 L3)
    (hX : mlX R I3 J) (h81 : J 81 R = nI CL.length) (hlay : mLay J R 0 0 CL) :
    RR A (fun i => if i = R then wCL CL else W i) H S N (R + 1) ν lb b T3 (sm_uI (sm_uI J 76 2 0) 76 13 (nI (R + 1))) L3 ∧ AL T3 (R + 1) ∧ T3.length ≤ T.length + 6 := by
  obtain ⟨-, a1, a2, a3, ⟨a4, a5, a6, a7⟩, a8, a9⟩ := hM
  obtain ⟨-, e0, old, hold, -, e1, r1, b1, b2, b3, b4, b5, b6, b7, b8, b9, b10, b11, b12⟩ := hAd
  have hB := hR.hB
  have lB : 109 < T.length := lt_of (t_109 hB)
  -- the shapes
  have keep2 : ∀ (j : Nat) (sh : sm_Sh), T2[j]? = some sh → (∀ r, sh ≠ oArr r) → (∀ e, sh ≠ oLst e) → T3[j]? = some sh := by
    intro j sh h n1 n2
    have hj := lt_of h
    obtain ⟨e2, h23⟩ := hA.at
    have h23' : T2[23]? = some (oLst e2) := (a2 23 (by omega)).trans h23
    rw [b7 j hj (fun e => ?_) (fun e => ?_)]
    · exact h
    · subst e; rw [h23'] at h; exact n2 e2 (Option.some.inj h).symm
    · subst e
      rcases hold with ⟨_, z⟩ | ⟨r0, ge, _, z, _⟩
      · omega
      · rw [z] at h; exact n1 r0 (Option.some.inj h).symm
  have keep : ∀ (j : Nat) (sh : sm_Sh), T[j]? = some sh → (∀ r, sh ≠ oArr r) → (∀ e, sh ≠ oLst e) → T3[j]? = some sh := fun j sh h n1 n2 => keep2 j sh ((a2 j (lt_of h)).trans h) n1 n2
  have hB3 : sm_Bs T3 := by
    intro k s hs
    obtain ⟨k1, k2⟩ := Bs_lt hs
    have h := hB k s hs
    rw [b7 k (by omega) k2 (fun e => ?_), a2 k (by omega)]
    · exact h
    · subst e
      rcases hold with ⟨_, z⟩ | ⟨r0, ge, _, z, _⟩
      · omega
      · omega
  have hA3 : AL T3 (R + 1) := Or.inr ⟨e1, r1, b1, b2, b3, b4⟩
  -- the cells
  have up : ∀ k, k < T.length → k ≠ 23 → I3 k = (sm_uI I1 1 1 0) k := fun k hk h => (b11 k (by omega) h).trans (a9 k hk).1
  have xk : ∀ k j, bdR k j = false → (sm_uI (sm_uI J 76 2 0) 76 13 (nI (R + 1))) k j = I k j := by
    intro k j q
    have q2 := q
    unfold bdR at q2
    simp only [Bool.or_eq_false_iff] at q2
    obtain ⟨⟨⟨⟨⟨q3, q4⟩, q5⟩, q6⟩, q7⟩, q8⟩ := q2
    have k110 : k < 110 := by
      rcases Nat.lt_or_ge k 110 with z | z
      · exact z
      · rw [Nat.ble_eq_true_of_le z] at q3; cases q3
    have k23 : k ≠ 23 := fun e => by subst e; cases q4
    have k11 : ¬ (k = 1 ∧ j = 1) := fun e => by obtain ⟨r1, r2⟩ := e; subst r1; subst r2; cases q6
    have k76 : ∀ i, (i = 2 ∨ i = 3 ∨ i = 4 ∨ i = 5 ∨ i = 13 ∨ i = 14) → ¬ (k = 76 ∧ j = i) := fun i hi e => by
      obtain ⟨r1, r2⟩ := e
      subst r1; subst r2
      rcases hi with r | r | r | r | r | r <;> subst r <;> cases q7
    have k78 : ¬ (78 ≤ k ∧ k ≤ 84) := fun e => by rw [Nat.ble_eq_true_of_le e.1, Nat.ble_eq_true_of_le e.2] at q8; cases q8
    have d2 := k76 2 (by omega)
    have d3 := k76 3 (by omega)
    have d4 := k76 4 (by omega)
    have d5 := k76 5 (by omega)
    have d13 := k76 13 (by omega)
    have d14 := k76 14 (by omega)
    rw [cuD d13, cuD d2, hX k j (by omega) (by omega) (by omega) (by omega), up k (by omega) k23, cuD k11]
    exact f1 k j q5
  have xL : ∀ k, k < T.length → L3 k = L k := fun k hk => (b12 k (by omega)).trans (a9 k hk).2
  have fx : ∀ (P : Nat → Nat → Bool), (∀ k j, P k j = false → bdR k j = false) → Fr P I (sm_uI (sm_uI J 76 2 0) 76 13 (nI (R + 1))) := fun P hP k j q => xk k j (hP k j q)
  have high : ∀ k, 110 ≤ k → (sm_uI (sm_uI J 76 2 0) 76 13 (nI (R + 1))) k = I3 k := fun k hk => funext (fun j => by rw [cuD (by omega), cuD (by omega), hX k j (by omega) (by omega) (by omega) (by omega)])
  have highT : ∀ k, 110 ≤ k → k < T.length → (sm_uI (sm_uI J 76 2 0) 76 13 (nI (R + 1))) k = I k := fun k hk hkl => by
    rw [high k hk, up k hkl (by omega), sm_uI_ne (by omega)]
    exact f1.at k (fun j => by
      unfold kRd
      simp [nbF (show k ≠ 18 by omega), nbF (show k ≠ 20 by omega), nbF (show k ≠ 22 by omega)])
  obtain ⟨p1, p2, p3, p4, p5, p6, p7⟩ := hR.gn
  obtain ⟨y1, y2, y3, y4, y5, y6, y7, y8⟩ := hR.va
  obtain ⟨v1, v2, v3, v4⟩ := hR.gm
  have row : ∀ k, bdR k 0 = false → (∀ j, bdR k j = bdR k 0) → (sm_uI (sm_uI J 76 2 0) 76 13 (nI (R + 1))) k = I k := fun k h h2 => funext (fun j => xk k j ((h2 j).trans h))
  have hW' : ∀ i (f g : Nat → Int32), (∀ j, j < 6 → f j = g j) → (fun i => if i = R then wCL CL else W i) i f = (fun i => if i = R then wCL CL else W i) i g := by
    intro i f g e
    show (if i = R then wCL CL else W i) f = (if i = R then wCL CL else W i) g
    by_cases c : i = R
    · rw [if_pos c]; exact wCL_cg CL hCL f g e
    · rw [if_neg c]; exact hR.ml.1 i f g e
  refine ⟨RR_mk hB3 hR.bb (gS_t hR.st (fx kS (fun k j => bd_kS))) ⟨y1, y2, y3, y4, by omega, fun w hw => ⟨(y6 w hw).1, ?_⟩, y7, y8⟩ ⟨p1, p2, ?_, ?_, ?_, ?_, ?_⟩ ⟨0, by decide, ?_, ?_, fun j hj => absurd hj (Nat.not_lt_zero j)⟩ (gI_t hR.gi (Nat.le_refl _) (fx kI (fun k j => bd_kI)) (by rw [xL 36 (by omega)]) (by rw [xL 76 (by omega)])) (gP_t hR.gp (Nat.le_refl _) (fx kP (fun k j => bd_kP)) (fun i => by rw [xL 96 (by omega)])) (gE_t hR.ge (fx kE (fun k j => bd_kE))) (gK_t hR.gk (fx kR (fun k j => bd_kR))) ⟨?_, ?_, ?_, fun w hw => ?_⟩ ?_ ?_ ?_ ?_ ?_, hA3, by omega⟩
  · rcases (y6 w hw).2 with z | ⟨i, z1, z2⟩
    · exact Or.inl z
    · exact Or.inr ⟨i, by omega, z2⟩
  · rw [xk 35 1 rfl]; exact p3
  · rw [xk 35 2 rfl]; exact p4
  · rw [xk 76 33 rfl]; exact p5
  · rw [xL 35 (by omega), xL 76 (by omega)]; exact p6
  · rw [xk 35 0 rfl]; exact p7
  · rw [cuD (by omega), cuD (by omega), hX 1 1 (by omega) (by omega) (by omega) (by omega), up 1 (by omega) (by omega), cuA]; rfl
  · rw [cuD (by omega), cuA]; rfl
  · rw [cuD (by omega), cuD (by omega), hX 23 2 (by omega) (by omega) (by omega) (by omega)]; exact b10
  · rw [cuA]
  · rw [xk 76 39 rfl]; exact v3
  · rw [xk 93 w rfl]; exact v4 w hw
  · rw [xk 35 0 rfl, row 92 rfl (fun j => rfl)]; exact hR.u
  · rw [xk 76 34 rfl]; exact hR.n34
  · intro ν2 w q2 g1 g2 g3 g4 g5
    rw [row 67 rfl (fun j => rfl)] at g5
    rw [row 65 rfl (fun j => rfl), hR.c ν2 w q2 g1 g2 g3 g4 g5]
    have g4' : A 5 w ≠ -1 := g4
    rcases (y6 w g2).2 with z | ⟨i, z1, z2⟩
    · exact absurd z g4'
    · have ec : ((mkE A 0 0 0 0 0 (fun _ => 0)) 5 w).toNatClampNeg = i := by
        show (A 5 w).toNatClampNeg = i
        rw [z2, nI_clamp (by omega)]
      rw [ec]
      show W i _ = (if i = R then wCL CL else W i) _
      rw [if_neg (by omega)]
  · refine sRL_of hB3 hW' b2 (m0 := 10) (r0 := r1) (fun i hi => ⟨b3, by omega, by decide, ?_⟩)
    by_cases c : i = R
    · subst c
      have n4 := ne_4
      have n3 := ne_3
      have nI' := ne_i
      refine ⟨T.length, T.length + 1, T.length + 3, b5, keep2 _ _ a3 (n4 _ _).1 (n4 _ _).2, ?_⟩
      show sRK T3 (if i = i then wCL CL else W i) _ _ _
      rw [if_pos rfl]
      refine ⟨T.length + 2, T.length + 4, (layC 0 CL).length, [], [], CL, by omega, by omega, keep2 _ _ a4 (n3 _).1 (n3 _).2, keep2 _ _ a5 (nI' _ _).1 (nI' _ _).2, keep2 _ _ a6 (n3 _).1 (n3 _).2, keep2 _ _ a7 (nI' _ _).1 (nI' _ _).2, rfl, hm, fun j hj => ?_, hCL, fun f => rfl⟩
      obtain ⟨q1, q2⟩ := a8 j hj
      obtain ⟨q3, q4⟩ := c1 j hj
      rw [high _ (by omega), high _ (by omega), b11 _ (by omega) (by omega), b11 _ (by omega) (by omega), q1, q2, cuD (by omega), cuD (by omega)]
      exact ⟨q3, q4⟩
    · have hiR : i < R := by omega
      obtain ⟨_, e2, m2, r2, h23, hr⟩ := hR.rl
      obtain ⟨g1, g2, g3, k, a, b', g4, g5, g6, _⟩ := hr i hiR
      have hk : r1.getD i none = some k := by
        rw [b6 i hiR]
        rcases hold with ⟨z, _⟩ | ⟨r0, _, z1, z2, z3⟩
        · omega
        · have w1 : T2[23]? = some (oLst e2) := (a2 23 (by omega)).trans h23
          rw [w1] at z1
          have ee : e2 = e0 := by
            have := Option.some.inj z1
            injection this with this
            injection this with _ this
            injection this with _ this
            injection this with this _
            injection this with this
          subst ee
          have w2 := (a2 e2 (lt_of g1)).trans g1
          rw [w2] at z2
          have er : r2 = r0 := by
            have := Option.some.inj z2
            injection this with this
            injection this with _ this
            injection this
          rw [z3, ← er]; exact g4
      refine ⟨k, a, b', hk, keep _ _ g5 (ne_4 _ _).1 (ne_4 _ _).2, ?_⟩
      show sRK T3 (if i = R then wCL CL else W i) _ _ _
      rw [if_neg c]
      exact sRK_T g6 keep highT
  · refine mRL_of hB3 (by omega) hW' (fun i hi => ?_)
    show mRK (if i = R then wCL CL else W i) i _
    have mm : ∀ k j, 78 ≤ k → k ≤ 84 → (sm_uI (sm_uI J 76 2 0) 76 13 (nI (R + 1))) k j = J k j := fun k j h1 h2 => by rw [cuD (by omega), cuD (by omega)]
    by_cases c : i = R
    · subst c
      rw [if_pos rfl]
      refine mRK_up (I0 := J) ⟨CL, hc90, h81, hlay, hCL, fun f => rfl⟩ (mm 81 _ (by decide) (by decide)) (fun j _ => ⟨mm 78 _ (by decide) (by decide), mm 79 _ (by decide) (by decide)⟩) (fun j _ => ⟨mm 82 _ (by decide) (by decide), mm 83 _ (by decide) (by decide), mm 84 _ (by decide) (by decide)⟩)
    · rw [if_neg c]
      have up3 : ∀ k j, 78 ≤ k → k ≤ 84 → I3 k j = I k j := fun k j h1 h2 => by
        rw [up k (by omega) (by omega), cuD (by omega)]
        exact f1 k j (by unfold kRd; simp [nbF (show k ≠ 18 by omega), nbF (show k ≠ 20 by omega), nbF (show k ≠ 22 by omega)])
      have k0 : mRK (W i) i I3 := mRK_up (RR_mrk hR i (by omega)) (up3 81 _ (by decide) (by decide)) (fun j _ => ⟨up3 78 _ (by decide) (by decide), up3 79 _ (by decide) (by decide)⟩) (fun j _ => ⟨up3 82 _ (by decide) (by decide), up3 83 _ (by decide) (by decide), up3 84 _ (by decide) (by decide)⟩)
      exact mRK_up (mlX_rk hX (by omega) k0) (mm 81 _ (by decide) (by decide)) (fun j _ => ⟨mm 78 _ (by decide) (by decide), mm 79 _ (by decide) (by decide)⟩) (fun j _ => ⟨mm 82 _ (by decide) (by decide), mm 83 _ (by decide) (by decide), mm 84 _ (by decide) (by decide)⟩)
end
