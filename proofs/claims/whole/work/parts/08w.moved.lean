theorem nbF {k m : Nat} (h : k ≠ m) : Nat.beq k m = false := by
  cases e : Nat.beq k m with
  | false => rfl
  | true => exact absurd (Nat.eq_of_beq_eq_true e) h
/-- what the new street says -/
def Anew (st : stT) : Nat → Nat → Int32 := fun k j => if k = 0 then (if j = 3 then nI st.2.2.1 else nI st.2.2.2) else if k = 5 then -1 else nI ((st.1.getD j dfA) (k - 1))
theorem cU8_N {N : Nat} (hN : N ≤ 8) {p : Int32} {g : Nat → Int32} (h : ∀ t, cU 8 p t = if t < N then g t else 0) : cU N p = mU N g := by
  have low : ∀ r, r < 32 → 3 * N ≤ r → bt p r = false := by
    intro r hr hN3
    rcases Nat.lt_or_ge r 24 with c | c
    · have e := h (r / 3)
      rw [if_neg (by omega), cU_at p (by omega)] at e
      have e2 := congrArg (fun x => bt x (r % 3)) e
      simp only [bt_Pl _ (show r / 3 < 8 by omega), b_0] at e2
      have h3 : r % 3 < 3 := Nat.mod_lt _ (by decide)
      rw [Nat.div_add_mod] at e2
      simpa [h3] using e2
    · have e := h 8
      rw [if_neg (by omega)] at e
      have e1 : cU 8 p 8 = q_s p (nI (3 * 8)) := by unfold cU; rw [if_neg (by omega), if_pos rfl]
      rw [e1] at e
      have e2 := congrArg (fun x => bt x (r - 24)) e
      simp only [bt_s _ (show 3 * 8 < 32 by omega), b_0] at e2
      rwa [show 3 * 8 + (r - 24) = r by omega] at e2
  funext t
  unfold mU
  by_cases c : t < N
  · have e := h t
    rw [if_pos c, cU_at p (by omega)] at e
    rw [if_pos c, cU_at p c]; exact e
  · rw [if_neg c]
    unfold cU
    rw [if_neg c]
    by_cases c2 : t = N
    · rw [if_pos c2]
      apply b_ext
      intro i hi
      rw [bt_s _ (by omega), b_0]
      rcases Nat.lt_or_ge (3 * N + i) 32 with z | z
      · exact low _ z (by omega)
      · exact b_big z
    · rw [if_neg c2]
section
variable {n : Nat} {T : List sm_Sh} {I I' : sm_MI} {L L' : sm_ML} {A : Nat → Nat → Int32} {W : Nat → (Nat → Int32) → Int32} {H S N R ν lb b : Nat}
theorem gd_mem {α : Type} {l : List α} {j : Nat} {d : α} (h : j < l.length) : l.getD j d ∈ l := by
  rw [List.getD_eq_getElem?_getD, List.getElem?_eq_getElem h]
  exact List.getElem_mem h
theorem RR_moved {q : Nat × stT} {J1 J4 J5 J6 : sm_MI} (hR : RR A W H S N R ν lb b T I L) (h2 : 2 ≤ q.1) (h8 : q.1 ≤ 8) (hL : fL q.1 q.2) (hS : q.2.1.length ≠ 0) (hN : q.2.2.1.length ≠ 0)
    (f1 : Fr kDS I J1) (D1 : dD q.1 q.2 J1) (f4 : Fr kMv (sm_uI J1 1 1 0) J4)
    (c24 : J4 24 0 = (sm_uI J1 1 1 0) 5 0 ∧ J4 24 1 = (sm_uI J1 1 1 0) 5 1 ∧ J4 24 2 = (sm_uI J1 1 1 0) 5 2 ∧ J4 24 3 = (sm_uI J1 1 1 0) 5 3 ∧ J4 24 4 = (sm_uI J1 1 1 0) 5 4 ∧ J4 24 5 = (sm_uI J1 1 1 0) 5 5)
    (c26 : ∀ w, w < 5 → J4 26 w = (sm_uI J1 1 1 0) 7 w ∧ J4 28 w = (sm_uI J1 1 1 0) 9 w ∧ J4 30 w = (sm_uI J1 1 1 0) 11 w ∧ J4 32 w = (sm_uI J1 1 1 0) 13 w ∧ J4 34 w = (sm_uI J1 1 1 0) 15 w)
    (c35 : J4 35 0 = (sm_uI J1 1 1 0) 5 3 ∧ J4 35 1 = 0 ∧ J4 35 2 = 0 ∧ J4 0 7 = sm_z false ∧ J4 37 4 = 0 ∧ J4 44 4 = 0 ∧ J4 44 5 = 0)
    (f5 : Fr kMS J4 J5) (D5 : mDf q.1 q.2 J5) (f6 : Fr kMt (sm_uI J5 76 2 0) J6)
    (m26 : J6 76 26 = (sm_uI J5 76 2 0) 76 19 ∧ J6 76 27 = (sm_uI J5 76 2 0) 76 20 ∧ J6 76 28 = (sm_uI J5 76 2 0) 76 21 ∧ J6 76 29 = (sm_uI J5 76 2 0) 76 22 ∧ J6 76 30 = (sm_uI J5 76 2 0) 76 23)
    (m89 : ∀ j, j < 20 → J6 89 j = (sm_uI J5 76 2 0) 87 j) (m90 : ∀ t, t < 8 → J6 90 t = (sm_uI J5 76 2 0) 88 t ∧ J6 92 t = (sm_uI J5 76 2 0) 88 t) (m91 : ∀ w, w < 5 → J6 91 w = -1) (m33 : J6 76 33 = 0 ∧ J6 76 34 = 0 ∧ J6 76 42 = 0 ∧ J6 76 51 = 0 ∧ J6 76 60 = sm_z false) :
    RR (Anew q.2) W q.1 q.2.1.length q.2.2.1.length R 0 0 b T J6 L := by
  obtain ⟨l5, l8, lh, lt, lp, lf⟩ := hL
  obtain ⟨⟨a0, a1, a2, a4, a5⟩, a3, ar, a15⟩ := D1
  obtain ⟨⟨b0, b1, b2, b4, b5⟩, br, bt⟩ := D5
  -- the class's cells, seen at the end
  have cl : ∀ k j, k ≠ 76 → k ≠ 87 → k ≠ 88 → k ≠ 89 → k ≠ 90 → k ≠ 91 → k ≠ 92 → J6 k j = J4 k j := by
    intro k j h1 h2 h3 h4 h5 h6 h7
    have e1 : kMt k j = false := by
      unfold kMt
      have := fun m (h : k ≠ m) => show Nat.beq k m = false from nbF h
      simp [this 76 h1, this 89 h4, this 90 h5, this 91 h6, this 92 h7]
    have e2 : kMS k j = false := by
      unfold kMS
      have := fun m (h : k ≠ m) => show Nat.beq k m = false from nbF h
      simp [this 76 h1, this 87 h2, this 88 h3]
    rw [f6 k j e1, cuD (by omega), f5 k j e2]
  have un : ∀ k j, kDS k j = false → ¬ (k = 1 ∧ j = 1) → kMv k j = false → kMS k j = false → ¬ (k = 76 ∧ j = 2) → kMt k j = false → J6 k j = I k j := fun k j u1 u2 u3 u4 u5 u6 => by
    rw [f6 k j u6, cuD u5, f5 k j u4, f4 k j u3, cuD u2, f1 k j u1]
  have d5 : ∀ k j, k ≠ 1 → (sm_uI J1 1 1 0) k j = J1 k j := fun k j h => cuD (by omega)
  have mm : ∀ k j, ¬ (k = 76 ∧ j = 2) → (sm_uI J5 76 2 0) k j = J5 k j := fun k j h => cuD h
  have e3 : ∀ p, cU 8 (J1 5 3) p = if p < q.2.2.1.length then nI (q.2.2.1.getD p 0) else 0 := a3
  have x88 : ∀ f : Nat → Int32, (∀ t, t < 8 → f t = (sm_uI J5 76 2 0) 88 t) → mU q.2.2.1.length f = mU q.2.2.1.length (fun t => nI (q.2.2.1.getD t 0)) := by
    intro f hf
    funext t
    unfold mU
    by_cases c : t < q.2.2.1.length
    · rw [if_pos c, if_pos c, hf t (by omega), mm 88 t (by omega)]; exact bt t c
    · rw [if_neg c, if_neg c]
  have x53 := cU8_N l8 e3
  have gr : gR q.1 q.2.2.1.length (mU q.2.2.1.length (fun t => nI (q.2.2.1.getD t 0))) := by
    intro t ht
    exact ⟨q.2.2.1.getD t 0, lt _ (gd_mem ht), mU_at _ ht⟩
  have y24 : J6 24 3 = J1 5 3 := by rw [cl 24 3 (by decide) (by decide) (by decide) (by decide) (by decide) (by decide) (by decide), c24.2.2.2.1, d5 _ _ (by decide)]
  have y35 : J6 35 0 = J1 5 3 := by rw [cl 35 0 (by decide) (by decide) (by decide) (by decide) (by decide) (by decide) (by decide), c35.1, d5 _ _ (by decide)]
  have hA : ∀ w k, k ≠ 0 → k ≠ 5 → (Anew q.2) k w = nI ((q.2.1.getD w dfA) (k - 1)) := fun w k h1 h2 => by unfold Anew; rw [if_neg h1, if_neg h2]
  have hA5 : ∀ w, (Anew q.2) 5 w = -1 := fun w => by unfold Anew; rw [if_neg (by decide), if_pos rfl]
  obtain ⟨p1, p2, p3, p4, p5, p6, p7⟩ := hR.gn
  have hst : gS (Anew q.2) q.1 q.2.1.length q.2.2.1.length J6 := by
    refine ⟨⟨?_, ?_, ?_, ?_, ?_⟩, fun w hw => ?_, ⟨?_, ?_, ?_, ?_, ?_⟩, fun w hw => ?_, ?_, ?_⟩
    · rw [cl 24 0 (by decide) (by decide) (by decide) (by decide) (by decide) (by decide) (by decide), c24.1, d5 _ _ (by decide)]; exact a0
    · rw [cl 24 1 (by decide) (by decide) (by decide) (by decide) (by decide) (by decide) (by decide), c24.2.1, d5 _ _ (by decide)]; exact a1
    · rw [cl 24 2 (by decide) (by decide) (by decide) (by decide) (by decide) (by decide) (by decide), c24.2.2.1, d5 _ _ (by decide)]; exact a2
    · rw [cl 24 4 (by decide) (by decide) (by decide) (by decide) (by decide) (by decide) (by decide), c24.2.2.2.2.1, d5 _ _ (by decide)]; exact a4
    · rw [cl 24 5 (by decide) (by decide) (by decide) (by decide) (by decide) (by decide) (by decide), c24.2.2.2.2.2, d5 _ _ (by decide)]; exact a5
    · obtain ⟨g1, g2, g3, g4, g5⟩ := c26 w (by omega)
      obtain ⟨r1, r2, r3, r4⟩ := ar w hw
      refine ⟨?_, ?_, ?_, ?_, ?_⟩
      · rw [cl 26 w (by decide) (by decide) (by decide) (by decide) (by decide) (by decide) (by decide), g1, d5 _ _ (by decide), hA w 1 (by decide) (by decide)]; exact r1
      · rw [cl 28 w (by decide) (by decide) (by decide) (by decide) (by decide) (by decide) (by decide), g2, d5 _ _ (by decide), hA w 2 (by decide) (by decide)]; exact r2
      · rw [cl 30 w (by decide) (by decide) (by decide) (by decide) (by decide) (by decide) (by decide), g3, d5 _ _ (by decide), hA w 3 (by decide) (by decide)]; exact r3
      · rw [cl 32 w (by decide) (by decide) (by decide) (by decide) (by decide) (by decide) (by decide), g4, d5 _ _ (by decide), hA w 4 (by decide) (by decide)]; exact r4
      · rw [cl 34 w (by decide) (by decide) (by decide) (by decide) (by decide) (by decide) (by decide), g5, d5 _ _ (by decide), hA5]; exact a15 w (by omega)
    · rw [m26.1, mm _ _ (by omega)]; exact b0
    · rw [m26.2.1, mm _ _ (by omega)]; exact b1
    · rw [m26.2.2.1, mm _ _ (by omega)]; exact b2
    · rw [m26.2.2.2.1, mm _ _ (by omega)]; exact b4
    · rw [m26.2.2.2.2, mm _ _ (by omega)]; exact b5
    · refine ⟨?_, ?_, ?_, ?_, ?_⟩
      · rw [m89 _ (by omega), mm _ _ (by omega), hA w 1 (by decide) (by decide)]; exact br w hw 0 (by decide)
      · rw [m89 _ (by omega), mm _ _ (by omega), hA w 2 (by decide) (by decide)]; exact br w hw 1 (by decide)
      · rw [m89 _ (by omega), mm _ _ (by omega), hA w 3 (by decide) (by decide)]; exact br w hw 2 (by decide)
      · rw [m89 _ (by omega), mm _ _ (by omega), hA w 4 (by decide) (by decide)]; exact br w hw 3 (by decide)
      · rw [hA5]; exact m91 w (by omega)
    · rw [y24, x53, x88 _ (fun t ht => (m90 t ht).1)]
    · rw [x88 _ (fun t ht => (m90 t ht).1)]; exact gr
  have hva : gV (Anew q.2) q.1 q.2.1.length q.2.2.1.length R := by
    refine ⟨Or.inr ⟨h2, Nat.pos_of_ne_zero hS, Nat.pos_of_ne_zero hN⟩, h8, l5, l8, hR.va.2.2.2.2.1, fun w hw => ⟨⟨(q.2.1.getD w dfA) 0, lh _ (gd_mem hw), hA w 1 (by decide) (by decide)⟩, Or.inl (hA5 w)⟩, ⟨q.2.2.2.1, lp, rfl⟩, ⟨q.2.2.2.2, lf, rfl⟩⟩
  have hu : cU q.2.2.1.length (J6 35 0) = mU q.2.2.1.length (J6 92) := by rw [y35, x53, x88 _ (fun t ht => (m90 t ht).2)]
  have z35 : ∀ j v, j = 1 ∨ j = 2 → J4 35 j = v → J6 35 j = v := fun j v _ e => by rw [cl 35 j (by decide) (by decide) (by decide) (by decide) (by decide) (by decide) (by decide)]; exact e
  refine RR_mk hR.hB hR.bb hst hva ⟨Nat.zero_le _, by decide, z35 1 _ (Or.inl rfl) c35.2.1, z35 2 _ (Or.inr rfl) c35.2.2.1, m33.1, p6, ?_⟩ ⟨0, by decide, ?_, ?_, fun j hj => absurd hj (Nat.not_lt_zero j)⟩ ⟨false, ?_, m33.2.2.2.2, fun z => absurd z (by decide)⟩ ?_ ⟨0, 0, by decide, by decide, ?_, m33.2.2.2.1, ?_, fun k hk => absurd hk (Nat.not_lt_zero k)⟩ ?_ ?_ hu m33.2.1 ?_ (sRL_up hR.rl (fun k hk => funext (fun j => ?_))) (mRL_up hR.ml (fun k k1 k2 => funext (fun j => ?_)))
  · rw [y35, x53]; exact gr
  · rw [cl 1 1 (by decide) (by decide) (by decide) (by decide) (by decide) (by decide) (by decide), f4 1 1 rfl]; exact cuA
  · rw [f6 76 2 rfl]; exact cuA
  · rw [cl 0 7 (by decide) (by decide) (by decide) (by decide) (by decide) (by decide) (by decide)]; exact c35.2.2.2.1
  · obtain ⟨nx, ct, o1, o2, o3, o4, o5, o6, o7⟩ := hR.gp
    refine ⟨nx, 0, o1, by decide, Nat.le_refl _, ?_, ?_, m33.2.2.1, fun i hi => absurd hi (Nat.not_lt_zero i)⟩
    · rw [un 37 3 rfl (by omega) rfl rfl (by omega) rfl]; exact o4
    · rw [cl 37 4 (by decide) (by decide) (by decide) (by decide) (by decide) (by decide) (by decide)]; exact c35.2.2.2.2.1
  · rw [cl 44 4 (by decide) (by decide) (by decide) (by decide) (by decide) (by decide) (by decide)]; exact c35.2.2.2.2.2.1
  · rw [cl 44 5 (by decide) (by decide) (by decide) (by decide) (by decide) (by decide) (by decide)]; exact c35.2.2.2.2.2.2
  · obtain ⟨r, r1, r2, r3⟩ := hR.gk
    exact ⟨r, r1, (un 0 11 rfl (by omega) rfl rfl (by omega) rfl).trans r2, (un 76 35 rfl (by omega) rfl rfl (by omega) rfl).trans r3⟩
  · obtain ⟨r1, r2, r3, r4⟩ := hR.gm
    exact ⟨(un 23 2 rfl (by omega) rfl rfl (by omega) rfl).trans r1, (un 76 13 rfl (by omega) rfl rfl (by omega) rfl).trans r2, (un 76 39 rfl (by omega) rfl rfl (by omega) rfl).trans r3, fun w hw => (un 93 w rfl (by omega) rfl rfl (by omega) rfl).trans (r4 w hw)⟩
  · intro ν2 w q2 g1 g2 g3 g4 g5
    exact absurd (hA5 w) g4
  · have nb := fun m (h : k ≠ m) => show Nat.beq k m = false from nbF h
    refine un k j ?_ (by omega) ?_ ?_ (by omega) ?_
    · unfold kDS; simp [nb 4 (by omega), nb 17 (by omega), nb 15 (by omega), nb 5 (by omega), nb 7 (by omega), nb 9 (by omega), nb 11 (by omega), nb 13 (by omega)]
    · unfold kMv; simp [nb 24 (by omega), nb 26 (by omega), nb 28 (by omega), nb 30 (by omega), nb 32 (by omega), nb 34 (by omega), nb 35 (by omega), nb 0 (by omega), nb 37 (by omega), nb 44 (by omega)]
    · unfold kMS; simp [nb 76 (by omega), nb 87 (by omega), nb 88 (by omega)]
    · unfold kMt; simp [nb 76 (by omega), nb 89 (by omega), nb 90 (by omega), nb 91 (by omega), nb 92 (by omega)]
  · have nb := fun m (h : k ≠ m) => show Nat.beq k m = false from nbF h
    refine un k j ?_ (by omega) ?_ ?_ (by omega) ?_
    · unfold kDS; simp [nb 4 (by omega), nb 17 (by omega), nb 15 (by omega), nb 5 (by omega), nb 7 (by omega), nb 9 (by omega), nb 11 (by omega), nb 13 (by omega)]
    · unfold kMv; simp [nb 24 (by omega), nb 26 (by omega), nb 28 (by omega), nb 30 (by omega), nb 32 (by omega), nb 34 (by omega), nb 35 (by omega), nb 0 (by omega), nb 37 (by omega), nb 44 (by omega)]
    · unfold kMS; simp [nb 76 (by omega), nb 87 (by omega), nb 88 (by omega)]
    · unfold kMt; simp [nb 76 (by omega), nb 89 (by omega), nb 90 (by omega), nb 91 (by omega), nb 92 (by omega)]
end
