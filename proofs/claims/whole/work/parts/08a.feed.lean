/-! ===== feed ===== -/
def qb (x : Int32) (s : Nat) : Int32 := (q_s x (nI s)) &&& 255
/-- the tape with one byte more, if it is one -/
def stp (q : (Nat → Int32) × Nat) (v : Int32) : (Nat → Int32) × Nat := if v = 0 then q else (upd q.1 q.2 v, q.2 + 1)
def tpF (v : Nat → Int32) (q : (Nat → Int32) × Nat) : Nat → (Nat → Int32) × Nat
  | 0 => q
  | k + 1 => stp (tpF v q k) (v k)
def vb (a b c d e : Int32) (k : Nat) : Int32 := qb (if k < 4 then a else if k < 8 then b else if k < 12 then c else if k < 16 then d else e) (24 - 8 * (k % 4))
def cnB (v : Nat → Int32) : Nat → Nat
  | 0 => 0
  | k + 1 => cnB v k + (if v k = 0 then 0 else 1)
theorem tpF_len {v : Nat → Int32} {q : (Nat → Int32) × Nat} : ∀ k, (tpF v q k).2 = q.2 + cnB v k
  | 0 => rfl
  | k + 1 => by
    rw [tpF, cnB, stp]
    by_cases h : v k = 0
    · rw [if_pos h, if_pos h, tpF_len k, Nat.add_zero]
    · rw [if_neg h, if_neg h]
      show (tpF v q k).2 + 1 = _
      rw [tpF_len k]; omega
theorem cnB_mono {v : Nat → Int32} {k m : Nat} (h : k ≤ m) : cnB v k ≤ cnB v m := by
  induction m with
  | zero => rw [show k = 0 by omega]; exact Nat.le_refl _
  | succ m ih =>
    by_cases e : k = m + 1
    · rw [e]; exact Nat.le_refl _
    · have := ih (by omega)
      rw [cnB]; omega
theorem qb_nat (x : Int32) (s : Nat) : ∃ c, c < 256 ∧ qb x s = nI c := pk_andE _ 8 (by decide +kernel)
theorem b_and255 {x y : Int32} (h : ∀ i, i < 8 → bt x i = bt y i) : x &&& 255 = y &&& 255 := by
  apply b_ext
  intro i hi
  rw [b_and, b_and, b_255]
  rcases Nat.lt_or_ge i 8 with q | q
  · rw [h i q]
  · have : ¬ i < 8 := by omega
    simp [this]
theorem qb_s (x : Int32) {s : Nat} (hs : s ≤ 24) : (x >>> (nI s &&& 31)) &&& 255 = qb x s := by
  unfold qb
  apply b_and255
  intro i hi
  rw [b_sshr s (by omega) x (by omega), b_ushr s (by omega), if_pos (by omega)]
/-- a tape's cells and length in a world -/
def tpG (I : sm_MI) (p q c : Nat) (s : (Nat → Int32) × Nat) : sm_MI := fun k j => if k = p then s.1 j else if k = q ∧ j = c then nI s.2 else I k j
theorem tpG_id {I : sm_MI} {p q c len : Nat} (h : I q c = nI len) : tpG I p q c (I p, len) = I := by
  funext k j
  unfold tpG
  by_cases hk : k = p
  · rw [if_pos hk, hk]
  · rw [if_neg hk]
    by_cases h2 : k = q ∧ j = c
    · rw [if_pos h2, h2.1, h2.2]; exact h.symm
    · rw [if_neg h2]
theorem tpG_s {I : sm_MI} {p q c : Nat} {s : (Nat → Int32) × Nat} {v : Int32} (hpq : q ≠ p) (hv : ¬ v = 0) : sm_uI (sm_uI (tpG I p q c s) p s.2 v) q c (nI (s.2 + 1)) = tpG I p q c (stp s v) := by
  have e : stp s v = (upd s.1 s.2 v, s.2 + 1) := by unfold stp; rw [if_neg hv]
  rw [e]
  funext k j
  unfold sm_uI tpG
  by_cases hk : k = p
  · subst hk
    have h1 : ¬ k = q := fun e => hpq e.symm
    by_cases hj : j = s.2
    · simp [h1, hj, upd]
    · simp [h1, hj, upd]
  · by_cases h1 : k = q
    · subst h1
      by_cases h2 : j = c
      · simp [hk, h2]
      · simp [hk, h2]
    · simp [hk, h1]
theorem tpG_fr {P : Nat → Nat → Bool} {I I' : sm_MI} {p q c : Nat} {s : (Nat → Int32) × Nat} (h : Fr P I I') (hp : ∀ j, P p j = true) (hq : P q c = true) : Fr P I (tpG I' p q c s) := by
  intro k j e
  unfold tpG
  have h1 : k ≠ p := fun g => by subst g; rw [hp j] at e; exact absurd e (by decide)
  have h2 : ¬ (k = q ∧ j = c) := fun g => by rw [g.1, g.2, hq] at e; exact absurd e (by decide)
  rw [if_neg h1, if_neg h2]
  exact h k j e
section
variable {n : Nat} {T : List sm_Sh} {I I' : sm_MI} {L L' : sm_ML} {A : Nat → Nat → Int32} {H S N R ν lb b : Nat} {W : Nat → (Nat → Int32) → Int32}
theorem s_bytesIn {F : Int32 → sm_MI → sm_ML → Prop} {a : Int32} {v : Nat → Int32} (hB : sm_Bs T) (hv : ∀ j, j < 4 → v j = qb a (24 - 8 * j)) (h : F (nI (cnB v 4)) I L) : sm_CI n mX10_bytesIn T I L [.int a] F := by
  refine c_X10_bytesIn hB (fun x hx => ?_)
  have one : ∀ (j : Nat) (s : Int32), j < 4 → sm_V x 0 0 T I L 5 [some (.int a), some (.int (nI (cnB v (j + 1)))), some (.int (nI (24 - 8 * j) + (-8)))] [] → sm_V x 0 0 T I L 5 [some (.int a), some (.int (nI (cnB v j))), some (.int (nI (24 - 8 * j)))] [] := by
    intro j s hj hk
    rw [cnB, hv j hj] at hk
    refine u_X10_bytesIn_5 hB hx ⟨fun q => absurd q (nI_pos (by omega)), fun _ => ⟨fun q => ?_, fun q => ?_⟩⟩
    · rw [if_pos (show qb a (24 - 8 * j) = 0 from q), Nat.add_zero] at hk; exact hk
    · rw [if_neg (show ¬ qb a (24 - 8 * j) = 0 from q)] at hk; rw [nI_1]; exact hk
  exact one 0 0 (by decide) (one 1 0 (by decide) (one 2 0 (by decide) (one 3 0 (by decide) (u_X10_bytesIn_5 hB hx ⟨fun _ => h, fun q => absurd (by decide) q⟩))))
theorem s_addB {F : sm_MI → sm_ML → Prop} {a : Int32} {v : Nat → Int32} {s : (Nat → Int32) × Nat} {k : Nat} (hB : sm_Bs T) (hv : ∀ j, j < 4 → v (k + j) = qb a (24 - 8 * j)) (hb : (tpF v s (k + 4)).2 ≤ 160) (h : F (tpG I 3 1 1 (tpF v s (k + 4))) L) : sm_CV (n + 1) mX10_add T (tpG I 3 1 1 (tpF v s k)) L [.ref 1, .int a] F := by
  refine c_X10_add hB (fun x hx => ?_)
  have one : ∀ (j : Nat) (u : Option Value), j < 4 → (∀ u, sm_V x 0 0 T (tpG I 3 1 1 (tpF v s (k + (j + 1)))) L 3 [some (.ref 1), some (.int a), some (.int (nI (24 - 8 * j) + (-8))), u] []) → sm_V x 0 0 T (tpG I 3 1 1 (tpF v s (k + j))) L 3 [some (.ref 1), some (.int a), some (.int (nI (24 - 8 * j))), u] [] := by
    intro j u hj hk
    have e : tpF v s (k + (j + 1)) = stp (tpF v s (k + j)) (v (k + j)) := rfl
    rw [e, hv j hj] at hk
    have l1 := tpF_len (v := v) (q := s) (k + (j + 1))
    have l2 := tpF_len (v := v) (q := s) (k + 4)
    have l3 := tpF_len (v := v) (q := s) (k + j)
    have l4 := cnB_mono (v := v) (show k + (j + 1) ≤ k + 4 by omega)
    refine u_X10_add_3 hB hx ⟨fun q => absurd q (nI_pos (by omega)), fun _ w hw => ⟨fun q => ?_, fun q => ?_⟩⟩
    · have hw' : qb a (24 - 8 * j) = 0 := by rw [← q, hw]; rfl
      have g := hk (some (.int w))
      rw [stp, if_pos hw'] at g
      exact g
    · have hw' : w = qb a (24 - 8 * j) := hw
      have hne : ¬ qb a (24 - 8 * j) = 0 := by rw [← hw']; exact q
      have hlt : (tpF v s (k + j)).2 < 160 := by
        have : cnB v (k + (j + 1)) = cnB v (k + j) + 1 := by
          show cnB v (k + j) + (if v (k + j) = 0 then 0 else 1) = _
          rw [hv j hj, if_neg hne]
        omega
      have e11 : (tpG I 3 1 1 (tpF v s (k + j))) 1 1 = nI (tpF v s (k + j)).2 := rfl
      rw [e11]
      refine s_set (t_2 hB) (t_3 hB) hlt (by decide) ?_
      have e12 : (sm_uI (tpG I 3 1 1 (tpF v s (k + j))) 3 (tpF v s (k + j)).2 w) 1 1 = nI (tpF v s (k + j)).2 := rfl
      rw [e12, nI_1, hw', tpG_s (by decide) hne]
      exact hk _
  exact one 0 none (by decide) (fun u => one 1 u (by decide) (fun u => one 2 u (by decide) (fun u => one 3 u (by decide) (fun u => u_X10_add_3 hB hx ⟨fun _ => h, fun q => absurd (by decide) q⟩))))
theorem s_m_byteOf {F : Int32 → sm_MI → sm_ML → Prop} {a b c d e : Int32} {k : Nat} (hB : sm_Bs T) (hk : k < 20) (h : F (vb a b c d e k) I L) : sm_CI n mX12_byteOf T I L [.int a, .int b, .int c, .int d, .int e, .int (nI k)] F := by
  have hrem : nI k - nI k / 4 * 4 = nI (k % 4) := pk_rem (d := 4) (by omega) (by decide) (by decide)
  have hsh : (24 : Int32) - 8 * nI (k % 4) = nI (24 - 8 * (k % 4)) := by
    have e1 : (8 : Int32) * nI (k % 4) = nI (8 * (k % 4)) := pk_mul 8 _
    rw [e1]
    exact pk_sub (a := 24) (b := 8 * (k % 4)) (by omega)
  have fin : ∀ y : Int32, vb a b c d e k = qb y (24 - 8 * (k % 4)) → F ((y >>> ((24 - (8 * (nI k - nI k / 4 * 4))) &&& 31)) &&& 255) I L := by
    intro y hy
    rw [hrem, hsh, qb_s _ (by omega), ← hy]
    exact h
  refine c_X12_byteOf hB ⟨fun q1 => ⟨fun q2 => ⟨fun q3 => ⟨fun q4 => fin e ?_, fun q4 => fin d ?_⟩, fun q3 => fin c ?_⟩, fun q2 => fin b ?_⟩, fun q1 => fin a ?_⟩
  all_goals unfold vb
  · have := (nI_leI (a := 16) (by decide) (by omega)).mp q4
    rw [if_neg (by omega), if_neg (by omega), if_neg (by omega), if_neg (by omega)]
  · have := (nI_leI (a := 12) (by decide) (by omega)).mp q3
    have : ¬ 16 ≤ k := fun z => q4 (nI_le (a := 16) z (by omega))
    rw [if_neg (by omega), if_neg (by omega), if_neg (by omega), if_pos (by omega)]
  · have := (nI_leI (a := 8) (by decide) (by omega)).mp q2
    have : ¬ 12 ≤ k := fun z => q3 (nI_le (a := 12) z (by omega))
    rw [if_neg (by omega), if_neg (by omega), if_pos (by omega)]
  · have := (nI_leI (a := 4) (by decide) (by omega)).mp q1
    have : ¬ 8 ≤ k := fun z => q2 (nI_le (a := 8) z (by omega))
    rw [if_neg (by omega), if_pos (by omega)]
  · have : ¬ 4 ≤ k := fun z => q1 (nI_le (a := 4) z (by omega))
    rw [if_pos (by omega)]
/-- both tapes, byte by byte -/
theorem tpF_two {v : Nat → Int32} {q q' : (Nat → Int32) × Nat} (hv : ∀ k, ∃ c, c < 256 ∧ v k = nI c) (hl : q.2 = q'.2) (hq : ∀ j, j < q.2 → q.1 j = q'.1 j ∧ ∃ c, 0 < c ∧ c < 256 ∧ q.1 j = nI c) :
    ∀ k, (tpF v q k).2 = (tpF v q' k).2 ∧ ∀ j, j < (tpF v q k).2 → (tpF v q k).1 j = (tpF v q' k).1 j ∧ ∃ c, 0 < c ∧ c < 256 ∧ (tpF v q k).1 j = nI c
  | 0 => ⟨hl, hq⟩
  | k + 1 => by
    obtain ⟨h1, h2⟩ := tpF_two hv hl hq k
    rw [tpF, tpF, stp, stp]
    by_cases h : v k = 0
    · rw [if_pos h, if_pos h]; exact ⟨h1, h2⟩
    · rw [if_neg h, if_neg h]
      refine ⟨by show (tpF v q k).2 + 1 = (tpF v q' k).2 + 1; rw [h1], fun j hj => ?_⟩
      show upd (tpF v q k).1 (tpF v q k).2 (v k) j = upd (tpF v q' k).1 (tpF v q' k).2 (v k) j ∧ ∃ c, 0 < c ∧ c < 256 ∧ upd (tpF v q k).1 (tpF v q k).2 (v k) j = nI c
      rw [← h1]
      by_cases e : j = (tpF v q k).2
      · rw [e, pk_us, pk_us]
        obtain ⟨c, hc, ec⟩ := hv k
        refine ⟨rfl, c, ?_, hc, ec⟩
        rcases Nat.eq_zero_or_pos c with z | z
        · subst z; exact absurd ec h
        · exact z
      · rw [pk_un e, pk_un e]
        have hj' : j < (tpF v q k).2 + 1 := hj
        exact h2 j (by omega)
theorem p_feed {G : Int32 → Int32 → sm_MI → sm_ML → Prop} {a1 a2 a3 a4 a5 : Int32} (hR : RR A W H S N R ν lb b T I L) (h : ∀ v I' L', RR A W H S N R ν lb b T I' L' → G v v I' L') :
    sm_CI (n + 20) mX11_feed T I L [.ref 0, .int a1, .int a2, .int a3, .int a4, .int a5] (fun r1 I1 L1 => sm_CI (n + 20) mX12_feed T I1 L1 [.ref 76, .int a1, .int a2, .int a3, .int a4, .int a5] (fun r2 I2 L2 => G r1 r2 I2 L2)) := by
  have hB := hR.hB
  obtain ⟨len, t0, t1, t2, t3⟩ := hR.gt
  generalize hv : vb a1 a2 a3 a4 a5 = v
  have vn : ∀ k, ∃ c, c < 256 ∧ v k = nI c := fun k => by rw [← hv]; exact qb_nat _ _
  have b1 : ∀ j, j < 4 → v j = qb a1 (24 - 8 * j) := fun j hj => by rw [← hv]; unfold vb; rw [if_pos hj, Nat.mod_eq_of_lt hj]
  have b2 : ∀ j, j < 4 → v (4 + j) = qb a2 (24 - 8 * j) := fun j hj => by rw [← hv]; unfold vb; rw [if_neg (by omega), if_pos (by omega), show (4 + j) % 4 = j by omega]
  have b3 : ∀ j, j < 4 → v (8 + j) = qb a3 (24 - 8 * j) := fun j hj => by rw [← hv]; unfold vb; rw [if_neg (by omega), if_neg (by omega), if_pos (by omega), show (8 + j) % 4 = j by omega]
  have b4 : ∀ j, j < 4 → v (12 + j) = qb a4 (24 - 8 * j) := fun j hj => by rw [← hv]; unfold vb; rw [if_neg (by omega), if_neg (by omega), if_neg (by omega), if_pos (by omega), show (12 + j) % 4 = j by omega]
  have b5 : ∀ j, j < 4 → v (16 + j) = qb a5 (24 - 8 * j) := fun j hj => by rw [← hv]; unfold vb; rw [if_neg (by omega), if_neg (by omega), if_neg (by omega), if_neg (by omega), show (16 + j) % 4 = j by omega]
  have c20 : cnB v 20 ≤ 20 := by
    have : ∀ k, cnB v k ≤ k := by
      intro k
      induction k with
      | zero => exact Nat.le_refl _
      | succ k ih => rw [cnB]; split <;> omega
    exact this 20
  have csum : ∀ i, cnB (fun j => v (i + j)) 4 + cnB v i = cnB v (i + 4) := by
    intro i
    show (((0 + (if v (i + 0) = 0 then 0 else 1)) + (if v (i + 1) = 0 then 0 else 1)) + (if v (i + 2) = 0 then 0 else 1)) + (if v (i + 3) = 0 then 0 else 1) + cnB v i = (((cnB v i + (if v (i + 0) = 0 then 0 else 1)) + (if v (i + 1) = 0 then 0 else 1)) + (if v (i + 2) = 0 then 0 else 1)) + (if v (i + 3) = 0 then 0 else 1)
    omega
  -- the model's
  have mod : ∀ (J : sm_MI) (r1 : Int32), J 76 2 = nI len → J 77 = I 77 → (¬ nI (len + cnB v 20) ≤ 160 → G r1 (-1) J L) → (len + cnB v 20 ≤ 160 → G r1 (nI (len + cnB v 20)) (tpG J 77 76 2 (tpF v (I 77, len) 20)) L) → sm_CI (n + 20) mX12_feed T J L [.ref 76, .int a1, .int a2, .int a3, .int a4, .int a5] (fun r2 I2 L2 => G r1 r2 I2 L2) := by
    intro J r1 j2 j77 hno hyes
    refine c_X12_feed hB (fun x hx => ?_)
    have l62 : len + cnB v 20 ≤ 160 → ∀ d k (u : Option Value), k + d = 20 → sm_V x 0 0 T (tpG J 77 76 2 (tpF v (I 77, len) k)) L 62 [some (.ref 76), some (.int a1), some (.int a2), some (.int a3), some (.int a4), some (.int a5), some (.int (nI (cnB v 20))), some (.int (nI k)), u] [] := by
      intro hle d
      induction d with
      | zero =>
        intro k u e
        have : k = 20 := by omega
        subst this
        have e2 : (tpG J 77 76 2 (tpF v (I 77, len) 20)) 76 2 = nI (len + cnB v 20) := by
          show nI (tpF v (I 77, len) 20).2 = _
          rw [tpF_len]
        refine u_X12_feed_62 hB hx ⟨fun _ => ?_, fun q => absurd (nI_le (a := 20) (b := 20) (by omega) (by omega)) q⟩
        rw [e2]; exact hyes hle
      | succ d ih =>
        intro k u e
        have hm := cnB_mono (v := v) (show k + 1 ≤ 20 by omega)
        have l3 := tpF_len (v := v) (q := (I 77, len)) k
        refine u_X12_feed_62 hB hx ⟨fun q => absurd q (nI_ge (b := 20) (by omega) (by omega)), fun _ => s_m_byteOf hB (by omega) ?_⟩
        rw [hv, nI_1]
        have es : tpF v (I 77, len) (k + 1) = stp (tpF v (I 77, len) k) (v k) := rfl
        refine ⟨fun q => ?_, fun q => ?_⟩
        · have g := ih (k + 1) (some (.int (v k))) (by omega)
          rw [es, stp, if_pos q] at g
          exact g
        · have e1 : (tpG J 77 76 2 (tpF v (I 77, len) k)) 76 2 = nI (tpF v (I 77, len) k).2 := rfl
          have hlt : (tpF v (I 77, len) k).2 < 160 := by
            have : cnB v (k + 1) = cnB v k + 1 := by rw [cnB, if_neg q]
            have h2 : (I 77, len).2 = len := rfl
            omega
          rw [e1, nI_clamp (by omega)]
          refine ⟨vp_in_nI hlt (by decide), fun I3 h3 => ?_⟩
          have e2 : I3 76 2 = nI (tpF v (I 77, len) k).2 := by rw [h3]; rfl
          rw [e2, nI_1, h3, tpG_s (by decide) q]
          have g := ih (k + 1) (some (.int (v k))) (by omega)
          rw [es] at g
          exact g
    have l6 : ∀ d k, k + d = 20 → sm_V x 0 0 T J L 6 [some (.ref 76), some (.int a1), some (.int a2), some (.int a3), some (.int a4), some (.int a5), some (.int (nI (cnB v k))), some (.int (nI k)), none] [] := by
      intro d
      induction d with
      | zero =>
        intro k e
        have : k = 20 := by omega
        subst this
        refine u_X12_feed_6 hB hx ⟨fun _ => ?_, fun q => absurd (nI_le (a := 20) (b := 20) (by omega) (by omega)) q⟩
        rw [j2, nI_add]
        refine ⟨fun q => ?_, hno⟩
        have hle : len + cnB v 20 ≤ 160 := (nI_leI (b := 160) (by omega) (by decide)).mp q
        have g := l62 hle 20 0 none (by omega)
        have e0 : tpG J 77 76 2 (tpF v (I 77, len) 0) = J := by
          show tpG J 77 76 2 (I 77, len) = J
          rw [← j77]
          exact tpG_id j2
        rw [e0] at g
        exact g
      | succ d ih =>
        intro k e
        refine u_X12_feed_6 hB hx ⟨fun q => absurd q (nI_ge (b := 20) (by omega) (by omega)), fun _ => s_m_byteOf hB (by omega) ?_⟩
        rw [hv, nI_1]
        have g := ih (k + 1) (by omega)
        rw [cnB] at g
        refine ⟨fun q => ?_, fun q => ?_⟩
        · rw [if_pos q, Nat.add_zero] at g; rw [Int32.add_zero]; exact g
        · rw [if_neg q] at g; rw [nI_1]; exact g
    exact l6 20 0 (by omega)
  refine c_X11_feed hB (s_bytesIn (v := v) hB b1 (s_bytesIn (v := fun j => v (4 + j)) hB b2 (s_bytesIn (v := fun j => v (8 + j)) hB b3 (s_bytesIn (v := fun j => v (12 + j)) hB b4 (s_bytesIn (v := fun j => v (16 + j)) hB b5 ?_)))))
  have s4 : cnB (fun j => v (4 + j)) 4 + cnB v 4 = cnB v 8 := csum 4
  have s8 : cnB (fun j => v (8 + j)) 4 + cnB v 8 = cnB v 12 := csum 8
  have s12 : cnB (fun j => v (12 + j)) 4 + cnB v 12 = cnB v 16 := csum 12
  have s16 : cnB (fun j => v (16 + j)) 4 + cnB v 16 = cnB v 20 := csum 16
  have etot : I 1 1 + ((((nI (cnB v 4) + nI (cnB (fun j => v (4 + j)) 4)) + nI (cnB (fun j => v (8 + j)) 4)) + nI (cnB (fun j => v (12 + j)) 4)) + nI (cnB (fun j => v (16 + j)) 4)) = nI (len + cnB v 20) := by
    rw [t1, nI_add, nI_add, nI_add, nI_add, nI_add]
    congr 1
    omega
  rw [etot]
  refine ⟨fun q => ?_, fun q => mod I (-1) t2 rfl (fun _ => h _ _ _ hR) (fun z => absurd (nI_le (b := 160) z (by decide)) q)⟩
  have hle : len + cnB v 20 ≤ 160 := (nI_leI (b := 160) (by omega) (by decide)).mp q
  have lenk : ∀ k, k ≤ 20 → (tpF v (I 3, len) k).2 ≤ 160 := fun k hk => by
    rw [tpF_len]
    have := cnB_mono (v := v) hk
    show len + _ ≤ 160
    omega
  have go := s_addB (n := n + 18) (I := I) (L := L) (v := v) (s := (I 3, len)) (k := 0) (a := a1) (F := fun I11 L11 => sm_CV (n + 19) mX10_add T I11 L11 [.ref 1, .int a2] (fun I12 L12 => sm_CV (n + 19) mX10_add T I12 L12 [.ref 1, .int a3] (fun I13 L13 => sm_CV (n + 19) mX10_add T I13 L13 [.ref 1, .int a4] (fun I14 L14 => sm_CV (n + 19) mX10_add T I14 L14 [.ref 1, .int a5] (fun I15 L15 => sm_CI (n + 20) mX12_feed T I15 L15 [.ref 76, .int a1, .int a2, .int a3, .int a4, .int a5] (fun r2 I2 L2 => G (I15 1 1) r2 I2 L2)))))) hB (fun j hj => by rw [Nat.zero_add]; exact b1 j hj) (lenk 4 (by decide)) (s_addB (n := n + 18) (v := v) (k := 4) hB b2 (lenk 8 (by decide)) (s_addB (n := n + 18) (v := v) (k := 8) hB b3 (lenk 12 (by decide)) (s_addB (n := n + 18) (v := v) (k := 12) hB b4 (lenk 16 (by decide)) (s_addB (n := n + 18) (v := v) (k := 16) hB b5 (lenk 20 (by decide)) ?_))))
  · have e0 : tpG I 3 1 1 (tpF v (I 3, len) 0) = I := tpG_id t1
    rw [e0] at go
    exact go
  · have e1 : (tpG I 3 1 1 (tpF v (I 3, len) (16 + 4))) 1 1 = nI (len + cnB v 20) := by
      show nI (tpF v (I 3, len) 20).2 = _
      rw [tpF_len]
    rw [e1]
    refine mod _ _ t2 rfl (fun z => absurd q z) (fun _ => h _ _ _ ?_)
    have f : ∀ P : Nat → Nat → Bool, (∀ j, P 3 j = true) → P 1 1 = true → (∀ j, P 77 j = true) → P 76 2 = true → Fr P I (tpG (tpG I 3 1 1 (tpF v (I 3, len) 20)) 77 76 2 (tpF v (I 77, len) 20)) := fun P p1 p2 p3 p4 => tpG_fr (tpG_fr Fr.rf p1 p2) p3 p4
    obtain ⟨m1, m2, m3⟩ := gN_t (L' := L) hR (f kN (fun _ => rfl) rfl (fun _ => rfl) rfl) rfl rfl
    obtain ⟨w1, w2, w3⟩ := RR_n hR (f kC (fun _ => rfl) rfl (fun _ => rfl) rfl)
    obtain ⟨x1, x2⟩ := tpF_two (q := (I 3, len)) (q' := (I 77, len)) vn rfl t3 20
    refine RR_mk hB hR.bb (gS_t hR.st (f kS (fun _ => rfl) rfl (fun _ => rfl) rfl)) hR.va m1 ⟨(tpF v (I 3, len) 20).2, lenk 20 (by decide), rfl, ?_, fun j hj => ?_⟩ (gI_t hR.gi (Nat.le_refl _) (f kI (fun _ => rfl) rfl (fun _ => rfl) rfl) rfl rfl) (gP_t hR.gp (Nat.le_refl _) (f kP (fun _ => rfl) rfl (fun _ => rfl) rfl) (fun _ => rfl)) (gE_t hR.ge (f kE (fun _ => rfl) rfl (fun _ => rfl) rfl)) (gK_t hR.gk (f kR (fun _ => rfl) rfl (fun _ => rfl) rfl)) (gM_t hR.gm (f kM (fun _ => rfl) rfl (fun _ => rfl) rfl)) m2 m3 w1 w2 w3
    · show nI (tpF v (I 77, len) 20).2 = _
      rw [x1]
    · exact x2 j hj
end
