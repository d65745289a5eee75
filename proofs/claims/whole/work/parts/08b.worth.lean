/-! ===== worths: the class's rules as lists ===== -/
theorem atP_l {l r : List (Int32 × Int32)} {j : Nat} (h : j < l.length) : atP (l ++ r) j = atP l j := by
  unfold atP
  rw [List.getD_eq_getElem?_getD, List.getD_eq_getElem?_getD, List.getElem?_append_left h]
theorem atP_r {l r : List (Int32 × Int32)} {j : Nat} : atP (l ++ r) (l.length + j) = atP r j := by
  unfold atP
  rw [List.getD_eq_getElem?_getD, List.getD_eq_getElem?_getD, List.getElem?_append_right (by omega), Nat.add_sub_cancel_left]
theorem sgL_len (cs : cdL) : (sgL cs).length = cs.length := List.length_map _
theorem atP_sgL {cs : cdL} {j : Nat} (h : j < cs.length) : atP (sgL cs) j = (sgC (cs.getD j (0, 0)).1, nI (cs.getD j (0, 0)).2) := by
  unfold atP sgL
  rw [List.getD_eq_getElem?_getD, List.getD_eq_getElem?_getD, List.getElem?_map]
  rw [List.getElem?_eq_getElem h]
  rfl
section
variable {n : Nat} {T : List sm_Sh} {I I' I0 : sm_MI} {L L' : sm_ML} {W : Nat → (Nat → Int32) → Int32}
theorem op_kinds {k : Nat} (hk : k ≤ 11) (h0 : ¬ k = 0) (h1 : ¬ k = 1) (h9 : ¬ k = 9) : k = 2 ∨ k = 3 ∨ k = 4 ∨ k = 5 ∨ k = 6 ∨ k = 7 ∨ k = 8 ∨ k = 10 ∨ k = 11 := by omega
theorem clmp_0 : clmp 0 = 0 := by decide +kernel
theorem clmp_1 : clmp 1 = 1 := by decide +kernel
theorem opC_2 {a b : Int32} : opC 2 a b = clmp (Int32.toInt64 a + Int32.toInt64 b) := by simp [opC, opA]
theorem opC_3 {a b : Int32} : opC 3 a b = clmp (Int32.toInt64 a - Int32.toInt64 b) := by simp [opC, opA]
theorem opC_4 {a b : Int32} : opC 4 a b = clmp (Int32.toInt64 a * Int32.toInt64 b) := by simp [opC, opA]
theorem opC_5 {a b : Int32} : opC 5 a b = if lg_cmp (Int32.toInt64 b) 0 = 0 then 0 else clmp (Int32.toInt64 a / Int32.toInt64 b) := by simp [opC, opA]
theorem opC_6 {a b : Int32} : opC 6 a b = if lg_cmp (Int32.toInt64 a) (Int32.toInt64 b) = 0 then 1 else 0 := by simp [opC, opA]
theorem opC_7 {a b : Int32} : opC 7 a b = if 0 ≤ lg_cmp (Int32.toInt64 a) (Int32.toInt64 b) then 0 else 1 := by simp [opC, opA]
theorem opC_8 {a b : Int32} : opC 8 a b = if lg_cmp (Int32.toInt64 a) (Int32.toInt64 b) ≤ 0 then 0 else 1 := by simp [opC, opA]
theorem opC_10 {a b : Int32} : opC 10 a b = clmp (Int32.toInt64 a &&& Int32.toInt64 b) := by simp [opC]
theorem opC_11 {a b : Int32} : opC 11 a b = clmp (Int32.toInt64 a ||| Int32.toInt64 b) := by simp [opC]
/-- bounds by comparisons are the bounds -/
theorem clmp_F {P : Int32 → Prop} {x : Int64} (h : P (clmp x)) : ((lg_cmp x 1000000) ≤ 0 → (0 ≤ (lg_cmp x (-1000000)) → P (Int64.toInt32 x)) ∧ (¬ 0 ≤ (lg_cmp x (-1000000)) → P (-1000000))) ∧ (¬ (lg_cmp x 1000000) ≤ 0 → P 1000000) := by
  have e1 : (1000000 : Int64).toInt = 1000000 := by decide +kernel
  have e2 : (-1000000 : Int64).toInt = -1000000 := by decide +kernel
  have e3 : Int64.toInt32 (-1000000) = -1000000 := by decide +kernel
  have e4 : Int64.toInt32 1000000 = 1000000 := by decide +kernel
  have e5 : ¬ (1000000 : Int64) < -1000000 := by decide +kernel
  unfold clmp at h
  rw [lg_le, lg_ge, e1, e2]
  by_cases a : x < 1000000
  · have a' := (fa_lt64 _ _).mp a
    rw [e1] at a'
    rw [if_pos a] at h
    refine ⟨fun _ => ⟨fun q => ?_, fun q => ?_⟩, fun q => absurd (Int.le_of_lt a') q⟩
    · have g : ¬ x < -1000000 := fun g => by
        have g' := (fa_lt64 _ _).mp g
        rw [e2] at g'
        omega
      rw [if_neg g] at h
      exact h
    · have g : x < -1000000 := (fa_lt64 _ _).mpr (by rw [e2]; omega)
      rw [if_pos g, e3] at h
      exact h
  · have a' : ¬ x.toInt < 1000000 := fun g => a ((fa_lt64 _ _).mpr (by rw [e1]; exact g))
    rw [if_neg a, if_neg e5, e4] at h
    refine ⟨fun q => ?_, fun _ => h⟩
    have e : x = 1000000 := Int64.toInt_inj.mp (by rw [e1]; omega)
    rw [e, e1, e4]
    exact ⟨fun _ => h, fun g => absurd (by decide) g⟩
theorem s_joined {F : Int32 → sm_MI → sm_ML → Prop} {k : Nat} {a b : Int32} (hB : sm_Bs T) (hk : k ≤ 11) (h0 : ¬ k = 0) (h1 : ¬ k = 1) (h9 : ¬ k = 9) (h : F (opC k a b) I L) : sm_CI (n + 2) mX4_joined T I L [.int (sgC k), .long (Int32.toInt64 a), .long (Int32.toInt64 b)] F := by
  refine c_X4_joined hB (fun x hx => ?_)
  have fin : ∀ l5 : Int64, clmp l5 = opC k a b → sm_V x 0 0 T I L 219 [some (.int (sgC k)), some (.long (Int32.toInt64 a)), none, some (.long (Int32.toInt64 b)), none, some (.long l5), none] [] := by
    intro l5 e
    refine u_X4_joined_219 hB hx ?_
    rw [← e] at h
    exact clmp_F (P := fun v => F v I L) h
  rcases op_kinds hk h0 h1 h9 with rfl | rfl | rfl | rfl | rfl | rfl | rfl | rfl | rfl
  · exact ⟨fun q => absurd q (by decide), fun q => absurd q (by decide), fun _ => fin _ opC_2.symm, fun q => absurd q (by decide), fun q => absurd q (by decide), fun q => absurd q (by decide), fun q => absurd q (by decide), fun q => absurd q (by decide), fun q => absurd rfl q.2.2.1⟩
  · exact ⟨fun q => absurd q (by decide), fun q => absurd q (by decide), fun q => absurd q (by decide), fun _ => fin _ opC_3.symm, fun q => absurd q (by decide), fun q => absurd q (by decide), fun q => absurd q (by decide), fun q => absurd q (by decide), fun q => absurd rfl q.2.2.2.1⟩
  · exact ⟨fun q => absurd q (by decide), fun _ => fin _ opC_4.symm, fun q => absurd q (by decide), fun q => absurd q (by decide), fun q => absurd q (by decide), fun q => absurd q (by decide), fun q => absurd q (by decide), fun q => absurd q (by decide), fun q => absurd rfl q.2.1⟩
  · refine ⟨fun q => absurd q (by decide), fun q => absurd q (by decide), fun q => absurd q (by decide), fun q => absurd q (by decide), fun _ => ⟨fun z => ⟨fun e => z ((lg_eq _ _).mpr e), fin _ ?_⟩, fun z => fin _ ?_⟩, fun q => absurd q (by decide), fun q => absurd q (by decide), fun q => absurd q (by decide), fun q => absurd rfl q.2.2.2.2.1⟩
    · rw [opC_5, if_neg z]
    · rw [opC_5, if_pos z]; exact clmp_0
  · refine ⟨fun q => absurd q (by decide), fun q => absurd q (by decide), fun q => absurd q (by decide), fun q => absurd q (by decide), fun q => absurd q (by decide), fun q => absurd q (by decide), fun _ => ⟨fun z => fin _ ?_, fun z => fin _ ?_⟩, fun q => absurd q (by decide), fun q => absurd rfl q.2.2.2.2.2.2.1⟩
    · rw [opC_6, if_neg z]; exact clmp_0
    · rw [opC_6, if_pos z]; exact clmp_1
  · refine ⟨fun q => absurd q (by decide), fun q => absurd q (by decide), fun q => absurd q (by decide), fun q => absurd q (by decide), fun q => absurd q (by decide), fun _ => ⟨fun z => fin _ ?_, fun z => fin _ ?_⟩, fun q => absurd q (by decide), fun q => absurd q (by decide), fun q => absurd rfl q.2.2.2.2.2.1⟩
    · rw [opC_7, if_pos z]; exact clmp_0
    · rw [opC_7, if_neg z]; exact clmp_1
  · refine ⟨fun q => absurd q (by decide), fun q => absurd q (by decide), fun q => absurd q (by decide), fun q => absurd q (by decide), fun q => absurd q (by decide), fun q => absurd q (by decide), fun q => absurd q (by decide), fun _ => ⟨fun z => fin _ ?_, fun z => fin _ ?_⟩, fun q => absurd rfl q.2.2.2.2.2.2.2⟩
    · rw [opC_8, if_pos z]; exact clmp_0
    · rw [opC_8, if_neg z]; exact clmp_1
  · exact ⟨fun _ => fin _ opC_10.symm, fun q => absurd q (by decide), fun q => absurd q (by decide), fun q => absurd q (by decide), fun q => absurd q (by decide), fun q => absurd q (by decide), fun q => absurd q (by decide), fun q => absurd q (by decide), fun q => absurd rfl q.1⟩
  · exact ⟨fun q => absurd q (by decide), fun q => absurd q (by decide), fun q => absurd q (by decide), fun q => absurd q (by decide), fun q => absurd q (by decide), fun q => absurd q (by decide), fun q => absurd q (by decide), fun q => absurd q (by decide), fun _ => fin _ opC_11.symm⟩
theorem i_m1 {t : Nat} (h : 1 ≤ t) : nI t + (-1) = nI (t - 1) := by
  have e1 : nI t - 1 = nI (t - 1) := pk_sub (a := t) (b := 1) h
  rw [← e1, Int32.sub_eq_add_neg]
theorem i_s1 {t : Nat} (h : 1 ≤ t) : nI t - 1 = nI (t - 1) := pk_sub (a := t) (b := 1) h
/-- a stretch of code run by the class -/
theorem s_seg {F : Int32 → sm_MI → sm_ML → Prop} {x : sm_Cx} {k0 k1 p1 m k2 p2 : Nat} {r1 r2 : List (Option Nat)} (hB : sm_Bs T) (hk0 : T[k0]? = some (.inr (4, [.ref k1, .ref k2]))) (hk1 : T[k1]? = some (.inr (3, [.ref p1]))) (hp1 : T[p1]? = some (.inl (.int, m, r1))) (hk2 : T[k2]? = some (.inr (3, [.ref p2]))) (hp2 : T[p2]? = some (.inl (.int, m, r2))) (hm : m ≤ 160) (hx : sm_Ok x mX4_worth (n + 3) (sm_KI T F)) (h1 : 110 ≤ p1) (h2 : 110 ≤ p2) :
    ∀ (cs : cdL) (o t : Nat) (I : sm_MI) (S' : Nat → Int32) (t' : Nat) (u5 u6 : Option Value), o + cs.length ≤ m → (∀ k, 110 ≤ k → I k = I0 k) → (∀ j, j < cs.length → I0 p1 (o + j) = sgC (cs.getD j (0, 0)).1 ∧ I0 p2 (o + j) = nI (cs.getD j (0, 0)).2) → runX opC (I 61) cs (I 63) t = some (S', t') →
      (∀ (I' : sm_MI) (u5 u6 : Option Value), Fr P63 I I' → I' 63 = S' → sm_V x 0 0 T I' L 5 [some (.ref k0), some (.ref 60), some (.ref 62), some (.int (nI t')), some (.int (nI (o + cs.length))), u5, u6] []) →
      sm_V x 0 0 T I L 5 [some (.ref k0), some (.ref 60), some (.ref 62), some (.int (nI t)), some (.int (nI o)), u5, u6] [] := by
  intro cs
  induction cs with
  | nil =>
    intro o t I S' t' u5 u6 ho hI hc hr hk
    rw [runX] at hr
    obtain ⟨e1, e2⟩ := Prod.mk.inj (Option.some.inj hr)
    have go := hk I u5 u6 Fr.rf e1
    rw [← e2] at go
    exact go
  | cons q cs ih =>
    intro o t I S' t' u5 u6 ho hI hc hr hk
    obtain ⟨k, v⟩ := q
    rw [List.length_cons] at ho
    obtain ⟨c1, c2⟩ := hc 0 (by rw [List.length_cons]; omega)
    rw [Nat.add_zero] at c1 c2
    have c1' : I p1 o = sgC k := by rw [hI p1 h1]; exact c1
    have c2' : I p2 o = nI v := by rw [hI p2 h2]; exact c2
    have next : ∀ (t2 : Nat) (S2 : Nat → Int32) (w : Int32) (i2 : Nat), runX opC (I 61) cs (upd (I 63) i2 w) t2 = some (S', t') → ∀ u5 u6, sm_V x 0 0 T (sm_uI I 63 i2 w) L 5 [some (.ref k0), some (.ref 60), some (.ref 62), some (.int (nI t2)), some (.int (nI (o + 1))), u5, u6] [] := by
      intro t2 S2 w i2 hr2 u5 u6
      refine ih (o + 1) t2 (sm_uI I 63 i2 w) S' t' u5 u6 (by omega) (fun k hk => by rw [sm_uI_ne (by omega)]; exact hI k hk) (fun j hj => ?_) ?_ (fun I' u5 u6 f' e' => ?_)
      · have g := hc (j + 1) (by rw [List.length_cons]; omega)
        rw [show o + (j + 1) = o + 1 + j by omega] at g
        exact g
      · rw [sm_uI_ne (by decide), sm_uI_at]; exact hr2
      · have go := hk I' u5 u6 ((Fr.u (P := P63) Fr.rf rfl).tr f') e'
        rw [List.length_cons, show o + (cs.length + 1) = o + 1 + cs.length by omega] at go
        exact go
    refine u_X4_worth_5 hB hk0 hk1 hp1 hk2 hp2 hx (s_len hk1 hp1 ⟨fun q => absurd q (nI_ge (by omega) (by omega)), fun _ => s_at hk1 hp1 (by omega) (by omega) (s_at hk2 hp2 (by omega) (by omega) ?_)⟩)
    rw [c1', c2']
    rw [runX] at hr
    by_cases h0 : k = 0
    · subst h0
      rw [if_pos rfl] at hr
      by_cases ht : t < 80
      · rw [if_pos ht] at hr
        refine ⟨fun q => absurd q (by decide), fun _ => s_set (t_62 hB) (t_63 hB) (by omega) (by decide) ?_, fun q => absurd q (by decide), fun q => absurd q (by decide), fun q => absurd q (by decide), fun q => absurd rfl q.2.1⟩
        rw [nI_1, nI_1]
        exact next (t + 1) S' (nI v) t hr _ _
      · rw [if_neg ht] at hr; cases hr
    rw [if_neg h0] at hr
    by_cases h1' : k = 1
    · subst h1'
      rw [if_pos rfl] at hr
      by_cases ht : t < 80 ∧ v < 6
      · rw [if_pos ht] at hr
        refine ⟨fun q => absurd q (by decide), fun q => absurd q (by decide), fun q => absurd q (by decide), fun q => absurd q (by decide), fun _ => s_at (t_60 hB) (t_61 hB) ht.2 (by decide) (s_set (t_62 hB) (t_63 hB) (by omega) (by decide) ?_), fun q => absurd rfl q.2.2.2.2⟩
        rw [nI_1, nI_1]
        exact next (t + 1) S' (I 61 v) t hr _ _
      · rw [if_neg ht] at hr; cases hr
    rw [if_neg h1'] at hr
    by_cases h9 : k = 9
    · subst h9
      rw [if_pos rfl] at hr
      by_cases ht : 1 ≤ t ∧ t ≤ 80
      · rw [if_pos ht] at hr
        rw [i_s1 ht.1]
        refine ⟨fun _ => s_at (t_62 hB) (t_63 hB) (by omega) (by decide) (s_set (t_62 hB) (t_63 hB) (by omega) (by decide) ?_), fun q => absurd q (by decide), fun q => absurd q (by decide), fun q => absurd q (by decide), fun q => absurd q (by decide), fun q => absurd rfl q.1⟩
        rw [nI_1]
        exact next t S' (1 - I 63 (t - 1)) (t - 1) hr _ _
      · rw [if_neg ht] at hr; cases hr
    rw [if_neg h9] at hr
    by_cases hk11 : k ≤ 11
    · rw [if_pos hk11] at hr
      by_cases ht : 2 ≤ t ∧ t ≤ 80
      · rw [if_pos ht] at hr
        have hne : ∀ y : Int32, y = 33 ∨ y = 48 ∨ y = 59 ∨ y = 63 ∨ y = 97 → ¬ sgC k = y := by
          intro y hy
          rcases op_kinds hk11 h0 h1' h9 with rfl | rfl | rfl | rfl | rfl | rfl | rfl | rfl | rfl <;> rcases hy with rfl | rfl | rfl | rfl | rfl <;> decide
        rw [i_m1 (show 1 ≤ t by omega), i_s1 (show 1 ≤ t - 1 by omega)]
        refine ⟨fun q => absurd q (hne _ (Or.inl rfl)), fun q => absurd q (hne _ (Or.inr (Or.inl rfl))), fun q => absurd q (hne _ (Or.inr (Or.inr (Or.inl rfl)))), fun q => absurd q (hne _ (Or.inr (Or.inr (Or.inr (Or.inl rfl))))), fun q => absurd q (hne _ (Or.inr (Or.inr (Or.inr (Or.inr rfl))))), fun _ => s_at (t_62 hB) (t_63 hB) (by omega) (by decide) (s_at (t_62 hB) (t_63 hB) (by omega) (by decide) (s_joined (n := n) hB hk11 h0 h1' h9 (s_set (t_62 hB) (t_63 hB) (by omega) (by decide) ?_)))⟩
        rw [nI_1, show t - 1 - 1 = t - 2 by omega]
        exact next (t - 1) S' _ (t - 2) hr _ _
      · rw [if_neg ht] at hr; cases hr
    · rw [if_neg hk11] at hr; cases hr
/-- the rule's clauses from place o -/
theorem s_wcl {F : Int32 → sm_MI → sm_ML → Prop} {x : sm_Cx} {k0 k1 p1 m k2 p2 : Nat} {r1 r2 : List (Option Nat)} (hB : sm_Bs T) (hk0 : T[k0]? = some (.inr (4, [.ref k1, .ref k2]))) (hk1 : T[k1]? = some (.inr (3, [.ref p1]))) (hp1 : T[p1]? = some (.inl (.int, m, r1))) (hk2 : T[k2]? = some (.inr (3, [.ref p2]))) (hp2 : T[p2]? = some (.inl (.int, m, r2))) (hm : m ≤ 160) (hx : sm_Ok x mX4_worth (n + 3) (sm_KI T F)) (h1 : 110 ≤ p1) (h2 : 110 ≤ p2) :
    ∀ (CL : List clT) (o : Nat) (I : sm_MI) (u5 u6 : Option Value), CLok CL → o + (layC o CL).length = m → (∀ k, 110 ≤ k → I k = I0 k) → (∀ j, j < (layC o CL).length → I0 p1 (o + j) = (atP (layC o CL) j).1 ∧ I0 p2 (o + j) = (atP (layC o CL) j).2) → (∀ I', Fr P63 I I' → F (wCL CL (I 61)) I' L) →
      sm_V x 0 0 T I L 5 [some (.ref k0), some (.ref 60), some (.ref 62), some (.int 0), some (.int (nI o)), u5, u6] [] := by
  intro CL
  induction CL with
  | nil =>
    intro o I u5 u6 hok ho hI hc hF
    have hoe : o = m := by
      have : (layC o []).length = 0 := rfl
      omega
    refine u_X4_worth_5 hB hk0 hk1 hp1 hk2 hp2 hx (s_len hk1 hp1 ⟨fun _ => hF I Fr.rf, fun q => absurd (nI_le (by omega) (by omega)) q⟩)
  | cons c r ih =>
    intro o I u5 u6 hok ho hI hc hF
    obtain ⟨hs, hd⟩ := hok c (List.mem_cons_self)
    have hokr : CLok r := fun c hc => hok c (List.mem_cons_of_mem _ hc)
    have f63 : ∀ {I I' : sm_MI}, Fr P63 I I' → (∀ k, 110 ≤ k → I k = I0 k) → ∀ k, 110 ≤ k → I' k = I0 k := fun {I I'} f hI k hk => (f.at k (fun j => by simp only [P63]; simp; omega)).trans (hI k hk)
    -- a sum, then the answer
    have sum : ∀ (I2 : sm_MI) (o2 : Nat) (u5 u6 : Option Value), Fr P63 I I2 → o2 + (c.2.1.length + 1) ≤ m → (∀ j, j < c.2.1.length → I0 p1 (o2 + j) = sgC (c.2.1.getD j (0, 0)).1 ∧ I0 p2 (o2 + j) = nI (c.2.1.getD j (0, 0)).2) → I0 p1 (o2 + c.2.1.length) = 59 → wCL (c :: r) (I 61) = c.2.2 (I 61) → sm_V x 0 0 T I2 L 5 [some (.ref k0), some (.ref 60), some (.ref 62), some (.int 0), some (.int (nI o2)), u5, u6] [] := by
      intro I2 o2 u5 u6 f2 h3 h4 h5 h6
      obtain ⟨S', g1, _, g3, _⟩ := hs.2 (I2 61) (I2 63) 0 (by omega)
      refine s_seg (I0 := I0) hB hk0 hk1 hp1 hk2 hp2 hm hx h1 h2 c.2.1 o2 0 I2 S' 1 u5 u6 (by omega) (f63 f2 hI) h4 g1 (fun I3 u5 u6 f3 e3 => ?_)
      have f4 := f2.tr f3
      have e59 : I3 p1 (o2 + c.2.1.length) = 59 := by rw [f63 f4 hI p1 h1]; exact h5
      refine u_X4_worth_5 hB hk0 hk1 hp1 hk2 hp2 hx (s_len hk1 hp1 ⟨fun q => absurd q (nI_ge (by omega) (by omega)), fun _ => s_at hk1 hp1 (by omega) (by omega) (s_at hk2 hp2 (by omega) (by omega) ?_)⟩)
      rw [e59, i_s1 (show 1 ≤ 1 by omega)]
      refine ⟨fun q => absurd q (by decide), fun q => absurd q (by decide), fun _ => s_at (t_62 hB) (t_63 hB) (by omega) (by decide) ?_, fun q => absurd q (by decide), fun q => absurd q (by decide), fun q => absurd rfl q.2.2.1⟩
      have ev : I3 63 (1 - 1) = wCL (c :: r) (I 61) := by
        rw [e3, h6, show 1 - 1 = 0 by omega, g3, f2.at 61 (fun _ => rfl)]
      rw [ev]
      exact hF I3 f4
    cases hc1 : c.1 with
    | none =>
      have el : layC o (c :: r) = sgL c.2.1 ++ (59, 0) :: layC (o + (c.2.1.length + 1)) r := by rw [layC, hc1]
      rw [el] at ho hc
      rw [List.length_append, List.length_cons, sgL_len] at ho hc
      refine sum I o u5 u6 Fr.rf (by omega) (fun j hj => ?_) ?_ (by rw [wCL, hc1])
      · have g := hc j (by omega)
        rw [atP_l (by rw [sgL_len]; exact hj), atP_sgL hj] at g
        exact g
      · have g := (hc c.2.1.length (by omega)).1
        have e : atP (sgL c.2.1 ++ (59, 0) :: layC (o + (c.2.1.length + 1)) r) c.2.1.length = (59, 0) := by
          have e2 := atP_r (l := sgL c.2.1) (r := (59, 0) :: layC (o + (c.2.1.length + 1)) r) (j := 0)
          rw [sgL_len] at e2
          exact e2
        rw [e] at g
        exact g
    | some d =>
      obtain ⟨hd1, hd2⟩ := hd d hc1
      have el : layC o (c :: r) = sgL d.1 ++ (63, nI (o + (d.1.length + 1 + (c.2.1.length + 1)))) :: (sgL c.2.1 ++ (59, 0) :: layC (o + (d.1.length + 1 + (c.2.1.length + 1))) r) := by rw [layC, hc1]
      rw [el] at ho hc
      rw [List.length_append, List.length_cons, List.length_append, List.length_cons, sgL_len, sgL_len] at ho hc
      obtain ⟨S', g1, _, g3, _⟩ := hd1.2 (I 61) (I 63) 0 (by omega)
      have a1 : ∀ j, j < d.1.length → I0 p1 (o + j) = sgC (d.1.getD j (0, 0)).1 ∧ I0 p2 (o + j) = nI (d.1.getD j (0, 0)).2 := by
        intro j hj
        have g := hc j (by omega)
        rw [atP_l (by rw [sgL_len]; exact hj), atP_sgL hj] at g
        exact g
      have a2 : ∀ j, j < 1 + (c.2.1.length + (layC (o + (d.1.length + 1 + (c.2.1.length + 1))) r).length + 1) → I0 p1 (o + (d.1.length + j)) = (atP ((63, nI (o + (d.1.length + 1 + (c.2.1.length + 1)))) :: (sgL c.2.1 ++ (59, 0) :: layC (o + (d.1.length + 1 + (c.2.1.length + 1))) r)) j).1 ∧ I0 p2 (o + (d.1.length + j)) = (atP ((63, nI (o + (d.1.length + 1 + (c.2.1.length + 1)))) :: (sgL c.2.1 ++ (59, 0) :: layC (o + (d.1.length + 1 + (c.2.1.length + 1))) r)) j).2 := by
        intro j hj
        have g := hc (d.1.length + j) (by omega)
        have e := atP_r (l := sgL d.1) (r := (63, nI (o + (d.1.length + 1 + (c.2.1.length + 1)))) :: (sgL c.2.1 ++ (59, 0) :: layC (o + (d.1.length + 1 + (c.2.1.length + 1))) r)) (j := j)
        rw [sgL_len] at e
        rw [e] at g
        exact g
      have a3 : ∀ j, j < c.2.1.length + (layC (o + (d.1.length + 1 + (c.2.1.length + 1))) r).length + 1 → I0 p1 (o + (d.1.length + 1) + j) = (atP (sgL c.2.1 ++ (59, 0) :: layC (o + (d.1.length + 1 + (c.2.1.length + 1))) r) j).1 ∧ I0 p2 (o + (d.1.length + 1) + j) = (atP (sgL c.2.1 ++ (59, 0) :: layC (o + (d.1.length + 1 + (c.2.1.length + 1))) r) j).2 := by
        intro j hj
        have g := a2 (j + 1) (by omega)
        rw [show o + (d.1.length + (j + 1)) = o + (d.1.length + 1) + j by omega] at g
        exact g
      have a4 : ∀ j, j < (layC (o + (d.1.length + 1 + (c.2.1.length + 1))) r).length + 1 → I0 p1 (o + (d.1.length + 1) + (c.2.1.length + j)) = (atP ((59, 0) :: layC (o + (d.1.length + 1 + (c.2.1.length + 1))) r) j).1 ∧ I0 p2 (o + (d.1.length + 1) + (c.2.1.length + j)) = (atP ((59, 0) :: layC (o + (d.1.length + 1 + (c.2.1.length + 1))) r) j).2 := by
        intro j hj
        have g := a3 (c.2.1.length + j) (by omega)
        have e := atP_r (l := sgL c.2.1) (r := (59, 0) :: layC (o + (d.1.length + 1 + (c.2.1.length + 1))) r) (j := j)
        rw [sgL_len] at e
        rw [e] at g
        exact g
      refine s_seg (I0 := I0) hB hk0 hk1 hp1 hk2 hp2 hm hx h1 h2 d.1 o 0 I S' 1 u5 u6 (by omega) hI a1 g1 (fun I3 u5 u6 f3 e3 => ?_)
      obtain ⟨b1, b2⟩ := a2 0 (by omega)
      rw [Nat.add_zero] at b1 b2
      have b1' : I3 p1 (o + d.1.length) = 63 := by rw [f63 f3 hI p1 h1]; exact b1
      have b2' : I3 p2 (o + d.1.length) = nI (o + (d.1.length + 1 + (c.2.1.length + 1))) := by rw [f63 f3 hI p2 h2]; exact b2
      refine u_X4_worth_5 hB hk0 hk1 hp1 hk2 hp2 hx (s_len hk1 hp1 ⟨fun q => absurd q (nI_ge (by omega) (by omega)), fun _ => s_at hk1 hp1 (by omega) (by omega) (s_at hk2 hp2 (by omega) (by omega) ?_)⟩)
      rw [b1', b2', i_m1 (show 1 ≤ 1 by omega)]
      refine ⟨fun q => absurd q (by decide), fun q => absurd q (by decide), fun q => absurd q (by decide), fun _ => s_at (t_62 hB) (t_63 hB) (by omega) (by decide) ?_, fun q => absurd q (by decide), fun q => absurd rfl q.2.2.2.1⟩
      have ev : I3 63 (1 - 1) = d.2 (I 61) := by rw [e3, show 1 - 1 = 0 by omega, g3]
      rw [ev, nI_1]
      refine ⟨fun y => ?_, fun y => ?_⟩
      · refine sum I3 (o + d.1.length + 1) _ _ f3 (by omega) (fun j hj => ?_) ?_ (by rw [wCL, hc1]; show (if d.2 (I 61) = 0 then _ else _) = _; rw [if_neg y])
        · have g := a3 j (by omega)
          rw [atP_l (by rw [sgL_len]; exact hj), atP_sgL hj] at g
          exact g
        · exact (a4 0 (by omega)).1
      · have hj : (if nI (o + d.1.length) < nI (o + (d.1.length + 1 + (c.2.1.length + 1))) - 1 then nI (o + (d.1.length + 1 + (c.2.1.length + 1))) - 1 else nI (o + d.1.length)) + 1 = nI (o + (d.1.length + 1 + (c.2.1.length + 1))) := by
          rw [i_s1 (by omega), if_pos (nI_lt (by omega) (by omega)), nI_1]
          exact congrArg nI (by omega)
        rw [hj]
        refine ih (o + (d.1.length + 1 + (c.2.1.length + 1))) I3 _ _ hokr (by omega) (f63 f3 hI) (fun j hj => ?_) (fun I' f' => ?_)
        · have g := a4 (j + 1) (by omega)
          rw [show o + (d.1.length + 1) + (c.2.1.length + (j + 1)) = o + (d.1.length + 1 + (c.2.1.length + 1)) + j by omega] at g
          exact g
        · have g := hF I' (f3.tr f')
          rw [wCL, hc1] at g
          have e6 : I3 61 = I 61 := f3.at 61 (fun _ => rfl)
          rw [e6]
          have g' : F (if d.2 (I 61) = 0 then wCL r (I 61) else c.2.2 (I 61)) I' L := g
          rw [if_pos y] at g'
          exact g'
/-- a rule's worth, by the class -/
theorem s_worth {w : vfn} {k a b : Nat} (hB : sm_Bs T) (hk : T[k]? = some (.inr (4, [.ref a, .ref b]))) (hK : sRK T w a b I0) (n : Nat) (I : sm_MI) (L : sm_ML) (F : Int32 → sm_MI → sm_ML → Prop) (hI : ∀ k, 110 ≤ k → I k = I0 k) (hF : ∀ I' : sm_MI, Fr P63 I I' → F (w (I 61)) I' L) : sm_CI (n + 3) mX4_worth T I L [.ref k, .ref 60, .ref 62] F := by
  obtain ⟨pa, pb, m, ra, rb, CL, h1, h2, h3, h4, h5, h6, h7, h8, h9, h10, h11⟩ := hK
  refine c_X4_worth hB hk h3 h4 h5 h6 (fun x hx => ?_)
  refine s_wcl (I0 := I0) hB hk h3 h4 h5 h6 h8 hx h1 h2 CL 0 I none none h10 (by omega) hI (fun j hj => ?_) (fun I' f' => ?_)
  · rw [Nat.zero_add]; exact h9 j (by omega)
  · rw [← h11]; exact hF I' f'
end
