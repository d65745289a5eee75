/-! ===== worths: the model's ===== -/
section
variable {n : Nat} {T : List sm_Sh} {I I' I0 : sm_MI} {L L' : sm_ML} {W : Nat → (Nat → Int32) → Int32}
theorem opM_2 {a b : Int32} : opM 2 a b = clmp (Int32.toInt64 a + Int32.toInt64 b) := by simp [opM, opA]
theorem opM_3 {a b : Int32} : opM 3 a b = clmp (Int32.toInt64 a - Int32.toInt64 b) := by simp [opM, opA]
theorem opM_4 {a b : Int32} : opM 4 a b = clmp (Int32.toInt64 a * Int32.toInt64 b) := by simp [opM, opA]
theorem opM_5 {a b : Int32} : opM 5 a b = if lg_cmp (Int32.toInt64 b) 0 = 0 then 0 else clmp (Int32.toInt64 a / Int32.toInt64 b) := by simp [opM, opA]
theorem opM_6 {a b : Int32} : opM 6 a b = if lg_cmp (Int32.toInt64 a) (Int32.toInt64 b) = 0 then 1 else 0 := by simp [opM, opA]
theorem opM_7 {a b : Int32} : opM 7 a b = if 0 ≤ lg_cmp (Int32.toInt64 a) (Int32.toInt64 b) then 0 else 1 := by simp [opM, opA]
theorem opM_8 {a b : Int32} : opM 8 a b = if lg_cmp (Int32.toInt64 a) (Int32.toInt64 b) ≤ 0 then 0 else 1 := by simp [opM, opA]
theorem opM_10 {a b : Int32} : opM 10 a b = if lg_cmp (Int32.toInt64 a) 0 = 0 then 0 else if lg_cmp (Int32.toInt64 b) 0 = 0 then 0 else 1 := by simp [opM]
theorem opM_11 {a b : Int32} : opM 11 a b = if lg_cmp (Int32.toInt64 a) 0 = 0 then (if lg_cmp (Int32.toInt64 b) 0 = 0 then 0 else 1) else 1 := by simp [opM]
theorem s_bounded {F : Int32 → sm_MI → sm_ML → Prop} {l : Int64} (hB : sm_Bs T) (h : F (clmp l) I L) : sm_CI (n + 1) mX12_bounded T I L [.long l] F := c_X12_bounded hB h
theorem s_worked {F : Int32 → sm_MI → sm_ML → Prop} {k : Nat} {a b : Int32} (hB : sm_Bs T) (hk : k ≤ 11) (h0 : ¬ k = 0) (h1 : ¬ k = 1) (h9 : ¬ k = 9) (h : F (opM k a b) I L) : sm_CI (n + 2) mX12_worked T I L [.int (nI k), .long (Int32.toInt64 a), .long (Int32.toInt64 b)] F := by
  refine c_X12_worked hB ?_
  rcases op_kinds hk h0 h1 h9 with rfl | rfl | rfl | rfl | rfl | rfl | rfl | rfl | rfl
  · exact ⟨fun _ => s_bounded hB (by rw [← opM_2]; exact h), fun q => absurd q (by decide), fun q => absurd q (by decide), fun q => absurd q (by decide), fun q => absurd q (by decide), fun q => absurd q (by decide), fun q => absurd q (by decide), fun q => absurd q (by decide), fun q => absurd rfl q.1⟩
  · exact ⟨fun q => absurd q (by decide), fun _ => s_bounded hB (by rw [← opM_3]; exact h), fun q => absurd q (by decide), fun q => absurd q (by decide), fun q => absurd q (by decide), fun q => absurd q (by decide), fun q => absurd q (by decide), fun q => absurd q (by decide), fun q => absurd rfl q.2.1⟩
  · exact ⟨fun q => absurd q (by decide), fun q => absurd q (by decide), fun _ => s_bounded hB (by rw [← opM_4]; exact h), fun q => absurd q (by decide), fun q => absurd q (by decide), fun q => absurd q (by decide), fun q => absurd q (by decide), fun q => absurd q (by decide), fun q => absurd rfl q.2.2.1⟩
  · refine ⟨fun q => absurd q (by decide), fun q => absurd q (by decide), fun q => absurd q (by decide), fun _ => ⟨fun z => ⟨fun e => z ((lg_eq _ _).mpr e), s_bounded hB ?_⟩, fun z => ?_⟩, fun q => absurd q (by decide), fun q => absurd q (by decide), fun q => absurd q (by decide), fun q => absurd q (by decide), fun q => absurd rfl q.2.2.2.1⟩
    · rw [opM_5, if_neg z] at h; exact h
    · rw [opM_5, if_pos z] at h; exact h
  · refine ⟨fun q => absurd q (by decide), fun q => absurd q (by decide), fun q => absurd q (by decide), fun q => absurd q (by decide), fun _ => ⟨fun z => ?_, fun z => ?_⟩, fun q => absurd q (by decide), fun q => absurd q (by decide), fun q => absurd q (by decide), fun q => absurd rfl q.2.2.2.2.1⟩
    · rw [opM_6, if_neg z] at h; exact h
    · rw [opM_6, if_pos z] at h; exact h
  · refine ⟨fun q => absurd q (by decide), fun q => absurd q (by decide), fun q => absurd q (by decide), fun q => absurd q (by decide), fun q => absurd q (by decide), fun _ => ⟨fun z => ?_, fun z => ?_⟩, fun q => absurd q (by decide), fun q => absurd q (by decide), fun q => absurd rfl q.2.2.2.2.2.1⟩
    · rw [opM_7, if_pos z] at h; exact h
    · rw [opM_7, if_neg z] at h; exact h
  · refine ⟨fun q => absurd q (by decide), fun q => absurd q (by decide), fun q => absurd q (by decide), fun q => absurd q (by decide), fun q => absurd q (by decide), fun q => absurd q (by decide), fun _ => ⟨fun z => ?_, fun z => ?_⟩, fun q => absurd q (by decide), fun q => absurd rfl q.2.2.2.2.2.2.1⟩
    · rw [opM_8, if_pos z] at h; exact h
    · rw [opM_8, if_neg z] at h; exact h
  · refine ⟨fun q => absurd q (by decide), fun q => absurd q (by decide), fun q => absurd q (by decide), fun q => absurd q (by decide), fun q => absurd q (by decide), fun q => absurd q (by decide), fun q => absurd q (by decide), fun _ => ⟨fun z => ?_, fun z => ⟨fun y => ?_, fun y => ?_⟩⟩, fun q => absurd rfl q.2.2.2.2.2.2.2⟩
    · rw [opM_10, if_pos z] at h; exact h
    · rw [opM_10, if_neg z, if_pos y] at h; exact h
    · rw [opM_10, if_neg z, if_neg y] at h; exact h
  · refine ⟨fun q => absurd q (by decide), fun q => absurd q (by decide), fun q => absurd q (by decide), fun q => absurd q (by decide), fun q => absurd q (by decide), fun q => absurd q (by decide), fun q => absurd q (by decide), fun q => absurd q (by decide), fun _ => ⟨fun z => ?_, fun z => ⟨fun y => ?_, fun y => ?_⟩⟩⟩
    · rw [opM_11, if_neg z] at h; exact h
    · rw [opM_11, if_pos z, if_pos y] at h; exact h
    · rw [opM_11, if_pos z, if_neg y] at h; exact h
/-- a stretch of code run by the model -/
theorem s_m_seg {F : Int32 → sm_MI → sm_ML → Prop} {x : sm_Cx} {i fr to : Nat} (hB : sm_Bs T) (hi : i < 6) (hto : to ≤ 340) (hx : sm_Ok x mX12_workOut (n + 3) (sm_KI T F)) :
    ∀ (cs : cdL) (o t : Nat) (I : sm_MI) (S' : Nat → Int32) (t' : Nat), o + cs.length = to → (∀ j, j < cs.length → I 78 (340 * i + (o + j)) = nI (cs.getD j (0, 0)).1 ∧ I 79 (340 * i + (o + j)) = nI (cs.getD j (0, 0)).2) → runX opM (I 85) cs (I 86) t = some (S', t') →
      (∀ I' : sm_MI, Fr M86 I I' → I' 86 = S' → F (S' 0) I' L) →
      sm_V x 0 0 T I L 12 [some (.ref 76), some (.int (nI i)), some (.int (nI fr)), some (.int (nI to)), some (.int (nI t)), some (.int (nI (340 * i + o)))] [] := by
  have eto : (340 : Int32) * nI i + nI to = nI (340 * i + to) := by
    have e1 : (340 : Int32) * nI i = nI (340 * i) := pk_mul 340 i
    rw [e1, nI_add]
  intro cs
  induction cs with
  | nil =>
    intro o t I S' t' ho hc hr hk
    rw [runX] at hr
    obtain ⟨e1, e2⟩ := Prod.mk.inj (Option.some.inj hr)
    have ho' : o = to := ho
    subst ho'
    have z0 : Int32.toNatClampNeg 0 = 0 := by decide
    refine u_X12_workOut_12 hB hx ⟨fun _ => ⟨vp_in_nI (n := 0) (by decide) (by decide), ?_⟩, fun q => absurd (by rw [eto]; exact nI_le (Nat.le_refl _) (by omega)) q⟩
    rw [z0, e1]
    exact hk I Fr.rf e1
  | cons q cs ih =>
    intro o t I S' t' ho hc hr hk
    obtain ⟨k, v⟩ := q
    rw [List.length_cons] at ho
    obtain ⟨c1, c2⟩ := hc 0 (by rw [List.length_cons]; omega)
    rw [Nat.add_zero] at c1 c2
    have c1' : I 78 (340 * i + o) = nI k := c1
    have c2' : I 79 (340 * i + o) = nI v := c2
    have hin : vp_in (nI (340 * i + o)) 2040 := vp_in_nI (by omega) (by decide)
    have next : ∀ (t2 : Nat) (w : Int32) (i2 : Nat), runX opM (I 85) cs (upd (I 86) i2 w) t2 = some (S', t') → sm_V x 0 0 T (sm_uI I 86 i2 w) L 12 [some (.ref 76), some (.int (nI i)), some (.int (nI fr)), some (.int (nI to)), some (.int (nI t2)), some (.int (nI (340 * i + o) + 1))] [] := by
      intro t2 w i2 hr2
      rw [nI_1, show 340 * i + o + 1 = 340 * i + (o + 1) by omega]
      refine ih (o + 1) t2 (sm_uI I 86 i2 w) S' t' (by omega) (fun j hj => ?_) ?_ (fun I' f' e' => ?_)
      · have g := hc (j + 1) (by rw [List.length_cons]; omega)
        rw [show o + (j + 1) = o + 1 + j by omega] at g
        rw [sm_uI_ne (by decide), sm_uI_ne (by decide)]
        exact g
      · rw [sm_uI_ne (by decide), sm_uI_at]; exact hr2
      · exact hk I' ((Fr.u (P := M86) Fr.rf rfl).tr f') e'
    refine u_X12_workOut_12 hB hx ⟨fun q => absurd q (by rw [eto]; exact nI_ge (by omega) (by omega)), fun _ => ⟨hin, ?_⟩⟩
    rw [nI_clamp (by omega), c1']
    rw [runX] at hr
    by_cases h0 : k = 0
    · subst h0
      rw [if_pos rfl] at hr
      by_cases ht : t < 80
      · rw [if_pos ht] at hr
        refine ⟨fun _ => u_X12_workOut_45 hB hx ?_, fun q => absurd rfl q⟩
        rw [nI_clamp (by omega), nI_clamp (by omega), c1', c2', nI_1]
        exact ⟨hin, fun q => absurd rfl q, fun _ => ⟨hin, vp_in_nI ht (by decide), next (t + 1) (nI v) t hr⟩⟩
      · rw [if_neg ht] at hr; cases hr
    rw [if_neg h0] at hr
    by_cases h1' : k = 1
    · subst h1'
      rw [if_pos rfl] at hr
      by_cases ht : t < 80 ∧ v < 6
      · rw [if_pos ht] at hr
        refine ⟨fun q => absurd q (by decide), fun _ => ⟨hin, fun q => absurd rfl q, fun _ => u_X12_workOut_45 hB hx ?_⟩⟩
        rw [nI_clamp (by omega), nI_clamp (by omega), c1', c2', nI_1, nI_clamp (by omega)]
        exact ⟨hin, fun _ => ⟨hin, vp_in_nI ht.2 (by decide), vp_in_nI ht.1 (by decide), next (t + 1) (I 85 v) t hr⟩, fun q => absurd q (by decide)⟩
      · rw [if_neg ht] at hr; cases hr
    rw [if_neg h1'] at hr
    by_cases h9 : k = 9
    · subst h9
      rw [if_pos rfl] at hr
      by_cases ht : 1 ≤ t ∧ t ≤ 80
      · rw [if_pos ht] at hr
        refine ⟨fun q => absurd q (by decide), fun _ => ⟨hin, fun _ => ⟨hin, fun q => absurd rfl q, fun _ => ?_⟩, fun q => absurd q (by decide)⟩⟩
        rw [i_s1 ht.1, nI_clamp (by omega)]
        exact ⟨vp_in_nI (by omega) (by decide), vp_in_nI (by omega) (by decide), next t (1 - I 86 (t - 1)) (t - 1) hr⟩
      · rw [if_neg ht] at hr; cases hr
    rw [if_neg h9] at hr
    by_cases hk11 : k ≤ 11
    · rw [if_pos hk11] at hr
      by_cases ht : 2 ≤ t ∧ t ≤ 80
      · rw [if_pos ht] at hr
        have hne : ∀ y, y < 12 → k ≠ y → ¬ nI k = nI y := fun y hy e g => e ((nI_eq (by omega) (by omega)).mp g)
        refine ⟨fun q => absurd q (hne 0 (by decide) h0), fun _ => ⟨hin, fun _ => ⟨hin, fun _ => ⟨hin, ?_⟩, fun q => absurd q (hne 9 (by decide) h9)⟩, fun q => absurd q (hne 1 (by decide) h1')⟩⟩
        rw [i_m1 (show 1 ≤ t by omega), i_s1 (show 1 ≤ t - 1 by omega), nI_clamp (by omega), nI_clamp (by omega)]
        refine ⟨vp_in_nI (by omega) (by decide), vp_in_nI (by omega) (by decide), s_worked (n := n) hB hk11 h0 h1' h9 ⟨vp_in_nI (by omega) (by decide), ?_⟩⟩
        rw [show t - 1 - 1 = t - 2 by omega]
        exact next (t - 1) _ (t - 2) hr
      · rw [if_neg ht] at hr; cases hr
    · rw [if_neg hk11] at hr; cases hr
theorem s_workOut {F : Int32 → sm_MI → sm_ML → Prop} {i o : Nat} {cs : cdL} {v : vfn} (hB : sm_Bs T) (hi : i < 6) (hto : o + cs.length ≤ 340) (hc : ∀ j, j < cs.length → I 78 (340 * i + (o + j)) = nI (cs.getD j (0, 0)).1 ∧ I 79 (340 * i + (o + j)) = nI (cs.getD j (0, 0)).2) (hs : SO 40 cs v) (hF : ∀ I' : sm_MI, Fr M86 I I' → F (v (I 85)) I' L) : sm_CI (n + 3) mX12_workOut T I L [.ref 76, .int (nI i), .int (nI o), .int (nI (o + cs.length))] F := by
  obtain ⟨S', _, g2, g3, _⟩ := hs.2 (I 85) (I 86) 0 (by omega)
  refine c_X12_workOut hB (fun x hx => ?_)
  have e0 : (340 : Int32) * nI i + nI o = nI (340 * i + o) := by
    have e1 : (340 : Int32) * nI i = nI (340 * i) := pk_mul 340 i
    rw [e1, nI_add]
  rw [e0]
  refine s_m_seg (fr := o) hB hi hto hx cs o 0 I S' 1 rfl hc g2 (fun I' f' e' => ?_)
  rw [g3]
  exact hF I' f'
/-- the rule's clauses from clause c on -/
theorem s_m_wcl {F : Int32 → sm_MI → sm_ML → Prop} {x : sm_Cx} {i nc : Nat} (hB : sm_Bs T) (hi : i < 6) (hnc : nc ≤ 90) (hx : sm_Ok x mX12_worthOf (n + 4) (sm_KI T F)) :
    ∀ (CL : List clT) (c o : Nat) (I : sm_MI), c + CL.length = nc → I 81 i = nI nc → CLok CL → mLay I i c o CL → (∀ I', Fr M86 I I' → F (wCL CL (I 85)) I' L) →
      sm_V x 0 0 T I L 5 [some (.ref 76), some (.int (nI i)), some (.int (nI (90 * i + c)))] [] := by
  have e90 : (90 : Int32) * nI i + nI nc = nI (90 * i + nc) := by
    have e1 : (90 : Int32) * nI i = nI (90 * i) := pk_mul 90 i
    rw [e1, nI_add]
  intro CL
  induction CL with
  | nil =>
    intro c o I hc h81 hok hl hF
    have : c = nc := hc
    subst this
    refine u_X12_worthOf_5 hB hx ⟨vp_in_nI hi (by decide), fun _ => hF I Fr.rf, fun q => absurd ?_ q⟩
    rw [nI_clamp (by omega), h81, e90]
    exact nI_le (Nat.le_refl _) (by omega)
  | cons q r ih =>
    intro c o I hc h81 hok hl hF
    rw [List.length_cons] at hc
    obtain ⟨l1, l2, l3, l4, l5, l6⟩ := hl
    have hrest : mLay I i (c + 1) (o + (clC q).length + q.2.1.length) r ∧ o + (clC q).length + q.2.1.length ≤ 340 := mLay_up (fun _ _ => ⟨rfl, rfl⟩) (fun _ _ => ⟨rfl, rfl, rfl⟩) r (c + 1) _ (by omega) l6
    obtain ⟨hs, hd⟩ := hok q (List.mem_cons_self)
    have hokr : CLok r := fun c hc => hok c (List.mem_cons_of_mem _ hc)
    have hin : vp_in (nI (90 * i + c)) 540 := vp_in_nI (by omega) (by decide)
    have ne81 : ∀ (I2 : sm_MI), Fr M86 I I2 → I2 81 i = nI nc := fun I2 f => (f 81 i rfl).trans h81
    refine u_X12_worthOf_5 hB hx ⟨vp_in_nI hi (by decide), fun y => absurd y ?_, fun _ => ⟨hin, hin, ?_⟩⟩
    · rw [nI_clamp (by omega), h81, e90]; exact nI_ge (by omega) (by omega)
    rw [nI_clamp (by omega), l1, l2, l3]
    -- the sum
    have sum : ∀ (I2 : sm_MI), Fr M86 I I2 → wCL (q :: r) (I 85) = q.2.2 (I 85) → sm_CI (n + 3) mX12_workOut T I2 L [.ref 76, .int (nI i), .int (nI (o + (clC q).length)), .int (nI (o + (clC q).length + q.2.1.length))] (fun r6 I5 L5 => F r6 I5 L5) := by
      intro I2 f2 hw
      refine s_workOut (n := n) hB hi hrest.2 (fun j hj => ?_) hs (fun I' f' => ?_)
      · rw [f2 78 _ rfl, f2 79 _ rfl]; exact l5 j hj
      · rw [f2.at 85 (fun _ => rfl), ← hw]
        exact hF I' (f2.tr f')
    cases hq : q.1 with
    | none =>
      have ec : (clC q) = [] := by unfold clC; rw [hq]
      have el : o + (clC q).length = o := by rw [ec]; rfl
      refine ⟨fun _ => ⟨hin, hin, sum I Fr.rf (by rw [wCL, hq])⟩, fun y => absurd (by rw [el]) y⟩
    | some d =>
      obtain ⟨hd1, hd2⟩ := hd d hq
      have ec : clC q = d.1 := by unfold clC; rw [hq]
      have hlen : 0 < d.1.length := List.length_pos_iff.mpr hd2
      refine ⟨fun y => absurd ((nI_eq (by omega) (by omega)).mp y) (by rw [ec]; omega), fun _ => ⟨hin, hin, ?_⟩⟩
      rw [ec] at l4 ⊢
      refine s_workOut (n := n) hB hi (by rw [ec] at hrest; omega) l4 hd1 (fun I2 f2 => ⟨fun y => ?_, fun y => ⟨hin, hin, ?_⟩⟩)
      · rw [nI_1, show 90 * i + c + 1 = 90 * i + (c + 1) by omega]
        refine ih (c + 1) (o + (clC q).length + q.2.1.length) I2 (by omega) (ne81 I2 f2) hokr (mLay_up (fun j _ => ⟨f2 78 _ rfl, f2 79 _ rfl⟩) (fun j _ => ⟨f2 82 _ rfl, f2 83 _ rfl, f2 84 _ rfl⟩) r (c + 1) _ (by omega) l6).1 (fun I' f' => ?_)
        have g := hF I' (f2.tr f')
        rw [wCL, hq] at g
        rw [f2.at 85 (fun _ => rfl)]
        have g' : F (if d.2 (I 85) = 0 then wCL r (I 85) else q.2.2 (I 85)) I' L := g
        rw [if_pos y] at g'
        exact g'
      · rw [f2 83 _ rfl, f2 84 _ rfl, l2, l3]
        refine sum I2 f2 ?_
        rw [wCL, hq]
        show (if d.2 (I 85) = 0 then _ else _) = _
        rw [if_neg y]
/-- a rule's worth, by the model -/
theorem s_m_worth {w : vfn} {i : Nat} (hB : sm_Bs T) (hi : i < 6) (hK : mRK w i I0) (n : Nat) (I : sm_MI) (L : sm_ML) (F : Int32 → sm_MI → sm_ML → Prop) (hI : ∀ k, 78 ≤ k → k ≤ 84 → I k = I0 k) (hF : ∀ I' : sm_MI, Fr M86 I I' → F (w (I 85)) I' L) : sm_CI (n + 4) mX12_worthOf T I L [.ref 76, .int (nI i)] F := by
  obtain ⟨CL, h1, h2, h3, h4, h5⟩ := hK
  have e1 : (90 : Int32) * nI i = nI (90 * i) := pk_mul 90 i
  refine c_X12_worthOf hB (fun x hx => ?_)
  rw [e1]
  refine s_m_wcl hB hi h1 hx CL 0 0 I (by omega) (by rw [hI 81 (by decide) (by decide)]; exact h2) h4 (mLay_up (fun j _ => by rw [hI 78 (by decide) (by decide), hI 79 (by decide) (by decide)]; exact ⟨rfl, rfl⟩) (fun j _ => by rw [hI 82 (by decide) (by decide), hI 83 (by decide) (by decide), hI 84 (by decide) (by decide)]; exact ⟨rfl, rfl, rfl⟩) CL 0 0 (by omega) h3).1 (fun I' f' => ?_)
  rw [← h5]
  exact hF I' f'
theorem mRL_of {R : Nat} (hB : sm_Bs T) (hR : R ≤ 6) (hW : ∀ i (f g : Nat → Int32), (∀ j, j < 6 → f j = g j) → W i f = W i g) (hK : ∀ i, i < R → mRK (W i) i I0) : mRL T W R I0 :=
  ⟨hW, fun i hi => ⟨hK i hi, fun n I L F h1 h2 => s_m_worth hB (by omega) (hK i hi) n I L F h1 h2⟩⟩
end
