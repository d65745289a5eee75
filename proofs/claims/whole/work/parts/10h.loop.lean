/-! ===== sleeper's turn, the dispatch, the loop ===== -/
section
variable {x : sm_Cx} {n : Nat} {K : sm_K} {bc bs : Nat} {T : List sm_Sh} {I : sm_MI} {L L' : sm_ML} {Ls t bn : Nat} {xs : Nat → Int32} {a5 a6 : Option Value}
variable {A : Nat → Nat → Int32} {W : Nat → (Nat → Int32) → Int32} {H S N R ν lb : Nat}
theorem RR_t {v : Int32} (hR : RR A W H S N R ν lb bn T I L) (hL : ∀ j, j ≠ 109 → L' j = L j) : RR A W H S N R ν lb bn T (sm_uI I 76 0 v) L' := by
  obtain ⟨g1, g2, g3, g4, g5, g6, g7⟩ := hR.gn
  refine RR_now hR (Fr.rf.u rfl) (Fr.rf.u rfl) (Fr.rf.u rfl) (Fr.rf.u rfl) (Fr.rf.u rfl) (Fr.rf.u rfl) (Fr.rf.u rfl) (Fr.rf.u rfl) (congrFun (hL 36 (by decide)) 3) (congrFun (hL 76 (by decide)) 59) (fun i => congrFun (hL 96 (by decide)) i) ⟨g1, g2, ?_, ?_, ?_, ?_, ?_⟩ ?_ ?_
  · rw [sm_uI_ne (by decide)]; exact g3
  · rw [sm_uI_ne (by decide)]; exact g4
  · rw [cuD (by decide)]; exact g5
  · rw [hL 35 (by decide), hL 76 (by decide)]; exact g6
  · rw [sm_uI_ne (by decide)]; exact g7
  · rw [sm_uI_ne (by decide), sm_uI_ne (by decide)]; exact hR.u
  · rw [cuD (by decide)]; exact hR.n34
/-- the model's sleeper answers as the class's, and tells whether it throws -/
theorem m_sl {a1 a2 : Int32} (hR : RR A W H S N R ν lb bn T I L) : sm_CI (n + 3) mX12_sleeper T I L' [.ref 76, .int a1, .int a2] (fun b I3 L3 => (sVal I a1 a2 = some b ∧ I3 = sm_uI I 76 0 0 ∧ L3 = L') ∨ (sVal I a1 a2 = none ∧ I3 = sm_uI I 76 0 1 ∧ L3 = L')) := by
  have hB := hR.hB
  obtain ⟨⟨e1, e24, e3, e4, e5⟩, ab, ⟨c1, c2, c3, c4, c5⟩, cb, c6⟩ := hR.st
  have hS5 := hR.va.2.2.1
  refine c_X12_sleeper hB (s_m_isSleeper hB ?_)
  rw [c2]
  refine ⟨fun q I3 h3 => ?_, fun q => s_m_in hB ⟨fun q7 I8 h8 => ?_, fun q7 I11 h11 => ?_⟩⟩
  · subst h3
    exact ⟨fun z => absurd cuA z, fun _ => Or.inr ⟨by unfold sVal; rw [e24, if_neg (by rw [q]; decide)], rfl, rfl⟩⟩
  · subst h8
    have no : ∀ z : Int32, qW z 0 4 = true → ¬ a2 = z := fun z hz e => by rw [e, hz] at q7; exact absurd q7 (by decide)
    exact ⟨fun z => absurd cuA z, fun _ => Or.inr ⟨by unfold sVal; rw [e24, if_pos q, if_neg (no 0 (by decide)), if_neg (no 1 (by decide)), if_neg (no 2 (by decide)), if_neg (no 3 (by decide)), if_neg (no 4 (by decide))], rfl, rfl⟩⟩
  · subst h11
    have q0 := q
    obtain ⟨w, hw, rfl⟩ := qW_nat (by omega) q
    obtain ⟨j, hj, rfl⟩ := qW_nat (N := 5) (by decide) (show qW a2 0 (nI 5 - 1) = true by rw [show nI 5 - 1 = (4 : Int32) by decide]; exact q7)
    have n0 : ¬ (sm_uI I 76 0 0) 76 0 = 1 := by rw [cuA]; decide
    obtain ⟨a26, a28, a30, a32, a34⟩ := ab w hw
    obtain ⟨b0, b1, b2, b3, b4⟩ := cb w hw
    have sv : sVal I (nI w) (nI j) = (if nI j = 0 then some (I 26 w) else if nI j = 1 then some (I 28 w) else if nI j = 2 then some (I 30 w) else if nI j = 3 then some (I 32 w) else if nI j = 4 then some (I 34 w) else none) := by
      unfold sVal
      rw [e24, if_pos q0, nI_clamp (by omega)]
    have u89 : ∀ j, (sm_uI I 76 0 0) 89 j = I 89 j := fun j => cuD (by omega)
    refine ⟨fun _ => ⟨fun h4 => ?_, fun h4 => ⟨vp_in_nI (by omega) (by decide), Or.inl ⟨?_, rfl, rfl⟩⟩⟩, fun z => absurd z n0⟩
    · have hj4 : j < 4 := by
        rcases Nat.lt_or_ge j 4 with c | c
        · exact c
        · have : j = 4 := by omega
          subst this; exact absurd rfl h4
      refine s_m_of hB (by omega) hj4 (Or.inl ⟨?_, rfl, rfl⟩)
      rw [sv, u89]
      have : j = 0 ∨ j = 1 ∨ j = 2 ∨ j = 3 := by omega
      rcases this with r | r | r | r <;> subst r
      · rw [if_pos (by decide), a26]; exact congrArg some b0.symm
      · rw [if_neg (by decide), if_pos (by decide), a28]; exact congrArg some b1.symm
      · rw [if_neg (by decide), if_neg (by decide), if_pos (by decide), a30]; exact congrArg some b2.symm
      · rw [if_neg (by decide), if_neg (by decide), if_neg (by decide), if_pos (by decide), a32]; exact congrArg some b3.symm
    · rw [sv, h4, if_neg (by decide), if_neg (by decide), if_neg (by decide), if_neg (by decide), if_pos rfl, nI_clamp (by omega), cuD (by omega), a34, b4]
set_option maxRecDepth 100000 in
theorem w_4 (hx : sm_Ok x mL_law (n + 61) K) (hE : XE (sm_xA x) (sm_xs x) (sm_xs x).heap) (hfl : x.1.2.1.stackTraces = false) (hS : sm_Sc x Ls xs) (ht : 6 * t + 6 ≤ Ls) (hI : Inv bn T I L) (hb : bn + 60 < 2 ^ 29) (kk : Nx x bc bs T bn t) : sm_V x (bc + 6) (bs + 400) T I L 360 (lawL t a5 a6) [] := by
  obtain ⟨A, W, H, S, N, R, ν, lb, hR, hA⟩ := hI
  have hB := hR.hB
  have e24 := hR.st.1.2.1
  refine sm_aload_n (i := 1) (z := 0) hx dL_law_360 rfl ?_
  refine rdS (k := 1) hx hS ht (by decide) (by decide) dL_law_361 dL_law_362 dL_law_364 dL_law_365 dL_law_366 ?_
  refine rdS (k := 2) hx hS ht (by decide) (by decide) dL_law_367 dL_law_368 dL_law_370 dL_law_371 dL_law_372 ?_
  refine sm_aload_n (i := 3) (z := 109) hx dL_law_373 rfl ?_
  refine sm_callSE (n := n + 60) (args := [.ref 0, .int (xs (6 * t + 1)), .int (xs (6 * t + 2)), .ref 109]) (st := []) (bc' := 1) (bs' := 6) hx hE dL_law_374 rfl rfl rfl (by omega) (by omega) (k_help (n := n + 53) hfl hB e24 hR.va.2.2.1) (fun v T' I' L' q => ?_)
  obtain ⟨rfl, rfl, q⟩ := q
  have rest : ∀ (k : Int32) (Lc : sm_ML), (∀ j, j ≠ 109 → Lc j = L j) → ((k = 0 ∧ ∃ z, sVal I (xs (6 * t + 1)) (xs (6 * t + 2)) = some z ∧ Lc 109 0 = z.toInt64) ∨ (k = 1 ∧ sVal I (xs (6 * t + 1)) (xs (6 * t + 2)) = none)) → sm_V x bc bs T I Lc 377 (lawL t a5 a6) [.int k] := by
    intro k Lc hLc hk
    refine sm_istore (i := 5) (ls' := lawL t (some (.int k)) a6) hx dL_law_377 (by decide) rfl ?_
    refine sm_aload_n (i := 2) (z := 76) hx dL_law_379 rfl ?_
    refine rdS (k := 1) hx hS ht (by decide) (by decide) dL_law_380 dL_law_381 dL_law_383 dL_law_384 dL_law_385 ?_
    refine rdS (k := 2) hx hS ht (by decide) (by decide) dL_law_386 dL_law_387 dL_law_389 dL_law_390 dL_law_391 ?_
    refine sm_callVI (n := n + 60) (args := [.int (xs (6 * t + 1)), .int (xs (6 * t + 2))]) (k := 76) (st := []) hx dL_law_392 lv_L_43_12 rfl rfl (t_76 hB) rfl rfl (m_sl (n := n + 57) (L' := Lc) hR) (fun b I3 L3 q3 => ?_)
    refine sm_istore (i := 6) (ls' := lawL t (some (.int k)) (some (.int b))) hx dL_law_395 (by decide) rfl ?_
    refine sm_aload_n (i := 2) (z := 76) hx dL_law_397 rfl ?_
    have q4 : I3 76 0 = k ∧ L3 = Lc ∧ Inv (bn + 60) T I3 L3 := by
      rcases q3 with ⟨h1, h2, h3⟩ | ⟨h1, h2, h3⟩
      · rcases hk with ⟨h4, _⟩ | ⟨_, h5⟩
        · rw [h2, h3, h4]; exact ⟨cuA, rfl, Inv_up (RR_t hR hLc) hA hb⟩
        · rw [h5] at h1; cases h1
      · rcases hk with ⟨_, z, h5, _⟩ | ⟨h4, _⟩
        · rw [h5] at h1; cases h1
        · rw [h2, h3, h4]; exact ⟨cuA, rfl, Inv_up (RR_t hR hLc) hA hb⟩
    have hB3 := hB
    refine sm_callVI (n := n + 60) (args := []) (k := 76) (st := []) (F := fun r I4 L4 => r = I3 76 0 ∧ I3 = I4 ∧ L3 = L4) hx dL_law_398 lv_L_44_12 rfl rfl (t_76 hB) rfl rfl (c_X12_thrown hB ⟨rfl, rfl, rfl⟩) (fun r I4 L4 q5 => ?_)
    obtain ⟨rfl, rfl, rfl⟩ := q5
    refine sm_iload (i := 5) (z := k) hx dL_law_401 rfl (sm_icmpeq (a := I3 76 0) (b := k) hx dL_law_403 (tgt := 408) (by decide) (fun _ => ?_) (fun z => absurd q4.1 z))
    have done : sm_V x bc bs T I3 L3 425 (lawL t (some (.int k)) (some (.int b))) [] := sm_goto hx dL_law_425 (tgt := 1654) (by decide) (kk _ _ _ _ _ (by omega) q4.2.2)
    refine sm_iload (i := 5) (z := k) hx dL_law_408 rfl (sm_ifne (a := k) hx dL_law_410 (tgt := 425) (by decide) (fun _ => done) (fun hk0 => ?_))
    have e9 : L3 109 0 = b.toInt64 := by
      rcases hk with ⟨_, z, h5, h6⟩ | ⟨h4, _⟩
      · rcases q3 with ⟨h1, h2, h3⟩ | ⟨h1, h2, h3⟩
        · rw [h5] at h1
          cases h1
          rw [h3, h6]
        · rw [h5] at h1; cases h1
      · rw [h4] at hk0; exact absurd hk0 (by decide)
    refine sm_aload_n (i := 3) (z := 109) hx dL_law_413 rfl (sm_iconst (v := 0) hx dL_law_414 sm_kc_0 (sm_lald hx dL_law_415 (t_109 hB) (vp_in_nI (n := 0) (by decide) (by decide)) (sm_iload (i := 6) (z := b) hx dL_law_416 rfl (sm_i2l hx dL_law_418 (sm_lcmp hx dL_law_419 ?_)))))
    exact sm_ifeq hx dL_law_420 (tgt := 425) (by decide) (fun _ => done) (fun z => absurd ((lg_eq _ _).mpr e9) z)
  rcases q with ⟨z, hz, rfl, rfl⟩ | ⟨hn, rfl, rfl⟩
  · exact V_more (bc := bc) (bs := bs) (rest 0 _ (fun j hj => sm_uL_ne hj) (Or.inl ⟨rfl, z, hz, by simp [sm_uL]⟩)) (by omega) (by omega)
  · exact V_more (bc := bc) (bs := bs) (rest 1 _ (fun j hj => rfl) (Or.inr ⟨rfl, hn⟩)) (by omega) (by omega)
theorem Inv_60 (hI : Inv bn T I L) (hb : bn + 60 < 2 ^ 29) : Inv (bn + 60) T I L := by
  obtain ⟨A, W, H, S, N, R, ν, lb, hR, hA⟩ := hI
  exact Inv_up hR hA hb
set_option maxRecDepth 100000 in
/-- one turn -/
theorem law_turn (hx : sm_Ok x mL_law (n + 61) K) (hE : XE (sm_xA x) (sm_xs x) (sm_xs x).heap) (hfl : x.1.2.1.stackTraces = false) (hS : sm_Sc x Ls xs) (ht : 6 * t + 6 ≤ Ls) (hI : Inv bn T I L) (hb : bn + 60 < 2 ^ 29) (hl : T.length + 6 < 1000000) (kk : Nx x bc bs T bn t) : sm_V x (bc + 6) (bs + 400) T I L 33 (lawL t a5 a6) [] := by
  have h3 := hS.2.2.2
  refine sm_aload_n (i := 0) (z := 1000030) hx dL_law_33 rfl (sm_iload (i := 4) (z := nI (6 * t)) hx dL_law_34 rfl (sm_sld hx hS dL_law_36 (vp_in_nI (by omega) (by omega)) (sm_bipush (v := 63) hx dL_law_37 (by decide) (sm_iand hx dL_law_39 ?_))))
  refine sm_tsw hx dL_law_40 (by decide) (fun i hi q1 => ?_) (fun _ => ⟨1654, by decide, V_more (kk T I L a5 a6 (by omega) (Inv_60 hI hb)) (Nat.le_add_right _ _) (Nat.le_add_right _ _)⟩)
  match i, hi with
  | 0, _ => exact ⟨172, 212, rfl, by decide, w_0 hx hS ht hI hb hl kk⟩
  | 1, _ => exact ⟨245, 285, rfl, by decide, w_1 hx hS ht hI hb hl kk⟩
  | 2, _ => exact ⟨270, 310, rfl, by decide, w_2 hx hS ht hI hb hl kk⟩
  | 3, _ => exact ⟨295, 335, rfl, by decide, w_3 hx hS ht hI hb hl kk⟩
  | 4, _ => exact ⟨320, 360, rfl, by decide, w_4 hx hE hfl hS ht hI hb kk⟩
  | 5, _ => exact ⟨388, 428, rfl, by decide, w_5 hx hS ht hI hb hl kk⟩
  | 6, _ => exact ⟨425, 465, rfl, by decide, w_6 hx hS ht hI hb hl kk⟩
  | 7, _ => exact ⟨462, 502, rfl, by decide, w_7 hx hS ht hI hb hl kk⟩
  | 8, _ => exact ⟨499, 539, rfl, by decide, w_8 hx hS ht hI hb hl kk⟩
  | 9, _ => exact ⟨524, 564, rfl, by decide, w_9 hx hS ht hI hb hl kk⟩
  | 10, _ => exact ⟨581, 621, rfl, by decide, w_10 hx hS ht hI hb hl kk⟩
  | 11, _ => exact ⟨618, 658, rfl, by decide, w_11 hx hS ht hI hb hl kk⟩
  | 12, _ => exact ⟨671, 711, rfl, by decide, w_12 hx hS ht hI hb hl kk⟩
  | 13, _ => exact ⟨696, 736, rfl, by decide, w_13 hx hS ht hI hb hl kk⟩
  | 14, _ => exact ⟨709, 749, rfl, by decide, w_14 hx hS ht hI hb hl kk⟩
  | 15, _ => exact ⟨734, 774, rfl, by decide, w_15 hx hS ht hI hb hl kk⟩
  | 16, _ => exact ⟨771, 811, rfl, by decide, w_16 hx hS ht hI hb hl kk⟩
  | 17, _ => exact ⟨808, 848, rfl, by decide, w_17 hx hS ht hI hb hl kk⟩
  | 18, _ => exact ⟨845, 885, rfl, by decide, w_18 hx hS ht hI hb hl kk⟩
  | 19, _ => exact ⟨882, 922, rfl, by decide, w_19 hx hS ht hI hb hl kk⟩
  | 20, _ => exact ⟨943, 983, rfl, by decide, w_20 hx hS ht hI hb hl kk⟩
  | 21, _ => exact ⟨968, 1008, rfl, by decide, w_21 hx hS ht hI hb hl kk⟩
  | 22, _ => exact ⟨1045, 1085, rfl, by decide, w_22 hx hS ht hI hb hl kk⟩
  | 23, _ => exact ⟨1070, 1110, rfl, by decide, w_23 hx hS ht hI hb hl kk⟩
  | 24, _ => exact ⟨1107, 1147, rfl, by decide, w_24 hx hS ht hI hb hl kk⟩
  | 25, _ => exact ⟨1120, 1160, rfl, by decide, w_25 hx hS ht hI hb hl kk⟩
  | 26, _ => exact ⟨1169, 1209, rfl, by decide, w_26 hx hS ht hI hb hl kk⟩
  | 27, _ => exact ⟨1218, 1258, rfl, by decide, w_27 hx hS ht hI hb hl kk⟩
  | 28, _ => exact ⟨1255, 1295, rfl, by decide, w_28 hx hS ht hI hb hl kk⟩
  | 29, _ => exact ⟨1292, 1332, rfl, by decide, w_29 hx hS ht hI hb hl kk⟩
  | 30, _ => exact ⟨1329, 1369, rfl, by decide, w_30 hx hS ht hI hb hl kk⟩
  | 31, _ => exact ⟨1354, 1394, rfl, by decide, w_31 hx hS ht hI hb hl kk⟩
  | 32, _ => exact ⟨1415, 1455, rfl, by decide, w_32 hx hS ht hI hb hl kk⟩
  | 33, _ => exact ⟨1464, 1504, rfl, by decide, w_33 hx hS ht hI hb hl kk⟩
  | 34, _ => exact ⟨1501, 1541, rfl, by decide, w_34 hx hS ht hI hb hl kk⟩
  | 35, _ => exact ⟨1538, 1578, rfl, by decide, w_35 hx hS ht hI hb hl kk⟩
  | 36, _ => exact ⟨1563, 1603, rfl, by decide, w_36 hx hS ht hI hb hl kk⟩
  | 37, _ => exact ⟨1576, 1616, rfl, by decide, w_37 hx hS ht hI hb hl kk⟩
  | 38, _ => exact ⟨1589, 1629, rfl, by decide, w_38 hx hS ht hI hb hl kk⟩
  | i + 39, h => exact absurd h (Nat.not_lt.mpr (Nat.le_add_left 39 i))
theorem gt_1 (h : Ls < 6 * t + 6) (hL : Ls ≤ 3072) (ht : t ≤ 600) : nI Ls - nI 6 < nI (6 * t) := by
  rcases Nat.lt_or_ge Ls 6 with c | c
  · have h1 := pk_sneg (a := Ls) (b := 6) (by decide) c
    rw [Int32.lt_iff_toInt_lt] at h1 ⊢
    rw [nI_toInt (by omega)]
    have : (0 : Int32).toInt = 0 := by decide
    omega
  · rw [pk_sub c, Int32.lt_iff_toInt_lt, nI_toInt (by omega), nI_toInt (by omega)]
    omega
theorem gt_0 (h : 6 * t + 6 ≤ Ls) (hL : Ls ≤ 3072) : ¬ nI Ls - nI 6 < nI (6 * t) := by
  rw [pk_sub (by omega), Int32.lt_iff_toInt_lt, nI_toInt (by omega), nI_toInt (by omega)]
  omega
/-- the law's loop, from its head -/
theorem law_loop (hx : sm_Ok x mL_law (n + 61) (fun v _ _ _ => v = some (.int 1))) (hE : XE (sm_xA x) (sm_xs x) (sm_xs x).heap) (hfl : x.1.2.1.stackTraces = false) (hS : sm_Sc x Ls xs) : ∀ (d t : Nat) (T : List sm_Sh) (I : sm_MI) (L : sm_ML) (a5 a6 : Option Value), 6 * (t + d) ≤ Ls → Ls < 6 * (t + d) + 6 → T.length ≤ 110 + 6 * t → Inv (60 * t) T I L → sm_V x (6 * d) (400 * d) T I L 23 (lawL t a5 a6) [] := by
  have h3 := hS.2.2.2
  intro d
  induction d with
  | zero =>
    intro t T I L a5 a6 h1 h2 hT hI
    refine sm_iload (i := 4) (z := nI (6 * t)) hx dL_law_23 rfl (sm_aload_n (i := 0) (z := 1000030) hx dL_law_25 rfl (sm_slen hx hS dL_law_26 (sm_bipush (v := nI 6) hx dL_law_27 (by decide) (sm_isub hx dL_law_29 (sm_icmpgt hx dL_law_30 (tgt := 1660) (by decide) (fun _ => ?_) (fun z => absurd (gt_1 (by omega) h3 (by omega)) z))))))
    exact sm_iconst (v := 1) hx dL_law_1660 sm_kc_1 (sm_zret (b := true) hx dL_law_1661 rfl rfl)
  | succ d ih =>
    intro t T I L a5 a6 h1 h2 hT hI
    refine sm_iload (i := 4) (z := nI (6 * t)) hx dL_law_23 rfl (sm_aload_n (i := 0) (z := 1000030) hx dL_law_25 rfl (sm_slen hx hS dL_law_26 (sm_bipush (v := nI 6) hx dL_law_27 (by decide) (sm_isub hx dL_law_29 (sm_icmpgt hx dL_law_30 (tgt := 1660) (by decide) (fun z => absurd z (gt_0 (by omega) h3)) (fun _ => ?_))))))
    refine law_turn (bc := 6 * d) (bs := 400 * d) hx hE hfl hS (by omega) hI (by omega) (by omega) (fun T' I' L' a5' a6' hT' hI' => ?_)
    refine sm_iinc (i := 4) (z := nI (6 * t)) (v := nI (6 * (t + 1))) (ls' := lawL (t + 1) a5' a6') hx dL_law_1654 rfl (by rw [show Int32.ofInt 6 = nI 6 by decide, nI_add, show 6 * t + 6 = 6 * (t + 1) by omega]) (by decide) rfl (sm_goto hx dL_law_1657 (tgt := 23) (by decide) ?_)
    exact ih (t + 1) T' I' L' a5' a6' (by omega) (by omega) (by omega) (by rw [show 60 * (t + 1) = 60 * t + 60 by omega]; exact hI')
end
