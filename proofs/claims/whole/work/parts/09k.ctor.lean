section
variable {x : sm_Cx} {md : sm_MD} {n : Nat} {K : sm_K} {bc bs : Nat} {T0 T : List sm_Sh} {I0 I : sm_MI} {L0 L : sm_ML} {pc pc5 k ci m : Nat} {fs : List Value} {l : List sm_Sh} {ls : List (Option Value)} {st : List Value}
theorem uL_z {L : sm_ML} {k j : Nat} (h : L k j = 0) : sm_uL L k j 0 = L := by
  funext a b
  unfold sm_uL
  by_cases e : a = k
  · by_cases e2 : b = j
    · subst e; subst e2; rw [if_pos rfl, if_pos rfl, h]
    · rw [if_pos e, if_neg e2]
  · rw [if_neg e]
theorem pLong {i3 j : Nat} {z : Int64} (hx : sm_Ok x md n K) (hk : k < T0.length) (hZ : ZI T0 I0 L0 m I L) (hI : L0 k = fun _ => 0) (h0 : ls[0]? = some (some (.ref k))) (da : decode md.2.1 pc = .ok (.aload_n 0, 1)) (dc : decode md.2.1 (pc + 1) = .ok (.lconst 0, 1)) (dp : decode md.2.1 (pc + 1 + 1) = .ok (.putfield i3, 3)) (lk : sm_FLk md.1.cls i3 ci j .long false) (hf : fs[j]? = some (.long z)) (kk : sm_V x bc bs (ST T0 k ci fs l) I L (pc + 1 + 1 + 3) ls []) : sm_V x bc bs (ST T0 k ci fs l) I L pc ls [] := by
  refine sm_aload_n (z := k) hx da h0 (sm_lconst (v := 0) hx dc rfl (sm_putL hx dp lk (ST_k hk) hf ?_))
  rw [uL_z (by rw [(hZ.1 k hk).2, hI])]
  exact kk
set_option maxRecDepth 100000 in
theorem k_Stand (hk : T[k]? = some (.inr (7, [.int 0, .int 0, .int 0, .long 0]))) (hI : I k = fun _ => 0) (hL : L k = fun _ => 0) : sm_Call (n + 2) 0 0 mX7_init T I L [.ref k] (kCt T I L k (.inr (7, [.int 0, .int 0, .int 0, .long 0])) []) := by
  have hkl := lt_of hk
  refine sm_Call.of (by decide +kernel) rfl (fun x hx => ?_)
  suffices h : sm_V x 0 0 (ST T k 7 [.int 0, .int 0, .int 0, .long 0] []) I L 0 [some (.ref k)] [] by rw [← ST_0 hk] at h; exact h
  refine sm_aload_n (z := k) hx dX7_init_0 rfl (sm_objInit hx dX7_init_1 oi_X7_1 oi_2 oi_3 rfl ?_)
  refine pInt (m := 0) (pc := 4) (j := 0) hx hkl ZI_0 hI rfl dX7_init_4 dX7_init_5 dX7_init_6 fl_X7_7_7 rfl ?_
  refine pInt (m := 0) (pc := 9) (j := 1) hx hkl ZI_0 hI rfl dX7_init_9 dX7_init_10 dX7_init_11 fl_X7_13_7 rfl ?_
  refine pInt (m := 0) (pc := 14) (j := 2) hx hkl ZI_0 hI rfl dX7_init_14 dX7_init_15 dX7_init_16 fl_X7_16_7 rfl ?_
  refine pLong (m := 0) (pc := 19) (j := 3) hx hkl ZI_0 hL rfl dX7_init_19 dX7_init_20 dX7_init_21 fl_X7_19_7 rfl ?_
  exact ct_ret (hx := hx) ZI_0 dX7_init_24 rfl
set_option maxRecDepth 100000 in
/-- the Stand that a Dream is -/
theorem k_StandD {fs : List Value} (hk : T[k]? = some (.inr (1, .int 0 :: .int 0 :: .int 0 :: .long 0 :: fs))) (hI : I k = fun _ => 0) (hL : L k = fun _ => 0) : sm_Call (n + 2) 0 0 mX7_init T I L [.ref k] (kCt T I L k (.inr (1, .int 0 :: .int 0 :: .int 0 :: .long 0 :: fs)) []) := by
  have hkl := lt_of hk
  refine sm_Call.of (by decide +kernel) rfl (fun x hx => ?_)
  suffices h : sm_V x 0 0 (ST T k 1 (.int 0 :: .int 0 :: .int 0 :: .long 0 :: fs) []) I L 0 [some (.ref k)] [] by rw [← ST_0 hk] at h; exact h
  refine sm_aload_n (z := k) hx dX7_init_0 rfl (sm_objInit hx dX7_init_1 oi_X7_1 oi_2 oi_3 rfl ?_)
  refine pInt (m := 0) (pc := 4) (j := 0) hx hkl ZI_0 hI rfl dX7_init_4 dX7_init_5 dX7_init_6 fl_X7_7_1 rfl ?_
  refine pInt (m := 0) (pc := 9) (j := 1) hx hkl ZI_0 hI rfl dX7_init_9 dX7_init_10 dX7_init_11 fl_X7_13_1 rfl ?_
  refine pInt (m := 0) (pc := 14) (j := 2) hx hkl ZI_0 hI rfl dX7_init_14 dX7_init_15 dX7_init_16 fl_X7_16_1 rfl ?_
  refine pLong (m := 0) (pc := 19) (j := 3) hx hkl ZI_0 hL rfl dX7_init_19 dX7_init_20 dX7_init_21 fl_X7_19_1 rfl ?_
  exact ct_ret (hx := hx) ZI_0 dX7_init_24 rfl
end
