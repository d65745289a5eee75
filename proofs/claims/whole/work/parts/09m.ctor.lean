section
variable {n : Nat} {T : List sm_Sh} {I : sm_MI} {L : sm_ML} {k t : Nat}
set_option maxRecDepth 100000 in
theorem k_AColl (hk : T[k]? = some (.inr (0, [.int 0, .null, .int 0]))) : sm_Call (n + 2) 0 0 mJxa1e45_init_da8c8 T I L [.ref k] (kCt T I L k (.inr (0, [.int 0, .null, .int 0])) []) := by
  refine sm_Call.of (by decide +kernel) rfl (fun x hx => ?_)
  suffices h : sm_V x 0 0 (ST T k 0 [.int 0, .null, .int 0] []) I L 0 [some (.ref k)] [] by rw [← ST_0 hk] at h; exact h
  exact sm_aload_n (z := k) hx dJxa1e45_init_da8c8_0 rfl (sm_objInit hx dJxa1e45_init_da8c8_1 oi_Jxa1e45_1 oi_2 oi_3 rfl (ct_ret (hx := hx) ZI_0 dJxa1e45_init_da8c8_4 rfl))
set_option maxRecDepth 100000 in
theorem k_AList (hk : T[k]? = some (.inr (0, [.int 0, .null, .int 0]))) (hI : I k = fun _ => 0) : sm_Call (n + 3) 0 0 mJxc12de_init_da8c8 T I L [.ref k] (kCt T I L k (.inr (0, [.int 0, .null, .int 0])) []) := by
  have hkl := lt_of hk
  refine sm_Call.of (by decide +kernel) rfl (fun x hx => ?_)
  show sm_V x 0 0 T I L 0 [some (.ref k)] []
  refine sm_aload_n (z := k) hx dJxc12de_init_da8c8_0 rfl (sm_callI (args := []) (k := k) (bc' := 0) (bs' := 0) hx dJxc12de_init_da8c8_1 li_Jxc12de_1 rfl rfl rfl (by omega) (by omega) (k_AColl (n := n) hk) (fun v T2 I2 L2 q => ?_))
  obtain ⟨rfl, rfl, a1, -⟩ := q
  show sm_V x 0 0 (ST T k 0 [.int 0, .null, .int 0] []) I2 L2 4 [some (.ref k)] []
  refine pInt (m := 0) (pc := 4) (j := 0) hx hkl (ZI_c a1) hI rfl dJxc12de_init_da8c8_4 dJxc12de_init_da8c8_5 dJxc12de_init_da8c8_6 fl_Jxc12de_7_0 rfl ?_
  exact ct_ret (hx := hx) (ZI_c a1) dJxc12de_init_da8c8_9 rfl
set_option maxRecDepth 100000 in
theorem k_List (hk : T[k]? = some (.inr (0, [.int 0, .null, .int 0]))) (hI : I k = fun _ => 0) : sm_Call (n + 4) 0 0 mJx4a65c_init_da8c8 T I L [.ref k] (kCt T I L k (oLst 1000020) []) := by
  have hkl := lt_of hk
  refine sm_Call.of (by decide +kernel) rfl (fun x hx => ?_)
  show sm_V x 0 0 T I L 0 [some (.ref k)] []
  refine sm_aload_n (z := k) hx dJx4a65c_init_da8c8_0 rfl (sm_callI (args := []) (k := k) (bc' := 0) (bs' := 0) hx dJx4a65c_init_da8c8_1 li_Jx4a65c_1 rfl rfl rfl (by omega) (by omega) (k_AList (n := n) hk hI) (fun v T2 I2 L2 q => ?_))
  obtain ⟨rfl, rfl, a1, -⟩ := q
  show sm_V x 0 0 (ST T k 0 [.int 0, .null, .int 0] []) I2 L2 4 [some (.ref k)] []
  refine sm_aload_n (z := k) hx dJx4a65c_init_da8c8_4 rfl (sm_getsO hx dJx4a65c_init_da8c8_5 gs_Jx4a65c_39 (sm_putR hx dJx4a65c_init_da8c8_8 fl_Jx4a65c_9_0 rfl (ST_k hkl) (by show 1 < 3; decide) ?_))
  have e := ST_set (T0 := T) (k := k) (ci := 0) (fs := [.int 0, .null, .int 0]) (l := []) (fs' := [.int 0, .ref 1000020, .int 0]) (r := []) hkl
  rw [List.append_nil, List.append_nil] at e
  show sm_V x 0 0 ((ST T k 0 [.int 0, .null, .int 0] []).set k (.inr (0, [.int 0, .ref 1000020, .int 0]))) I2 L2 11 _ []
  rw [e]
  exact ct_ret (hx := hx) (ZI_c a1) dJx4a65c_init_da8c8_11 rfl
end
section
variable {x : sm_Cx} {md md' : sm_MD} {n : Nat} {K : sm_K} {bc bs bc' bs' : Nat} {T : List sm_Sh} {I : sm_MI} {L : sm_ML} {pc : Nat} {ls : List (Option Value)} {st : List Value}
/-- a new object whose constructor asks nothing, its reference on the stack -/
theorem nObj {i1 i2 ci N : Nat} {C : String} {Tt : u_T} {ty : Nat → FieldType} {fs : List Value} {fin : sm_Sh} {nw : List sm_Sh} (hx : sm_Ok x md (n + 1) K) (dn : decode md.2.1 pc = .ok (.new i1, 3)) (hC : sm_CF ci C Tt N ty) (kc : Cond.classLink md.1.cls i1 C ∈ lw_tbl) (hin : Cond.instantiable C N ∈ lw_tbl) (hic : Cond.initialized C ∈ lw_tbl) (hfs : ∀ j, j < N → defaultValue (ty j) = vp_V fs j) (hdf : fs.all sm_df = true) (dd : decode md.2.1 (pc + 3) = .ok (.dup, 1)) (di : decode md.2.1 (pc + 4) = .ok (.invokespecial i2, 3)) (li : sm_LI md.1.cls i2 md' 0) (hl : T.length + 1 < 1000000) (hb : 1 + bc' ≤ bc) (hs : N + bs' ≤ bs) (hcat : Nat.ble (((.ref T.length :: st : List Value).map fun v => v.category).sum) 8 = true)
    (hc : ∀ I L, I T.length = (fun _ => 0) → L T.length = (fun _ => 0) → sm_Call n bc' bs' md' (T ++ [.inr (ci, fs)]) I L [.ref T.length] (kCt (T ++ [.inr (ci, fs)]) I L T.length fin nw))
    (kk : ∀ I' L', (∀ j, j < T.length → I' j = I j ∧ L' j = L j) → (∀ j, T.length ≤ j → j < T.length + (nw.length + 1) → I' j = (fun _ => 0) ∧ L' j = fun _ => 0) → sm_V x (bc - 1 - bc') (bs - N - bs') (T ++ fin :: nw) I' L' (pc + 4 + 3) ls (.ref T.length :: st)) : sm_V x bc bs T I L pc ls st := by
  refine sm_new (ci := ci) (N := N) (C := C) (Tt := Tt) (ty := ty) (fs := fs) hx dn hC kc hin hic hfs hdf hl (by omega) (by omega) ?_
  refine sm_dup hx dd rfl ?_
  have l1 : (T ++ [(.inr (ci, fs) : sm_Sh)]).length = T.length + 1 := by rw [List.length_append]; rfl
  refine sm_callI (args := []) (k := T.length) (bc' := bc') (bs' := bs') hx di li rfl rfl hcat (by omega) (by omega) (hc _ _ (sm_zI_at _ _) (sm_zL_at _ _)) (fun v T2 I2 L2 q => ?_)
  obtain ⟨rfl, rfl, a1, a2⟩ := q
  rw [l1] at a1 a2
  rw [set_last, List.append_assoc]
  refine kk I2 L2 (fun j hj => ?_) (fun j h1 h2 => ?_)
  · obtain ⟨b1, b2⟩ := a1 j (by omega)
    exact ⟨b1.trans (sm_zI_ne (by omega)), b2.trans (sm_zL_ne (by omega))⟩
  · rcases Nat.eq_or_lt_of_le h1 with e | e
    · subst e
      obtain ⟨b1, b2⟩ := a1 T.length (by omega)
      exact ⟨b1.trans (sm_zI_at _ _), b2.trans (sm_zL_at _ _)⟩
    · exact a2 j (by omega) (by omega)
end
