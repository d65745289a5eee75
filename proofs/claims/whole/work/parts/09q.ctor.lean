section
variable {x : sm_Cx} {md md' : sm_MD} {n : Nat} {K : sm_K} {bc bs bc' bs' : Nat} {T : List sm_Sh} {I : sm_MI} {L : sm_ML} {pc : Nat} {ls : List (Option Value)} {st : List Value}
/-- a new object whose constructor is given args, its reference on the stack -/
theorem nObjA {pc5 na : Nat} {args : List Value} {i1 i2 ci N : Nat} {C : String} {Tt : u_T} {ty : Nat → FieldType} {fs : List Value} {fin : sm_Sh} {nw : List sm_Sh} (hx : sm_Ok x md (n + 1) K) (dn : decode md.2.1 pc = .ok (.new i1, 3)) (hC : sm_CF ci C Tt N ty) (kc : Cond.classLink md.1.cls i1 C ∈ lw_tbl) (hin : Cond.instantiable C N ∈ lw_tbl) (hic : Cond.initialized C ∈ lw_tbl) (hfs : ∀ j, j < N → defaultValue (ty j) = vp_V fs j) (hdf : fs.all sm_df = true) (dd : decode md.2.1 (pc + 3) = .ok (.dup, 1)) (push : ∀ (I : sm_MI) (L : sm_ML), sm_V x (bc - 1) (bs - N) (T ++ [.inr (ci, fs)]) I L pc5 ls (args.reverse ++ .ref T.length :: .ref T.length :: st) → sm_V x (bc - 1) (bs - N) (T ++ [.inr (ci, fs)]) I L (pc + 4) ls (.ref T.length :: .ref T.length :: st)) (di : decode md.2.1 pc5 = .ok (.invokespecial i2, 3)) (li : sm_LI md.1.cls i2 md' na) (hna : args.length = na) (hl : T.length + 1 < 1000000) (hb : 1 + bc' ≤ bc) (hs : N + bs' ≤ bs) (hcat : Nat.ble (((.ref T.length :: st : List Value).map fun v => v.category).sum) 8 = true)
    (hc : ∀ I L, I T.length = (fun _ => 0) → L T.length = (fun _ => 0) → sm_Call n bc' bs' md' (T ++ [.inr (ci, fs)]) I L (.ref T.length :: args) (kCt (T ++ [.inr (ci, fs)]) I L T.length fin nw))
    (kk : ∀ I' L', (∀ j, j < T.length → I' j = I j ∧ L' j = L j) → (∀ j, T.length ≤ j → j < T.length + (nw.length + 1) → I' j = (fun _ => 0) ∧ L' j = fun _ => 0) → sm_V x (bc - 1 - bc') (bs - N - bs') (T ++ fin :: nw) I' L' (pc5 + 3) ls (.ref T.length :: st)) : sm_V x bc bs T I L pc ls st := by
  refine sm_new (ci := ci) (N := N) (C := C) (Tt := Tt) (ty := ty) (fs := fs) hx dn hC kc hin hic hfs hdf hl (by omega) (by omega) ?_
  refine sm_dup hx dd rfl (push _ _ ?_)
  have l1 : (T ++ [(.inr (ci, fs) : sm_Sh)]).length = T.length + 1 := by rw [List.length_append]; rfl
  refine sm_callI (args := args) (k := T.length) (bc' := bc') (bs' := bs') hx di li rfl hna hcat (by omega) (by omega) (hc _ _ (sm_zI_at _ _) (sm_zL_at _ _)) (fun v T2 I2 L2 q => ?_)
  obtain ⟨rfl, rfl, a1, a2⟩ := q
  rw [l1] at a1 a2
  rw [set_last, List.append_assoc]
  refine kk I2 L2 (fun j hj => ?_) (fun j h1 h2 => ?_)
  · obtain ⟨b1, b2⟩ := a1 j (by omega)
    exact ⟨b1.trans (sm_zI_ne (by omega)), b2.trans (sm_zL_ne (by omega))⟩
  · rcases Nat.eq_or_lt_of_le h1 with e | e
    · subst e
      obtain ⟨b1, b2⟩ := a1 T.length (by omega)
      exact ⟨b1.trans (sm_zI_at _ _), b2.trans (sm_zL_at _ _)⟩
    · exact a2 j (by omega) (by omega)
end
section
variable {x : sm_Cx} {md md' : sm_MD} {n : Nat} {K : sm_K} {bc bs bc' bs' : Nat} {T0 T : List sm_Sh} {I0 I : sm_MI} {L0 L : sm_ML} {pc pc5 k ci m : Nat} {fs : List Value} {l : List sm_Sh} {ls : List (Option Value)} {st : List Value}
/-- this, a new object whose constructor is given args, its reference put into the field j -/
theorem pObjA {na : Nat} {args : List Value} {i1 i2 i3 j c2 N : Nat} {C : String} {Tt : u_T} {ty2 : Nat → FieldType} {fs2 : List Value} {fin : sm_Sh} {nw : List sm_Sh} {ty : FieldType} (hx : sm_Ok x md (n + 1) K) (hk : k < T0.length) (hZ : ZI T0 I0 L0 l.length I L) (h0 : ls[0]? = some (some (.ref k))) (da : decode md.2.1 pc = .ok (.aload_n 0, 1)) (dn : decode md.2.1 (pc + 1) = .ok (.new i1, 3)) (hC : sm_CF c2 C Tt N ty2) (kc : Cond.classLink md.1.cls i1 C ∈ lw_tbl) (hin : Cond.instantiable C N ∈ lw_tbl) (hic : Cond.initialized C ∈ lw_tbl) (hfs : ∀ j, j < N → defaultValue (ty2 j) = vp_V fs2 j) (hdf : fs2.all sm_df = true) (dd : decode md.2.1 (pc + 1 + 3) = .ok (.dup, 1)) (push : ∀ (r : Nat) (I : sm_MI) (L : sm_ML), r = T0.length + l.length → sm_V x (bc - 1) (bs - N) (ST T0 k ci fs l ++ [.inr (c2, fs2)]) I L pc5 ls (args.reverse ++ [.ref r, .ref r, .ref k]) → sm_V x (bc - 1) (bs - N) (ST T0 k ci fs l ++ [.inr (c2, fs2)]) I L (pc + 1 + 4) ls [.ref r, .ref r, .ref k]) (di : decode md.2.1 pc5 = .ok (.invokespecial i2, 3)) (li : sm_LI md.1.cls i2 md' na) (hna : args.length = na) (dp : decode md.2.1 (pc5 + 3) = .ok (.putfield i3, 3)) (lk : sm_FLf md.1.cls i3 ci j ty) (hini : md.1.name = "<init>") (ht : ty.isReference = true) (hj : j < fs.length) (hl : T0.length + l.length + 1 < 1000000) (hb : 1 + bc' ≤ bc) (hs : N + bs' ≤ bs)
    (hc : ∀ (T : List sm_Sh) I L, T.length = T0.length + l.length → I T.length = (fun _ => 0) → L T.length = (fun _ => 0) → sm_Call n bc' bs' md' (T ++ [.inr (c2, fs2)]) I L (.ref T.length :: args) (kCt (T ++ [.inr (c2, fs2)]) I L T.length fin nw))
    (kk : ∀ I' L', ZI T0 I0 L0 (l.length + (nw.length + 1)) I' L' → sm_V x (bc - 1 - bc') (bs - N - bs') (ST T0 k ci (fs.set j (.ref (T0.length + l.length))) (l ++ fin :: nw)) I' L' (pc5 + 3 + 3) ls []) : sm_V x bc bs (ST T0 k ci fs l) I L pc ls [] := by
  have hlen : (ST T0 k ci fs l).length = T0.length + l.length := ST_len
  refine sm_aload_n (z := k) hx da h0 (nObjA (n := n) hx dn hC kc hin hic hfs hdf dd (fun I L h => push _ I L hlen h) di li hna (by omega) hb hs rfl (fun I L => hc _ I L hlen) (fun I' L' z1 z2 => ?_))
  rw [hlen] at z1 z2 ⊢
  have hk2 : (ST T0 k ci fs l ++ fin :: nw)[k]? = some (.inr (ci, fs)) := by
    rw [List.getElem?_append_left (by omega)]; exact ST_k hk
  refine sm_putFR hx dp lk hini ht hk2 hj ?_
  rw [ST_set hk]
  refine kk I' L' ⟨fun j hj => ?_, fun j h1 h2 => ?_⟩
  · obtain ⟨b1, b2⟩ := z1 j (by omega)
    obtain ⟨c1, c2⟩ := hZ.1 j hj
    exact ⟨b1.trans c1, b2.trans c2⟩
  · rcases Nat.lt_or_ge j (T0.length + l.length) with e | e
    · obtain ⟨b1, b2⟩ := z1 j e
      obtain ⟨c1, c2⟩ := hZ.2 j h1 e
      exact ⟨b1.trans c1, b2.trans c2⟩
    · exact z2 j e (by omega)
end
