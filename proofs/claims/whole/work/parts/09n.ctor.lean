section
variable {x : sm_Cx} {md : sm_MD} {n : Nat} {K : sm_K} {bc bs : Nat} {T : List sm_Sh} {I : sm_MI} {L : sm_ML} {pc pc5 : Nat} {ls : List (Option Value)} {st : List Value}
/-- a new Row of m noughts, its reference on the stack -/
theorem nRow2 {m i1 i2 q : Nat} (hx : sm_Ok x md (n + 2) K) (dn : decode md.2.1 pc = .ok (.new i1, 3)) (kc : Cond.classLink md.1.cls i1 RX3 ∈ lw_tbl) (dd : decode md.2.1 (pc + 3) = .ok (.dup, 1)) (push : ∀ (bc bs : Nat) (T : List sm_Sh) (I : sm_MI) (L : sm_ML) (a b c : Nat), sm_V x bc bs T I L pc5 ls [.int (nI m), .ref a, .ref b, .ref c] → sm_V x bc bs T I L (pc + 4) ls [.ref a, .ref b, .ref c]) (di : decode md.2.1 pc5 = .ok (.invokespecial i2, 3)) (li : sm_LI md.1.cls i2 mX3_init 1) (hm : m ≤ 3000) (hl : T.length + 2 < 1000000) (hb : 2 ≤ bc) (hs : m + 1 ≤ bs) (hcat : Nat.ble (((.ref T.length :: [.ref q] : List Value).map fun v => v.category).sum) 8 = true)
    (kk : ∀ I' L', (∀ j, j < T.length → I' j = I j ∧ L' j = L j) → (∀ j, T.length ≤ j → j < T.length + 2 → I' j = (fun _ => 0) ∧ L' j = fun _ => 0) → sm_V x (bc - 2) (bs - (m + 1)) (T ++ [.inr (3, [.ref (T.length + 1)]), .inl (.int, m, [])]) I' L' (pc5 + 3) ls [.ref T.length, .ref q]) : sm_V x bc bs T I L pc ls [.ref q] := by
  refine sm_new (ci := 3) (N := 1) (C := RX3) (Tt := TX3) (ty := tyX3) (fs := [.null]) hx dn cf_X3 kc in_X3 ic_X3 new3 rfl (by omega) (by omega) (by omega) ?_
  refine sm_dup hx dd rfl (push _ _ _ _ _ _ _ _ ?_)
  have l1 : (T ++ [(.inr (3, [.null]) : sm_Sh)]).length = T.length + 1 := by rw [List.length_append]; rfl
  refine sm_callI (args := [.int (nI m)]) (k := T.length) (bc' := 1) (bs' := m) hx di li rfl rfl hcat (by omega) (by omega) (k_RowC (n := n) (k := T.length) ap_r hm (by omega)) (fun v T2 I2 L2 q => ?_)
  obtain ⟨rfl, rfl, a1, a2⟩ := q
  rw [l1] at a1 a2 ⊢
  rw [set_last, List.append_assoc]
  have e1 : bc - 1 - 1 = bc - 2 := by omega
  have e2 : bs - 1 - m = bs - (m + 1) := by omega
  rw [e1, e2]
  refine kk I2 L2 (fun j hj => ?_) (fun j h1 h2 => ?_)
  · obtain ⟨b1, b2⟩ := a1 j (by omega)
    exact ⟨b1.trans (sm_zI_ne (by omega)), b2.trans (sm_zL_ne (by omega))⟩
  · rcases Nat.eq_or_lt_of_le h1 with e | e
    · subst e
      obtain ⟨b1, b2⟩ := a1 T.length (by omega)
      exact ⟨b1.trans (sm_zI_at _ _), b2.trans (sm_zL_at _ _)⟩
    · have h3 : [(.inl (.int, m, []) : sm_Sh)].length = 1 := rfl
      exact a2 j (by omega) (by rw [h3]; omega)
end
section
variable {x : sm_Cx} {md md' : sm_MD} {n : Nat} {K : sm_K} {bc bs bc' bs' : Nat} {T0 T : List sm_Sh} {I0 I : sm_MI} {L0 L : sm_ML} {pc pc5 k ci m : Nat} {fs : List Value} {l : List sm_Sh} {ls : List (Option Value)} {st : List Value}
/-- this, a new Row of m noughts, its reference put into the field j -/
theorem pRow2 {i1 i2 i3 j : Nat} {ty : FieldType} (hx : sm_Ok x md (n + 2) K) (hk : k < T0.length) (hZ : ZI T0 I0 L0 l.length I L) (h0 : ls[0]? = some (some (.ref k))) (da : decode md.2.1 pc = .ok (.aload_n 0, 1)) (dn : decode md.2.1 (pc + 1) = .ok (.new i1, 3)) (kc : Cond.classLink md.1.cls i1 RX3 ∈ lw_tbl) (dd : decode md.2.1 (pc + 1 + 3) = .ok (.dup, 1)) (push : ∀ (bc bs : Nat) (T : List sm_Sh) (I : sm_MI) (L : sm_ML) (a b c : Nat), sm_V x bc bs T I L pc5 ls [.int (nI m), .ref a, .ref b, .ref c] → sm_V x bc bs T I L (pc + 1 + 4) ls [.ref a, .ref b, .ref c]) (di : decode md.2.1 pc5 = .ok (.invokespecial i2, 3)) (li : sm_LI md.1.cls i2 mX3_init 1) (dp : decode md.2.1 (pc5 + 3) = .ok (.putfield i3, 3)) (lk : sm_FLf md.1.cls i3 ci j ty) (hini : md.1.name = "<init>") (ht : ty.isReference = true) (hj : j < fs.length) (hm : m ≤ 3000) (hl : T0.length + l.length + 2 < 1000000) (hb : 2 ≤ bc) (hs : m + 1 ≤ bs) (hst : st = [])
    (kk : ∀ I' L', ZI T0 I0 L0 (l.length + 2) I' L' → sm_V x (bc - 2) (bs - (m + 1)) (ST T0 k ci (fs.set j (.ref (T0.length + l.length))) (l ++ [.inr (3, [.ref (T0.length + l.length + 1)]), .inl (.int, m, [])])) I' L' (pc5 + 3 + 3) ls []) : sm_V x bc bs (ST T0 k ci fs l) I L pc ls st := by
  subst hst
  have hlen : (ST T0 k ci fs l).length = T0.length + l.length := ST_len
  refine sm_aload_n (z := k) hx da h0 (nRow2 (n := n) hx dn kc dd push di li hm (by omega) hb hs rfl (fun I' L' z1 z2 => ?_))
  rw [hlen] at z1 z2 ⊢
  have hk2 : (ST T0 k ci fs l ++ [.inr (3, [.ref (T0.length + l.length + 1)]), .inl (.int, m, [])])[k]? = some (.inr (ci, fs)) := by
    rw [List.getElem?_append_left (by omega)]; exact ST_k hk
  refine sm_putFR hx dp lk hini ht hk2 hj ?_
  rw [ST_set hk]
  refine kk I' L' ⟨fun j hj => ?_, fun j h1 h2 => ?_⟩
  · obtain ⟨b1, b2⟩ := z1 j (by omega)
    obtain ⟨c1, c2⟩ := hZ.1 j hj
    exact ⟨b1.trans c1, b2.trans c2⟩
  · rcases Nat.lt_or_ge j (T0.length + l.length) with e | e
    · obtain ⟨b1, b2⟩ := z1 j e
      obtain ⟨c1, c2⟩ := hZ.2 j h1 e
      exact ⟨b1.trans c1, b2.trans c2⟩
    · exact z2 j e (by omega)
/-- this, a new object whose constructor asks nothing, its reference put into the field j -/
theorem pObj {i1 i2 i3 j c2 N : Nat} {C : String} {Tt : u_T} {ty2 : Nat → FieldType} {fs2 : List Value} {fin : sm_Sh} {nw : List sm_Sh} {ty : FieldType} (hx : sm_Ok x md (n + 1) K) (hk : k < T0.length) (hZ : ZI T0 I0 L0 l.length I L) (h0 : ls[0]? = some (some (.ref k))) (da : decode md.2.1 pc = .ok (.aload_n 0, 1)) (dn : decode md.2.1 (pc + 1) = .ok (.new i1, 3)) (hC : sm_CF c2 C Tt N ty2) (kc : Cond.classLink md.1.cls i1 C ∈ lw_tbl) (hin : Cond.instantiable C N ∈ lw_tbl) (hic : Cond.initialized C ∈ lw_tbl) (hfs : ∀ j, j < N → defaultValue (ty2 j) = vp_V fs2 j) (hdf : fs2.all sm_df = true) (dd : decode md.2.1 (pc + 1 + 3) = .ok (.dup, 1)) (di : decode md.2.1 (pc + 1 + 4) = .ok (.invokespecial i2, 3)) (li : sm_LI md.1.cls i2 md' 0) (dp : decode md.2.1 (pc + 1 + 4 + 3) = .ok (.putfield i3, 3)) (lk : sm_FLf md.1.cls i3 ci j ty) (hini : md.1.name = "<init>") (ht : ty.isReference = true) (hj : j < fs.length) (hl : T0.length + l.length + 1 < 1000000) (hb : 1 + bc' ≤ bc) (hs : N + bs' ≤ bs)
    (hc : ∀ (T : List sm_Sh) I L, T.length = T0.length + l.length → I T.length = (fun _ => 0) → L T.length = (fun _ => 0) → sm_Call n bc' bs' md' (T ++ [.inr (c2, fs2)]) I L [.ref T.length] (kCt (T ++ [.inr (c2, fs2)]) I L T.length fin nw))
    (kk : ∀ I' L', ZI T0 I0 L0 (l.length + (nw.length + 1)) I' L' → sm_V x (bc - 1 - bc') (bs - N - bs') (ST T0 k ci (fs.set j (.ref (T0.length + l.length))) (l ++ fin :: nw)) I' L' (pc + 1 + 4 + 3 + 3) ls []) : sm_V x bc bs (ST T0 k ci fs l) I L pc ls [] := by
  have hlen : (ST T0 k ci fs l).length = T0.length + l.length := ST_len
  refine sm_aload_n (z := k) hx da h0 (nObj (n := n) hx dn hC kc hin hic hfs hdf dd di li (by omega) hb hs rfl (fun I L => hc _ I L hlen) (fun I' L' z1 z2 => ?_))
  rw [hlen] at z1 z2 ⊢
  have hk2 : (ST T0 k ci fs l ++ fin :: nw)[k]? = some (.inr (ci, fs)) := by
    rw [List.getElem?_append_left (by omega)]; exact ST_k hk
  refine sm_putFR hx dp lk hini ht hk2 hj ?_
  rw [ST_set hk]
  refine kk I' L' ⟨fun j hj => ?_, fun j h1 h2 => ?_⟩
  · obtain ⟨b1, b2⟩ := z1 j (by omega)
    obtain ⟨c1, c2⟩ := hZ.1 j hj
    exact ⟨b1.trans c1, b2.trans c2⟩
  · rcases Nat.lt_or_ge j (T0.length + l.length) with e | e
    · obtain ⟨b1, b2⟩ := z1 j e
      obtain ⟨c1, c2⟩ := hZ.2 j h1 e
      exact ⟨b1.trans c1, b2.trans c2⟩
    · exact z2 j e (by omega)
end
