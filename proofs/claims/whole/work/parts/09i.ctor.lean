/-! ===== constructors: a field made, in place ===== -/
/-- within a constructor of the cell k: its fields so far, the cells behind -/
abbrev ST (T0 : List sm_Sh) (k ci : Nat) (fs : List Value) (l : List sm_Sh) : List sm_Sh := T0.set k (.inr (ci, fs)) ++ l
def ZI (T0 : List sm_Sh) (I0 : sm_MI) (L0 : sm_ML) (m : Nat) (I : sm_MI) (L : sm_ML) : Prop := (∀ j, j < T0.length → I j = I0 j ∧ L j = L0 j) ∧ ∀ j, T0.length ≤ j → j < T0.length + m → I j = (fun _ => 0) ∧ L j = fun _ => 0
theorem uI_z {I : sm_MI} {k j : Nat} (h : I k j = 0) : sm_uI I k j 0 = I := by
  funext a b
  unfold sm_uI
  by_cases e : a = k
  · by_cases e2 : b = j
    · subst e; subst e2; rw [if_pos rfl, if_pos rfl, h]
    · rw [if_pos e, if_neg e2]
  · rw [if_neg e]
section
variable {x : sm_Cx} {md : sm_MD} {n : Nat} {K : sm_K} {bc bs : Nat} {T0 : List sm_Sh} {I0 I : sm_MI} {L0 L : sm_ML} {pc pc5 k ci m : Nat} {fs : List Value} {l : List sm_Sh} {ls : List (Option Value)} {st : List Value}
theorem ST_len : (ST T0 k ci fs l).length = T0.length + l.length := by rw [List.length_append, List.length_set]
theorem ST_k (hk : k < T0.length) : (ST T0 k ci fs l)[k]? = some (.inr (ci, fs)) := by
  rw [List.getElem?_append_left (by rw [List.length_set]; exact hk)]
  exact List.getElem?_set_self hk
theorem ST_set (hk : k < T0.length) {fs' : List Value} {r : List sm_Sh} : (ST T0 k ci fs l ++ r).set k (.inr (ci, fs')) = ST T0 k ci fs' (l ++ r) := by
  unfold ST
  rw [List.append_assoc, set_app (by rw [List.length_set]; exact hk), List.set_set]
theorem ST_0 (h : T0[k]? = some (.inr (ci, fs))) : T0 = ST T0 k ci fs [] := by
  unfold ST
  rw [List.append_nil]
  apply List.ext_getElem?
  intro j
  by_cases e : j = k
  · subst e; rw [List.getElem?_set_self (lt_of h)]; exact h
  · rw [List.getElem?_set_ne (fun z => e z.symm)]
/-- this, a new Row of m noughts, its reference put into the field j -/
theorem pRow {i1 i2 i3 j : Nat} {ty : FieldType} (hx : sm_Ok x md (n + 2) K) (hk : k < T0.length) (hZ : ZI T0 I0 L0 l.length I L) (h0 : ls[0]? = some (some (.ref k))) (da : decode md.2.1 pc = .ok (.aload_n 0, 1)) (dn : decode md.2.1 (pc + 1) = .ok (.new i1, 3)) (kc : Cond.classLink md.1.cls i1 RX3 ∈ lw_tbl) (dd : decode md.2.1 (pc + 1 + 3) = .ok (.dup, 1)) (push : ∀ (bc bs : Nat) (T : List sm_Sh) (I : sm_MI) (L : sm_ML) (st : List Value), sm_V x bc bs T I L pc5 ls (.int (nI m) :: st) → sm_V x bc bs T I L (pc + 1 + 4) ls st) (di : decode md.2.1 pc5 = .ok (.invokespecial i2, 3)) (li : sm_LI md.1.cls i2 mX3_init 1) (dp : decode md.2.1 (pc5 + 3) = .ok (.putfield i3, 3)) (lk : sm_FLf md.1.cls i3 ci j ty) (hini : md.1.name = "<init>") (ht : ty.isReference = true) (hj : j < fs.length) (hm : m ≤ 3000) (hl : T0.length + l.length + 2 < 1000000) (hb : 2 ≤ bc) (hs : m + 1 ≤ bs) (hst : st = [])
    (kk : ∀ I' L', ZI T0 I0 L0 (l.length + 2) I' L' → sm_V x (bc - 2) (bs - (m + 1)) (ST T0 k ci (fs.set j (.ref (T0.length + l.length))) (l ++ [.inr (3, [.ref (T0.length + l.length + 1)]), .inl (.int, m, [])])) I' L' (pc5 + 3 + 3) ls []) : sm_V x bc bs (ST T0 k ci fs l) I L pc ls st := by
  subst hst
  have hlen : (ST T0 k ci fs l).length = T0.length + l.length := ST_len
  refine sm_aload_n (z := k) hx da h0 (nRow (n := n) hx dn kc dd push di li hm (by omega) hb hs rfl (fun I' L' z1 z2 => ?_))
  rw [hlen] at z1 z2 ⊢
  have hk2 : (ST T0 k ci fs l ++ [.inr (3, [.ref (T0.length + l.length + 1)]), .inl (.int, m, [])])[k]? = some (.inr (ci, fs)) := by
    rw [List.getElem?_append_left (by omega)]; exact ST_k hk
  refine sm_putFR hx dp lk hini ht hk2 hj ?_
  rw [ST_set hk]
  refine kk I' L' ⟨fun j hj => ?_, fun j h1 h2 => ?_⟩
  · obtain ⟨b1, b2⟩ := z1 j (by omega)
    obtain ⟨c1, c2⟩ := hZ.1 j hj
    exact ⟨b1.trans c1, b2.trans c2⟩
  · rcases Nat.lt_or_ge j (T0.length + l.length) with e | e
    · obtain ⟨b1, b2⟩ := z1 j e
      obtain ⟨c1, c2⟩ := hZ.2 j h1 e
      exact ⟨b1.trans c1, b2.trans c2⟩
    · exact z2 j e (by omega)
/-- this, a nought put into an int field -/
theorem pInt {i3 j : Nat} {z : Int32} (hx : sm_Ok x md n K) (hk : k < T0.length) (hZ : ZI T0 I0 L0 m I L) (hI : I0 k = fun _ => 0) (h0 : ls[0]? = some (some (.ref k))) (da : decode md.2.1 pc = .ok (.aload_n 0, 1)) (dc : decode md.2.1 (pc + 1) = .ok (.iconst 0, 1)) (dp : decode md.2.1 (pc + 1 + 1) = .ok (.putfield i3, 3)) (lk : sm_FLk md.1.cls i3 ci j .int false) (hf : fs[j]? = some (.int z)) (kk : sm_V x bc bs (ST T0 k ci fs l) I L (pc + 1 + 1 + 3) ls []) : sm_V x bc bs (ST T0 k ci fs l) I L pc ls [] := by
  refine sm_aload_n (z := k) hx da h0 (sm_iconst (v := 0) hx dc sm_kc_0 (sm_putI hx dp lk (ST_k hk) hf ?_))
  rw [uI_z (by rw [(hZ.1 k hk).1, hI])]
  exact kk
theorem ZI_0 {T0 : List sm_Sh} {I : sm_MI} {L : sm_ML} : ZI T0 I L 0 I L := ⟨fun j _ => ⟨rfl, rfl⟩, fun j h1 h2 => absurd h2 (by omega)⟩
theorem ct_ret {hx : sm_Ok x md n (kCt T0 I0 L0 k (.inr (ci, fs)) l)} (hZ : ZI T0 I0 L0 l.length I L) (hd : decode md.2.1 pc = .ok (.return_, 1)) (hr : md.2.2.2 = none) : sm_V x bc bs (ST T0 k ci fs l) I L pc ls [] := sm_vret hx hd hr ⟨rfl, rfl, hZ.1, hZ.2⟩
end
