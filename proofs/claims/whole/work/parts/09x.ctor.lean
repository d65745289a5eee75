section
variable {x : sm_Cx} {md : sm_MD} {n : Nat} {K : sm_K} {bc bs : Nat} {T0 : List sm_Sh} {I0 I : sm_MI} {L0 L : sm_ML} {pc pc2 k ci m : Nat} {fs : List Value} {l : List sm_Sh} {ls : List (Option Value)}
theorem ZI_a (hZ : ZI T0 I0 L0 l.length I L) : ZI T0 I0 L0 (l.length + 1) (sm_zI I (T0.length + l.length)) (sm_zL L (T0.length + l.length)) := by
  refine ⟨fun j hj => ?_, fun j h1 h2 => ?_⟩
  · obtain ⟨c1, c2⟩ := hZ.1 j hj
    exact ⟨(sm_zI_ne (by omega)).trans c1, (sm_zL_ne (by omega)).trans c2⟩
  · rcases Nat.lt_or_ge j (T0.length + l.length) with c | c
    · obtain ⟨c1, c2⟩ := hZ.2 j h1 c
      exact ⟨(sm_zI_ne (by omega)).trans c1, (sm_zL_ne (by omega)).trans c2⟩
    · have : j = T0.length + l.length := by omega
      subst this
      exact ⟨sm_zI_at _ _, sm_zL_at _ _⟩
/-- this, a new array of m noughts, its reference put into the field j -/
theorem pArr {i3 j : Nat} {ty : FieldType} (hx : sm_Ok x md n K) (hk : k < T0.length) (hZ : ZI T0 I0 L0 l.length I L) (h0 : ls[0]? = some (some (.ref k))) (da : decode md.2.1 pc = .ok (.aload_n 0, 1)) (push : ∀ (bc bs : Nat) (T : List sm_Sh) (I : sm_MI) (L : sm_ML) (a : Nat), sm_V x bc bs T I L pc2 ls [.int (nI m), .ref a] → sm_V x bc bs T I L (pc + 1) ls [.ref a]) (dn : decode md.2.1 pc2 = .ok (.newarray .int, 2)) (dp : decode md.2.1 (pc2 + 2) = .ok (.putfield i3, 3)) (lk : sm_FLf md.1.cls i3 ci j ty) (hini : md.1.name = "<init>") (ht : ty.isReference = true) (hj : j < fs.length) (hm : m ≤ 3000) (hl : T0.length + l.length + 1 < 1000000) (hb : 1 ≤ bc) (hs : m ≤ bs)
    (kk : ∀ I' L', ZI T0 I0 L0 (l.length + 1) I' L' → sm_V x (bc - 1) (bs - m) (ST T0 k ci (fs.set j (.ref (T0.length + l.length))) (l ++ [.inl (.int, m, [])])) I' L' (pc2 + 2 + 3) ls []) : sm_V x bc bs (ST T0 k ci fs l) I L pc ls [] := by
  have hlen : (ST T0 k ci fs l).length = T0.length + l.length := ST_len
  refine sm_aload_n (z := k) hx da h0 (push _ _ _ _ _ _ (sm_newaI (m := m) hx dn aq_int (nI_pos (by omega)) (nI_clamp (by omega)) (by omega) (by omega) hb hs ?_))
  rw [hlen]
  have hk2 : (ST T0 k ci fs l ++ [.inl (.int, m, [])])[k]? = some (.inr (ci, fs)) := by
    rw [List.getElem?_append_left (by omega)]; exact ST_k hk
  refine sm_putFR hx dp lk hini ht hk2 hj ?_
  rw [ST_set hk]
  exact kk _ _ (ZI_a hZ)
end
