/-! BASE 6. Cells that are made, references stored into arrays, casts, constants of text, cells outside. -/
def sm_df : Value → Bool
  | .int z => decide (z = 0)
  | .long z => decide (z = 0)
  | .null => true
  | _ => false
theorem sm_df_fv {σ : Nat → Nat} {I : sm_MI} {L : sm_ML} {k : Nat} {fs : List Value} (h : fs.all sm_df = true) : fs.mapIdx (fun j v => sm_fv σ (sm_zI I k) (sm_zL L k) k j v) = fs := by
  apply List.ext_getElem?
  intro j
  rw [List.getElem?_mapIdx]
  cases hj : fs[j]? with
  | none => rfl
  | some v =>
    have hv := List.all_eq_true.mp h v (List.mem_of_getElem? hj)
    cases v with
    | int z => simp only [sm_df, decide_eq_true_eq] at hv; simp [sm_fv, sm_zI, hv]
    | long z => simp only [sm_df, decide_eq_true_eq] at hv; simp [sm_fv, sm_zL, hv]
    | null => rfl
    | _ => cases hv
theorem sm_df_ok {n : Nat} {fs : List Value} (h : fs.all sm_df = true) : fs.all (sm_ok n) = true := List.all_eq_true.mpr fun v hv => by
  have := List.all_eq_true.mp h v hv
  cases v <;> first | rfl | cases this
theorem sm_zI_at (I : sm_MI) (k : Nat) : sm_zI I k k = fun _ => 0 := by funext b; simp [sm_zI]
theorem sm_zL_at (L : sm_ML) (k : Nat) : sm_zL L k k = fun _ => 0 := by funext b; simp [sm_zL]
def sm_nw (σ : Nat → Nat) (n q : Nat) : Nat → Nat := fun k => if k = n then q else σ k
theorem sm_nw_agr {σ : Nat → Nat} {n q : Nat} (hn : n < 1000000) : sm_agr n (sm_nw σ n q) σ := fun k hk => by
  have : k ≠ n := by omega
  simp [sm_nw, this]
section SmAlloc
variable {x : sm_Cx} {md : sm_MD} {n : Nat} {K : sm_K} {bc bs : Nat} {T : List sm_Sh} {I : sm_MI} {L : sm_ML} {pc : Nat} {ls : List (Option Value)} {st : List Value} {idx : Nat}
/-- a new cell behind the others -/
theorem sm_cn_new {cA : FieldType → ClassId} {σ : Nat → Nat} {q : Nat} {sh : sm_Sh} (hT : sm_okT T.length T = true) (hn : T.length < 1000000) : sm_cn cA (sm_nw σ T.length q) (sm_zI I T.length) (sm_zL L T.length) 0 (T ++ [sh]) = sm_cn cA σ I L 0 T ++ [(q, sm_ce cA (sm_nw σ T.length q) (sm_zI I T.length) (sm_zL L T.length) T.length sh)] := by
  rw [sm_cn_snoc, Nat.zero_add]
  have e1 : sm_cn cA (sm_nw σ T.length q) (sm_zI I T.length) (sm_zL L T.length) 0 T = sm_cn cA σ I L 0 T := by
    refine sm_cn_congr (fun k hk => sm_nw_agr hn k (Or.inl hk)) fun k s hk => ?_
    have hlt := (List.getElem?_eq_some_iff.mp hk).1
    rw [sm_ce_mem (I := I) (L := L) (sm_zI_ne (Nat.ne_of_lt hlt)) (sm_zL_ne (Nat.ne_of_lt hlt))]
    exact sm_ce_agr (sm_nw_agr hn) (List.all_eq_true.mp hT s (List.mem_of_getElem? hk))
  rw [e1, show sm_nw σ T.length q T.length = q by simp [sm_nw]]
theorem sm_H.new {σ : Nat → Nat} {H H1 : Heap} {locs : List Loc} {q : Nat} {sh : sm_Sh} {e : va_E} (hH : sm_H x σ T I L H locs) (hn : T.length + 1 < 1000000) (hs : sm_okS (T.length + 1) sh = true) (he : sm_ce (sm_xC x) (sm_nw σ T.length q) (sm_zI I T.length) (sm_zL L T.length) T.length sh = e) (h1 : va_P (sm_xD x) vwCl (sm_cn (sm_xC x) σ I L 0 T ++ [(q, e)]) H1) (h2 : va_D (sm_xA x) (sm_cn (sm_xC x) σ I L 0 T ++ [(q, e)])) (h3 : va_S (sm_xA x) (sm_xs x).heap H1 locs) : sm_H x (sm_nw σ T.length q) (T ++ [sh]) (sm_zI I T.length) (sm_zL L T.length) H1 locs := by
  subst he
  have e1 := sm_cn_new (I := I) (L := L) (cA := sm_xC x) (σ := σ) (q := q) (sh := sh) hH.2.2.2.1 hH.2.2.2.2.2.1
  have hlen : (T ++ [sh]).length = T.length + 1 := by simp
  refine ⟨by rw [e1]; exact h1, by rw [e1]; exact h2, h3, ?_, by rw [hlen]; exact Nat.le_succ_of_le hH.2.2.2.2.1, by rw [hlen]; exact hn, (sm_nw_agr hH.2.2.2.2.2.1).trans hH.2.2.2.2.2.2 hH.2.2.2.2.1⟩
  rw [hlen]
  refine List.all_eq_true.mpr fun z hz => ?_
  rcases List.mem_append.mp hz with h | h
  · exact sm_okS_mono (Nat.le_succ _) (List.all_eq_true.mp hH.2.2.2.1 z h)
  · rw [List.mem_singleton.mp h]; exact hs
theorem sm_V.new {σ : Nat → Nat} {H H1 : Heap} {locs : List Loc} {cells slots : Nat} {la : Array Slot} {q a b nx : Nat} {sh : sm_Sh} {e : va_E} (hH : sm_H x σ T I L H locs) (hP : sm_PL σ la (sm_xc x).maxLocals ls) (hls : ls.all (sm_okO T.length) = true) (hst : st.all (sm_ok T.length) = true) (hc : cells + bc ≤ (sm_xR x).cells) (hs : slots + bs ≤ (sm_xR x).slots) (ha : a ≤ bc) (hb : b ≤ bs) (hn : T.length + 1 < 1000000) (hsh : sm_okS (T.length + 1) sh = true) (he : sm_ce (sm_xC x) (sm_nw σ T.length q) (sm_zI I T.length) (sm_zL L T.length) T.length sh = e) (h1 : va_P (sm_xD x) vwCl (sm_cn (sm_xC x) σ I L 0 T ++ [(q, e)]) H1) (h2 : va_D (sm_xA x) (sm_cn (sm_xC x) σ I L 0 T ++ [(q, e)])) (h3 : va_S (sm_xA x) (sm_xs x).heap H1 locs)
    (kk : sm_V x (bc - a) (bs - b) (T ++ [sh]) (sm_zI I T.length) (sm_zL L T.length) nx ls (.ref T.length :: st)) : sm_W x H1 locs (cells + a) (slots + b) (F0 (sm_xm x) nx la (.ref q :: st.map (sm_tr σ))) := by
  have hlen : (T ++ [sh]).length = T.length + 1 := by simp
  have hag := sm_nw_agr (σ := σ) (q := q) hH.2.2.2.2.2.1
  have k0 := kk (sm_nw σ T.length q) H1 locs (cells + a) (slots + b) la (sm_H.new hH hn hsh he h1 h2 h3) (hP.agr hag hls) (by rw [hlen]; exact sm_okLO_mono (Nat.le_succ _) hls) (by
    rw [hlen, List.all_cons, Bool.and_eq_true]
    exact ⟨sm_blt' (Or.inl (Nat.lt_succ_self _)), sm_okL_mono (Nat.le_succ _) hst⟩) (by omega) (by omega)
  have em : (Value.ref T.length :: st).map (sm_tr (sm_nw σ T.length q)) = .ref q :: st.map (sm_tr σ) := by
    rw [List.map_cons, sm_trL_agr hag hst]
    simp [sm_tr, sm_nw]
  rw [em] at k0
  exact k0
theorem sm_new {ci N : Nat} {C : String} {Tt : u_T} {ty : Nat → FieldType} {fs : List Value} (hx : sm_Ok x md n K) (hd : decode md.2.1 pc = .ok (.new idx, 3)) (hC : sm_CF ci C Tt N ty) (h1 : Cond.classLink md.1.cls idx C ∈ lw_tbl) (h2 : Cond.instantiable C N ∈ lw_tbl) (h3 : Cond.initialized C ∈ lw_tbl) (hfs : ∀ j, j < N → defaultValue (ty j) = vp_V fs j) (hdf : fs.all sm_df = true) (hn : T.length + 1 < 1000000) (hb : 1 ≤ bc) (hb' : N ≤ bs)
    (kk : sm_V x (bc - 1) (bs - N) (T ++ [.inr (ci, fs)]) (sm_zI I T.length) (sm_zL L T.length) (pc + 3) ls (.ref T.length :: st)) : sm_V x bc bs T I L pc ls st := by
  intro σ H locs cells slots la hH hP hls hst hc hs
  have hTB := hx.2.2.2.2.2.1
  have g1 : cells + 1 ≤ (sm_xR x).cells := by omega
  have g2 : slots + N ≤ (sm_xR x).slots := by omega
  refine va_new (ci := ci) (fs := fs) (C := C) (T := Tt) (N := N) hx.1 hx.2.1 (hC.hts hTB) (fun _ h => h) ty hC.2.1 hx.2.2.2.1 (hTB _ h1 rfl) (hTB _ h2 rfl) (hTB _ h3 rfl) hx.2.2.2.2.2.2.1 hH.1 hH.2.1 hH.2.2.1 hx.2.2.2.2.2.2.2.1 hC.1 hfs g1 g2 hd (fun q H1 p1 p2 p3 => ?_)
  refine sm_V.new hH hP hls hst hc hs hb hb' hn (sh := .inr (ci, fs)) (sm_df_ok hdf) ?_ p1 p2 p3 kk
  show Sum.inr (ci, fs.mapIdx (fun j v => sm_fv _ (sm_zI I T.length) (sm_zL L T.length) T.length j v)) = _
  rw [sm_df_fv hdf]
/-- the class of the arrays of a kind is one -/
theorem sm_arr1 (hx : sm_Ok x md n K) {ty : FieldType} {c : ClassId} (hty : ty = .int ∨ ty = .long ∨ ty = .boolean ∨ ty = .object "java/lang/Object") (h : va_K (sm_xD x) vwCl (sm_tys (sm_xC x) ++ [(c, ty)]) (sm_xs x)) : c = sm_xC x ty := by
  have a1 := (h.2 4 (c, ty) rfl).2
  have k0 := hx.2.2.2.2.2.2.1
  rcases hty with rfl | rfl | rfl | rfl
  · have a2 := (k0.2 0 _ rfl).2
    exact Option.some.inj (a1.symm.trans a2)
  · have a2 := (k0.2 1 _ rfl).2
    exact Option.some.inj (a1.symm.trans a2)
  · have a2 := (k0.2 2 _ rfl).2
    exact Option.some.inj (a1.symm.trans a2)
  · have a2 := (k0.2 3 _ rfl).2
    obtain ⟨_, _, _, _, _, b1⟩ := a1
    obtain ⟨_, _, _, _, _, b2⟩ := a2
    exact Option.some.inj (b1.symm.trans b2)
theorem sm_newaI {z : Int32} {m : Nat} (hx : sm_Ok x md n K) (hd : decode md.2.1 pc = .ok (.newarray .int, 2)) (h1 : Cond.arrayClass .int ∈ lw_tbl) (hz : ¬ z < 0) (hm : z.toNatClampNeg = m) (hby : m ≤ 100000) (hn : T.length + 1 < 1000000) (hb : 1 ≤ bc) (hb' : m ≤ bs)
    (kk : sm_V x (bc - 1) (bs - m) (T ++ [.inl (.int, m, [])]) (sm_zI I T.length) (sm_zL L T.length) (pc + 2) ls (.ref T.length :: st)) : sm_V x bc bs T I L pc ls (.int z :: st) := by
  intro σ H locs cells slots la hH hP hls hst hc hs
  have hTB := hx.2.2.2.2.2.1
  have g1 : cells + 1 ≤ (sm_xR x).cells := by omega
  have g2 : slots + m ≤ (sm_xR x).slots := by omega
  refine va_newa (atype := .int) (a0 := (m, .inl (fun _ => 0))) (ty := .int) hx.1 hx.2.1 (hTB _ h1 rfl) rfl hx.2.2.2.2.2.2.1 hH.1 hH.2.1 hH.2.2.1 hx.2.2.2.2.2.2.2.1 (fun _ => rfl) hz hm (by show m * 4 ≤ _; omega) g1 g2 hd (fun q c H1 hK p1 p2 p3 => ?_)
  have hcA := sm_arr1 hx (Or.inl rfl) hK
  subst hcA
  exact sm_V.new hH hP hls hst hc hs hb hb' hn (sh := .inl (.int, m, [])) rfl (by simp only [sm_ce, sm_ar, sm_zI_at]) p1 p2 p3 kk
theorem sm_newaZ {z : Int32} {m : Nat} (hx : sm_Ok x md n K) (hd : decode md.2.1 pc = .ok (.newarray .boolean, 2)) (h1 : Cond.arrayClass .boolean ∈ lw_tbl) (hz : ¬ z < 0) (hm : z.toNatClampNeg = m) (hby : m ≤ 100000) (hn : T.length + 1 < 1000000) (hb : 1 ≤ bc) (hb' : m ≤ bs)
    (kk : sm_V x (bc - 1) (bs - m) (T ++ [.inl (.boolean, m, [])]) (sm_zI I T.length) (sm_zL L T.length) (pc + 2) ls (.ref T.length :: st)) : sm_V x bc bs T I L pc ls (.int z :: st) := by
  intro σ H locs cells slots la hH hP hls hst hc hs
  have hTB := hx.2.2.2.2.2.1
  have g1 : cells + 1 ≤ (sm_xR x).cells := by omega
  have g2 : slots + m ≤ (sm_xR x).slots := by omega
  refine va_newa (atype := .boolean) (a0 := (m, .inl (fun _ => 0))) (ty := .boolean) hx.1 hx.2.1 (hTB _ h1 rfl) rfl hx.2.2.2.2.2.2.1 hH.1 hH.2.1 hH.2.2.1 hx.2.2.2.2.2.2.2.1 (fun _ => rfl) hz hm (by show m * 1 ≤ _; omega) g1 g2 hd (fun q c H1 hK p1 p2 p3 => ?_)
  have hcA := sm_arr1 hx (Or.inr (Or.inr (Or.inl rfl))) hK
  subst hcA
  exact sm_V.new hH hP hls hst hc hs hb hb' hn (sh := .inl (.boolean, m, [])) rfl (by simp only [sm_ce, sm_ar, sm_zI_at]) p1 p2 p3 kk
theorem sm_newaL {z : Int32} {m : Nat} (hx : sm_Ok x md n K) (hd : decode md.2.1 pc = .ok (.newarray .long, 2)) (h1 : Cond.arrayClass .long ∈ lw_tbl) (hz : ¬ z < 0) (hm : z.toNatClampNeg = m) (hby : m ≤ 100000) (hn : T.length + 1 < 1000000) (hb : 1 ≤ bc) (hb' : m ≤ bs)
    (kk : sm_V x (bc - 1) (bs - m) (T ++ [.inl (.long, m, [])]) (sm_zI I T.length) (sm_zL L T.length) (pc + 2) ls (.ref T.length :: st)) : sm_V x bc bs T I L pc ls (.int z :: st) := by
  intro σ H locs cells slots la hH hP hls hst hc hs
  have hTB := hx.2.2.2.2.2.1
  have g1 : cells + 1 ≤ (sm_xR x).cells := by omega
  have g2 : slots + m ≤ (sm_xR x).slots := by omega
  refine va_newa (atype := .long) (a0 := (m, .inr (.inl (fun _ => 0)))) (ty := .long) hx.1 hx.2.1 (hTB _ h1 rfl) rfl hx.2.2.2.2.2.2.1 hH.1 hH.2.1 hH.2.2.1 hx.2.2.2.2.2.2.2.1 (fun _ => rfl) hz hm (by show m * 8 ≤ _; omega) g1 g2 hd (fun q c H1 hK p1 p2 p3 => ?_)
  have hcA := sm_arr1 hx (Or.inr (Or.inl rfl)) hK
  subst hcA
  exact sm_V.new hH hP hls hst hc hs hb hb' hn (sh := .inl (.long, m, [])) rfl (by simp only [sm_ce, sm_ar, sm_zL_at]) p1 p2 p3 kk
theorem sm_newaO {z : Int32} {m : Nat} (hx : sm_Ok x md n K) (hd : decode md.2.1 pc = .ok (.anewarray idx, 3)) (h1 : Cond.classLink md.1.cls idx "java/lang/Object" ∈ lw_tbl) (h2 : Cond.arrayOver (.object "java/lang/Object") ∈ lw_tbl) (hz : ¬ z < 0) (hm : z.toNatClampNeg = m) (hby : m ≤ 100000) (hn : T.length + 1 < 1000000) (hb : 1 ≤ bc) (hb' : m ≤ bs)
    (kk : sm_V x (bc - 1) (bs - m) (T ++ [.inl (.object "java/lang/Object", m, List.replicate m none)]) (sm_zI I T.length) (sm_zL L T.length) (pc + 3) ls (.ref T.length :: st)) : sm_V x bc bs T I L pc ls (.int z :: st) := by
  intro σ H locs cells slots la hH hP hls hst hc hs
  have hTB := hx.2.2.2.2.2.1
  have g1 : cells + 1 ≤ (sm_xR x).cells := by omega
  have g2 : slots + m ≤ (sm_xR x).slots := by omega
  refine va_newq (C := "java/lang/Object") hx.1 hx.2.1 hx.2.2.2.1 (hTB _ h1 rfl) ((sm_TB.warm (args' := #[]) (State.WarmedH.refl _) hTB) _ h2 rfl) hx.2.2.2.2.2.2.1 hH.1 hH.2.1 hH.2.2.1 hx.2.2.2.2.2.2.2.1 hz hm (by omega) g1 g2 hd (fun q c H1 hK p1 p2 p3 => ?_)
  have hcA := sm_arr1 hx (Or.inr (Or.inr (Or.inr rfl))) hK
  subst hcA
  refine sm_V.new hH hP hls hst hc hs hb hb' hn (sh := .inl (.object "java/lang/Object", m, List.replicate m none)) ?_ (by
    simp only [sm_ce, sm_ar]
    congr 7
    funext j
    rw [List.getD_eq_getElem?_getD, List.getElem?_replicate]
    split <;> rfl) p1 p2 p3 kk
  exact List.all_eq_true.mpr fun z hz => by rw [(List.mem_replicate.mp hz).2]; rfl
theorem sm_aast {k m v ci : Nat} {r : List (Option Nat)} {i : Int32} {fs : List Value} {C : String} {Tt : u_T} {N : Nat} (hx : sm_Ok x md n K) (hd : decode md.2.1 pc = .ok (.aastore, 1)) (hT : T[k]? = some (.inl (.object "java/lang/Object", m, r))) (hr : r.length = m) (hi : vp_in i m) (hv : T[v]? = some (.inr (ci, fs))) (hC : vwCl[ci]? = some (C, Tt, N)) (hca : Cond.castable C "java/lang/Object" ∈ lw_tbl) (kk : sm_V x bc bs (T.set k (.inl (.object "java/lang/Object", m, r.set i.toNatClampNeg (some v)))) I L (pc + 1) ls st) : sm_V x bc bs T I L pc ls (.ref v :: .int i :: .ref k :: st) := by
  intro σ H locs cells slots la hH hP hls hst hc hs
  simp only [List.all_cons, Bool.and_eq_true] at hst
  have hTB := hx.2.2.2.2.2.1
  have hlt : i.toNatClampNeg < m := Nat.not_le.mp fun q => hi (Or.inr q)
  have e := sm_cn_set (cA := sm_xC x) (σ := σ) (sh' := .inl (.object "java/lang/Object", m, r.set i.toNatClampNeg (some v))) hT (I' := I) (L' := L) (fun j s hj _ => rfl)
  have hf : va_up (fun j => (r.getD j none).map σ) i.toNatClampNeg (some (σ v)) = fun j => ((r.set i.toNatClampNeg (some v)).getD j none).map σ := by
    funext j
    simp only [va_up, List.getD_eq_getElem?_getD, List.getElem?_set]
    by_cases hj : j = i.toNatClampNeg
    · subst hj
      simp [hr, hlt]
    · have : ¬ i.toNatClampNeg = j := fun q => hj q.symm
      simp [hj, this]
  have hce : sm_ce (sm_xC x) σ I L k (.inl (.object "java/lang/Object", m, r.set i.toNatClampNeg (some v))) = .inl (sm_xC x (.object "java/lang/Object"), m, .inr (.inr (.inr (.inr (va_up (fun j => (r.getD j none).map σ) i.toNatClampNeg (some (σ v))))))) := by
    rw [hf]
    rfl
  have hcb : va_Nw (.castable C "java/lang/Object") (sm_xs x) := (sm_TB.warm (args' := #[]) (State.WarmedH.refl _) hTB) _ hca rfl
  refine va_astqO (r := (C, Tt, N)) hx.1 hx.2.1 hx.2.2.2.2.2.2.1 hH.1 hH.2.1 hH.2.2.1 k 3 v ci (sm_cn_at (cA := sm_xC x) (σ := σ) (I := I) (L := L) hT) rfl hcb (sm_cn_at (cA := sm_xC x) (σ := σ) (I := I) (L := L) hv) hC hi hd (fun H1 locs1 h1 h2 h3 => ?_)
  rw [← hce] at h1 h2
  have hlenT : (T.set k (.inl (.object "java/lang/Object", m, r.set i.toNatClampNeg (some v)))).length = T.length := List.length_set
  refine kk σ H1 locs1 cells slots la (sm_H.put hH rfl ?_ e h1 h2 h3) hP (by rw [hlenT]; exact hls) (by rw [hlenT]; exact hst.2.2.2) hc hs
  have h0 : sm_okS T.length (.inl (.object "java/lang/Object", m, r)) = true := List.all_eq_true.mp hH.2.2.2.1 _ (List.mem_of_getElem? hT)
  refine List.all_eq_true.mpr fun z hz => ?_
  rcases List.mem_or_eq_of_mem_set hz with h | h
  · exact List.all_eq_true.mp h0 z h
  · rw [h]; exact hst.1
theorem sm_castS {k ci : Nat} {fs : List Value} {C : String} {Tt : u_T} {N : Nat} (hx : sm_Ok x md n K) (hd : decode md.2.1 pc = .ok (.checkcast idx, 3)) (h1 : Cond.classLink md.1.cls idx C ∈ lw_tbl) (hT : T[k]? = some (.inr (ci, fs))) (hC : vwCl[ci]? = some (C, Tt, N)) (kk : sm_V x bc bs T I L (pc + 3) ls (.ref k :: st)) : sm_V x bc bs T I L pc ls (.ref k :: st) := by
  intro σ H locs cells slots la hH hP hls hst hc hs
  have hTB := hx.2.2.2.2.2.1
  exact va_castE hx.1 hx.2.1 hx.2.2.2.1 (hTB _ h1 rfl) (va_recv hx.2.2.2.2.2.2.1 hH.1 hC (sm_cn_at (cA := sm_xC x) (σ := σ) (I := I) (L := L) hT)) hd (kk σ H locs cells slots la hH hP hls hst hc hs)
theorem sm_castN (hx : sm_Ok x md n K) (hd : decode md.2.1 pc = .ok (.checkcast idx, 3)) (kk : sm_V x bc bs T I L (pc + 3) ls (.null :: st)) : sm_V x bc bs T I L pc ls (.null :: st) := by
  intro σ H locs cells slots la hH hP hls hst hc hs
  exact lv_castN hx.1 hx.2.1 hd (kk σ H locs cells slots la hH hP hls hst hc hs)
end SmAlloc
