/-! BASE 4. A method's contract over numbered worlds, and the rules of calls. -/
def sm_rm (n bc bs : Nat) : Room := { frames := n, cells := bc, slots := bs, locals := 60 * n }
def sm_Pc (D : va_G) (cA : FieldType → ClassId) (σ : Nat → Nat) (sz : Nat) (T : List sm_Sh) (I : sm_MI) (L : sm_ML) (args : List Value) : Array Value → State → Prop := va_Pc (args.map (sm_tr σ)) (fun U => U.heap.size = sz ∧ va_P D vwCl (sm_cn cA σ I L 0 T) U.heap ∧ va_D (fun _ => True) (sm_cn cA σ I L 0 T) ∧ va_K D vwCl (sm_tys cA) U ∧ sm_TB #[] U ∧ sm_XF (va_A (sm_cn cA σ I L 0 T) sz) σ U U.heap)
def sm_Qc (D : va_G) (cA : FieldType → ClassId) (σ : Nat → Nat) (sz : Nat) (T : List sm_Sh) (I : sm_MI) (L : sm_ML) (K : sm_K) : Array Value → State → Outcome → State → Prop := fun _ st o t =>
  (∃ (σ' : Nat → Nat) (v : Option Value) (T' : List sm_Sh) (I' : sm_MI) (L' : sm_ML), o = .returned (v.map (sm_tr σ')) ∧ K v T' I' L' ∧ sm_okO T'.length v = true ∧ sm_agr T.length σ' σ ∧ T.length ≤ T'.length ∧ T'.length < 1000000 ∧ sm_okT T'.length T' = true ∧ va_P D vwCl (sm_cn cA σ' I' L' 0 T') t.heap ∧ va_D (va_A (sm_cn cA σ I L 0 T) sz) (sm_cn cA σ' I' L' 0 T')) ∧ va_F (va_A (sm_cn cA σ I L 0 T) sz) st t
/-- THE CONTRACT: md, called with these arguments in this world, with n calls' room and room for bc cells of bs slots, returns; K speaks of the answer and the world behind it -/
def sm_Call (n bc bs : Nat) (md : sm_MD) (T : List sm_Sh) (I : sm_MI) (L : sm_ML) (args : List Value) (K : sm_K) : Prop :=
  ∀ (l : Launch) (D : va_G) (cA : FieldType → ClassId) (σ : Nat → Nat) (sz : Nat), sm_okT T.length T = true → T.length < 1000000 → args.all (sm_ok T.length) = true → Met l md.1 [.code md.1 md.2.1 md.2.2.1 md.2.2.2] (sm_rm n bc bs) (sm_Pc D cA σ sz T I L args) (sm_Qc D cA σ sz T I L K) bc bs (va_A (sm_cn cA σ I L 0 T) sz)
theorem sm_Call.mono {n bc bs : Nat} {md : sm_MD} {T : List sm_Sh} {I : sm_MI} {L : sm_ML} {args : List Value} {K K' : sm_K} (h : sm_Call n bc bs md T I L args K) (hK : ∀ v T' I' L', K v T' I' L' → K' v T' I' L') : sm_Call n bc bs md T I L args K' := by
  intro l D cA σ sz h1 h2 h3 p e
  intro ha hc hk s m a below hf happ hP hT
  obtain ⟨t, o, g1, g2, g3, ⟨⟨⟨σ', v, T', I', L', q1, q2, q3⟩, q4⟩, q5⟩⟩ := h l D cA σ sz h1 h2 h3 p e ha hc hk s m a below hf happ hP hT
  exact ⟨t, o, g1, g2, g3, ⟨⟨⟨σ', v, T', I', L', q1, hK _ _ _ _ q2, q3⟩, q4⟩, q5⟩⟩
theorem sm_blind {D : va_G} {cA : FieldType → ClassId} {σ : Nat → Nat} {sz : Nat} {T : List sm_Sh} {I : sm_MI} {L : sm_ML} {args : List Value} : FrameBlind (sm_Pc D cA σ sz T I L args) := by
  intro a U g mk h
  obtain ⟨h1, h2, h3, h4, h5, h6, h7⟩ := h
  have hW : U.WarmedH (U.calling g mk a).vm := State.WarmedH.refl U
  exact ⟨h1, h2, h3, h4, va_K.moved (u := U) (U := U.calling g mk a) (Vm.Alike.refl U.vm) h5, h6.warm hW, h7.mv hW (fun _ _ _ => rfl) (fun _ h => h) (fun _ _ => rfl)⟩
theorem sm_ofW {l : Launch} {y : MethodName} {ws ws' : List Cond} {rm : Room} {Pc : Array Value → State → Prop} {Qc : Array Value → State → Outcome → State → Prop} {mc ms : Nat} {free : Addr → Prop} {cc : ByteArray} {maxL : Nat} {ret : Option FieldType}
    (hy : plainFor y = true) (hw : ws = Cond.code y cc maxL ret :: ws')
    (body : ∀ p e s m args below meth c s₁, BodyLoose p l y (headSpec ws rm) cc maxL ret e s m args below meth c s₁ → c.maxLocals = maxL → Pc args s →
      W p l e (headSpec ws rm).room s m args below meth c s.heap [] 0 0 (MQ below Qc args s mc ms free) (entryFrame m args maxL)) : Met l y ws rm Pc Qc mc ms free := by
  refine MetFree.of_bodySF (code := cc) (maxLocals := maxL) (ret := ret) hy ?_ ?_
  · intro args s m h hn
    obtain ⟨meth, c, h1, h2, h3, h4, h5, h6, -, -⟩ := Cond.code_spec hn (atoms_spec (ws := ws) h _ (by rw [hw]; exact List.mem_cons_self))
    exact ⟨meth, c, h1, h2, h3, h4, h5, h6⟩
  · intro p e s m args below meth c s₁ B hml hP _
    have hh0 : s₁.heap = s.heap := by rw [B.state]; rfl
    obtain ⟨t, a1, o, b1, b2, b3⟩ := body p e s m args below meth c s₁ B hml hP s₁ hh0 (Stand.of_body B)
    exact ⟨t, o, a1, b1, b2, ⟨b3.1, b3.2⟩⟩
theorem sm_Call.of {n bc bs : Nat} {md : sm_MD} {T : List sm_Sh} {I : sm_MI} {L : sm_ML} {args : List Value} {K : sm_K} (hy : plainFor md.1 = true) (hlen : Nat.ble (sm_exp args).length md.2.2.1 = true) (body : ∀ x : sm_Cx, sm_Ok x md n K → sm_V x bc bs T I L 0 (sm_ent md.2.2.1 args) []) : sm_Call n bc bs md T I L args K := by
  intro l D cA σ sz hT hlt hargs
  refine sm_ofW (cc := md.2.1) (maxL := md.2.2.1) (ret := md.2.2.2) hy rfl ?_
  intro p e s m args' below meth c s₁ B hml hv
  obtain ⟨rfl, hsz, hP, hD0, hK, hTB, hX⟩ := hv
  subst hsz
  have hD : va_D (va_A (sm_cn cA σ I L 0 T) s.heap.size) (sm_cn cA σ I L 0 T) := hD0.self
  have hlocks := B.notSynchronized
  have hr := B.returns
  have hret : ∀ (σ' : Nat → Nat) (H : Heap) (locs : List Loc) (cells slots : Nat) (la : Array Slot) (pc : Nat) (v : Option Value) (T' : List sm_Sh) (I' : sm_MI) (L' : sm_ML), sm_H ((p, l, e, sm_rm n bc bs, s, m, (args.map (sm_tr σ)).toArray, below), (meth, c, MQ below (sm_Qc D cA σ s.heap.size T I L K) (args.map (sm_tr σ)).toArray s bc bs (va_A (sm_cn cA σ I L 0 T) s.heap.size)), (D, cA, va_A (sm_cn cA σ I L 0 T) s.heap.size, σ, T.length)) σ' T' I' L' H locs → cells ≤ bc → slots ≤ bs → sm_okO T'.length v = true → K v T' I' L' → sm_rd md.2.1 pc md.2.2.2 v → W p l e (sm_rm n bc bs) s m (args.map (sm_tr σ)).toArray below meth c H locs cells slots (MQ below (sm_Qc D cA σ s.heap.size T I L K) (args.map (sm_tr σ)).toArray s bc bs (va_A (sm_cn cA σ I L 0 T) s.heap.size)) (F0 m pc la ((v.map (sm_tr σ')).toList)) := by
    intro σ' H locs cells slots la pc v T' I' L' hH hc hs hok hK' hrd
    obtain ⟨g1, g2, g3, g4, g5, g6, g7⟩ := hH
    refine W.widen (k := bc) (n := bs) hc hs ?_
    have hq : ∀ t : State, t.heap = H → s.WarmedH t.vm → sm_Qc D cA σ s.heap.size T I L K (args.map (sm_tr σ)).toArray s (.returned (v.map (sm_tr σ'))) t := fun t ht hW =>
      ⟨⟨σ', v, T', I', L', rfl, hK', hok, g7, g5, g6, g4, by rw [ht]; exact g1, g2⟩, g3.F ht⟩
    cases v with
    | none => exact W.vret B.exec B.bytes (hr.trans hrd.1) hq g3.2.2 hrd.2
    | some v =>
      cases v with
      | int z =>
        obtain ⟨⟨ty, h1, h2⟩, h3⟩ := hrd
        exact W.zret B.exec B.bytes (hr.trans h1) h2 hq g3.2.2 h3
      | long z => exact W.lret B.exec B.bytes (hr.trans hrd.1) hq g3.2.2 hrd.2
      | ref r =>
        obtain ⟨⟨rt, h1, h2⟩, h3⟩ := hrd
        exact W.aret B.exec B.bytes (hr.trans h1) h2 (Or.inr ⟨_, rfl⟩) hq g3.2.2 h3
      | null =>
        obtain ⟨⟨rt, h1, h2⟩, h3⟩ := hrd
        exact W.aret B.exec B.bytes (hr.trans h1) h2 (Or.inl rfl) hq g3.2.2 h3
      | _ => exact hrd.elim
  have hx : sm_Ok ((p, l, e, sm_rm n bc bs, s, m, (args.map (sm_tr σ)).toArray, below), (meth, c, MQ below (sm_Qc D cA σ s.heap.size T I L K) (args.map (sm_tr σ)).toArray s bc bs (va_A (sm_cn cA σ I L 0 T) s.heap.size)), (D, cA, va_A (sm_cn cA σ I L 0 T) s.heap.size, σ, T.length)) md n K :=
    ⟨B.exec, B.bytes, hml, findClass_of_methodNamed B.named, (name_of_methodNamed B.named B.method).1, hTB.warm (State.WarmedH.refl s), hK, fun q h => Or.inr h, hX, Nat.le_refl _, Nat.le_refl _, hret⟩
  have hl : (lg_sl (args.map (sm_tr σ))).length ≤ md.2.2.1 := by rw [sm_sl_len]; exact Nat.le_of_ble_eq_true hlen
  rw [lg_entry_eq]
  have hPL := sm_PL.ent (σ := σ) (args := args) hl
  have hcm : (sm_PL σ ((lg_sl (args.map (sm_tr σ)) ++ List.replicate (md.2.2.1 - (lg_sl (args.map (sm_tr σ))).length) Slot.unset).toArray) c.maxLocals (sm_ent md.2.2.1 args)) := by rw [hml]; exact hPL
  exact body _ hx σ s.heap [] 0 0 _ ⟨hP, hD, va_S.rf, hT, Nat.le_refl _, hlt, sm_agr.rf⟩ hcm (sm_ok_ent hargs) rfl (Nat.le_of_eq (Nat.zero_add _)) (Nat.le_of_eq (Nat.zero_add _))
/-- a callee's facts: its code is there, its class is made, so many arguments -/
def sm_MF (md : sm_MD) (na : Nat) : Prop := Cond.code md.1 md.2.1 md.2.2.1 md.2.2.2 ∈ lw_tbl ∧ Cond.initialized md.1.cls ∈ lw_tbl ∧ (md.1.cls ≠ "java/lang/invoke/MethodHandle" ∧ md.1.cls ≠ "java/lang/invoke/VarHandle") ∧ (parseMethodDescriptor md.1.desc).map (fun d => d.parameters.length) = some na ∧ md.2.2.1 ≤ 41
def sm_LV (own : String) (idx : Nat) (md : sm_MD) (na : Nat) (C : String) : Prop := sm_MF md na ∧ Cond.methodLink own idx md.1 ∈ lw_tbl ∧ Cond.instanceMethod md.1 ∈ lw_tbl ∧ Cond.selects C md.1 md.1 ∈ lw_tbl
def sm_LU (own : String) (idx : Nat) (md : sm_MD) (na : Nat) (C : String) : Prop := ∃ y : MethodName, sm_MF md na ∧ md.1 = ⟨md.1.cls, y.name, y.desc⟩ ∧ Cond.methodLink own idx y ∈ lw_tbl ∧ Cond.sameMethod y.cls md.1.cls y.name y.desc ∈ lw_tbl ∧ Cond.instanceMethod md.1 ∈ lw_tbl ∧ Cond.selects C y md.1 ∈ lw_tbl
def sm_LS (own : String) (idx : Nat) (md : sm_MD) (na : Nat) : Prop := sm_MF md na ∧ (Cond.methodLink own idx md.1 ∈ lw_tbl ∨ ∃ host, Cond.methodLinkNest own idx md.1 host ∈ lw_tbl) ∧ Cond.static md.1 ∈ lw_tbl
def sm_LI (own : String) (idx : Nat) (md : sm_MD) (na : Nat) : Prop := sm_MF md na ∧ (Cond.methodLink own idx md.1 ∈ lw_tbl ∨ ∃ host, Cond.methodLinkNest own idx md.1 host ∈ lw_tbl) ∧ Cond.instanceMethod md.1 ∈ lw_tbl ∧ md.1.name = "<init>" ∧ md.2.2.2 = none
section SmCalls
variable {x : sm_Cx} {md md' : sm_MD} {n : Nat} {K K' : sm_K} {bc bs bc' bs' : Nat} {T : List sm_Sh} {I : sm_MI} {L : sm_ML} {pc : Nat} {ls : List (Option Value)} {st stk args : List Value} {idx na : Nat}
theorem sm_words (hx : sm_Ok x md n K) (hm : Cond.code md'.1 md'.2.1 md'.2.2.1 md'.2.2.2 ∈ lw_tbl) : ∀ w ∈ [Cond.code md'.1 md'.2.1 md'.2.2.1 md'.2.2.2], ∀ (a' : Array Value) (U : State), (sm_xs x).WarmedH U.vm → w.before a' U = true := by
  intro w hw a' U hW
  rw [List.mem_singleton.mp hw]
  exact word_at hW (good_of_word rfl) (hx.2.2.2.2.2.1 _ hm rfl)
theorem sm_free (hx : sm_Ok x md n K) {σ : Nat → Nat} {H : Heap} {locs : List Loc} (hH : sm_H x σ T I L H locs) : ∀ q, va_A (sm_cn (sm_xC x) σ I L 0 T) H.size q → sm_xA x q := by
  intro q h
  rcases h with ⟨k, e, h⟩ | h
  · exact hH.2.1.2 k _ h
  · exact hx.2.2.2.2.2.2.2.1 q (Nat.le_trans hH.2.2.1.1 h)
theorem sm_pre (hx : sm_Ok x md n K) {σ : Nat → Nat} {H : Heap} {locs : List Loc} (hH : sm_H x σ T I L H locs) (all : List Value) : ∀ U : State, U.heap = H → (sm_xs x).WarmedH U.vm → sm_Pc (sm_xD x) (sm_xC x) σ H.size T I L all (all.map (sm_tr σ)).toArray U := by
  intro U hU hW
  refine ⟨rfl, by rw [hU], by rw [hU]; exact hH.1, hH.2.1.weaken (fun _ _ _ _ => trivial), va_K.moved hW.alike hx.2.2.2.2.2.2.1, hx.2.2.2.2.2.1.warm hW, ?_⟩
  rw [hU]
  exact hx.2.2.2.2.2.2.2.2.1.mv hW hH.2.2.1.2.1 (sm_free hx hH) (fun k hk => hH.2.2.2.2.2.2 k (Or.inr hk))
theorem sm_after (hx : sm_Ok x md n K) {σ : Nat → Nat} {H : Heap} {locs : List Loc} {cells slots : Nat} {la : Array Slot} {st0 : List Value} {a : Array Value} (hH : sm_H x σ T I L H locs) (hP : sm_PL σ la (sm_xc x).maxLocals ls) (hls : ls.all (sm_okO T.length) = true) (hst : st.all (sm_ok T.length) = true) (hc : cells + bc ≤ (sm_xR x).cells) (hs : slots + bs ≤ (sm_xR x).slots) (hb : bc' ≤ bc) (hb' : bs' ≤ bs)
    (hr : va_Run x.1.1 x.1.2.1 x.1.2.2.1 x.1.2.2.2.1 x.1.2.2.2.2.1 x.1.2.2.2.2.2.1 x.1.2.2.2.2.2.2.1 x.1.2.2.2.2.2.2.2 x.2.1.1 x.2.1.2.1 H locs cells slots bc' bs' (F0 (sm_xm x) pc la st0) (st.map (sm_tr σ)) (sm_Qc (sm_xD x) (sm_xC x) σ H.size T I L K' a) (va_A (sm_cn (sm_xC x) σ I L 0 T) H.size))
    (kk : ∀ v T' I' L', K' v T' I' L' → sm_V x (bc - bc') (bs - bs') T' I' L' (pc + 3) ls (v.toList ++ st)) : sm_W x H locs cells slots (F0 (sm_xm x) pc la st0) := by
  intro T0 hT0 X
  obtain ⟨v0, st₀, t, T1, L0, h0, X', hL, e1, e2, ⟨⟨σ', v, T', I', L', hv, hK', hok, hagr, hle, hlt, hokT, hP', hD'⟩, hz, hk⟩, stp⟩ := hr T0 hT0 X
  have hv0 : v0 = v.map (sm_tr σ') := Outcome.returned.inj hv
  subst hv0
  rw [h0] at hz hk
  have hF := sm_free hx hH
  have hH' : sm_H x σ' T' I' L' T1.heap (locs ++ L0) := by
    refine ⟨by rw [e1]; exact hP', hD'.weaken (fun k q _ h => hF q.1 h), ⟨Nat.le_trans hH.2.2.1.1 (by rw [e1]; exact hz), fun q h1 h2 => ?_, fun q hq => ?_⟩, hokT, Nat.le_trans hH.2.2.2.2.1 hle, hlt, hagr.trans hH.2.2.2.2.2.2 hH.2.2.2.2.1⟩
    · rw [e1, hk q (Nat.lt_of_lt_of_le h1 hH.2.2.1.1) (fun z => h2 (hF q z))]
      exact hH.2.2.1.2.1 q h1 h2
    · rcases List.mem_append.mp hq with h | h
      · exact hH.2.2.1.2.2 q h
      · exact hF _ (hL q h)
  have hst' : (v.toList ++ st).all (sm_ok T'.length) = true := by
    rw [List.all_append, Bool.and_eq_true]
    refine ⟨?_, sm_okL_mono hle hst⟩
    cases v with
    | none => rfl
    | some v => rw [Option.toList_some, List.all_cons, List.all_nil, Bool.and_true]; exact hok
  have k0 := kk v T' I' L' hK' σ' T1.heap (locs ++ L0) (cells + bc') (slots + bs') la hH' (hP.agr hagr hls) (sm_okLO_mono hle hls) hst' (by omega) (by omega)
  have em : (v.toList ++ st).map (sm_tr σ') = (v.map (sm_tr σ')).toList ++ st.map (sm_tr σ) := by
    rw [List.map_append, sm_trL_agr hagr hst]
    cases v <;> rfl
  rw [em] at k0
  obtain ⟨t2, a1, b1⟩ := k0 T1 rfl X'
  exact ⟨t2, stp t2 a1, b1⟩
theorem sm_catb {st : List Value} {σ : Nat → Nat} (h : Nat.ble ((st.map fun v => v.category).sum) 8 = true) : ((st.map (sm_tr σ)).map fun v => v.category).sum ≤ 8 := by
  rw [List.map_map, show ((fun v : Value => v.category) ∘ sm_tr σ) = fun v => v.category from funext fun v => sm_tr_cat σ v]
  exact Nat.le_of_ble_eq_true h
theorem sm_callV {k ci : Nat} {fs : List Value} {C : String} {Tt : u_T} {N : Nat} (hx : sm_Ok x md (n + 1) K) (hd : decode md.2.1 pc = .ok (.invokevirtual idx, 3)) (lk : sm_LV md.1.cls idx md' na C) (hstk : stk = args.reverse ++ .ref k :: st) (hna : args.length = na) (hT : T[k]? = some (.inr (ci, fs))) (hC : vwCl[ci]? = some (C, Tt, N)) (hcat : Nat.ble ((st.map fun v => v.category).sum) 8 = true) (hb : bc' ≤ bc) (hb' : bs' ≤ bs)
    (hc0 : sm_Call n bc' bs' md' T I L (.ref k :: args) K') (kk : ∀ v T' I' L', K' v T' I' L' → sm_V x (bc - bc') (bs - bs') T' I' L' (pc + 3) ls (v.toList ++ st)) : sm_V x bc bs T I L pc ls stk := by
  subst hstk
  intro σ H locs cells slots la hH hP hls hst hc hs
  rw [List.all_append, List.all_cons, Bool.and_eq_true, Bool.and_eq_true, List.all_reverse] at hst
  obtain ⟨⟨m1, m2, m3, m4, m5⟩, hlink, hinst, hsel⟩ := lk
  have hTB := hx.2.2.2.2.2.1
  have hM := hc0 x.1.2.1 (sm_xD x) (sm_xC x) σ H.size hH.2.2.2.1 hH.2.2.2.2.2.1 (by rw [List.all_cons, Bool.and_eq_true]; exact ⟨hst.2.1, hst.1⟩)
  have he := sm_cn_at (cA := sm_xC x) (σ := σ) (I := I) (L := L) hT
  have hfr := hx.2.2.2.2.2.2.2.2.2.1
  have hlo := hx.2.2.2.2.2.2.2.2.2.2.1
  have hlo' : 8 + (md'.2.2.1 + 11) + (sm_rm n bc' bs').locals ≤ (sm_xR x).locals := by
    show 8 + (md'.2.2.1 + 11) + 60 * n ≤ _
    omega
  have hbc : cells + bc' ≤ (sm_xR x).cells := by omega
  have hbs : slots + bs' ≤ (sm_xR x).slots := by omega
  refine sm_after hx hH hP hls hst.2.2 hc hs hb hb' (va_runV (As := args.map (sm_tr σ)) (Ts := []) (b := σ k) (nL := md.2.2.1) (n := na) ⟨hx.1, hx.2.1, hx.2.2.1, hx.2.2.2.1, fun _ h => nomatch h⟩ hM
    ⟨⟨rfl, rfl, hfr, ?_, sm_words hx m1, List.mem_cons_self, hTB _ m1 rfl, hTB _ m2 rfl, m3, ?_, hTB _ hlink rfl⟩, hTB _ hinst rfl, hTB _ hsel rfl⟩
    ⟨sm_blind, va_recv hx.2.2.2.2.2.2.1 hH.1 hC he, sm_pre hx hH (.ref k :: args)⟩ rfl (by rw [List.length_map]; exact hna) (hP.1.trans hx.2.2.1) ?_ (lv_room (sm_catb hcat)) hd ⟨hbc, hbs⟩) kk
  · exact hlo'
  · intro sig h
    rw [h] at m4
    exact (Option.some.inj m4).symm
  · show (args.reverse ++ Value.ref k :: st).map (sm_tr σ) = _
    rw [List.map_append, List.map_reverse]
    rfl
theorem sm_callU {k ci : Nat} {fs : List Value} {C : String} {Tt : u_T} {N : Nat} (hx : sm_Ok x md (n + 1) K) (hd : decode md.2.1 pc = .ok (.invokevirtual idx, 3)) (lk : sm_LU md.1.cls idx md' na C) (hstk : stk = args.reverse ++ .ref k :: st) (hna : args.length = na) (hT : T[k]? = some (.inr (ci, fs))) (hC : vwCl[ci]? = some (C, Tt, N)) (hcat : Nat.ble ((st.map fun v => v.category).sum) 8 = true) (hb : bc' ≤ bc) (hb' : bs' ≤ bs)
    (hc0 : sm_Call n bc' bs' md' T I L (.ref k :: args) K') (kk : ∀ v T' I' L', K' v T' I' L' → sm_V x (bc - bc') (bs - bs') T' I' L' (pc + 3) ls (v.toList ++ st)) : sm_V x bc bs T I L pc ls stk := by
  subst hstk
  intro σ H locs cells slots la hH hP hls hst hc hs
  rw [List.all_append, List.all_cons, Bool.and_eq_true, Bool.and_eq_true, List.all_reverse] at hst
  obtain ⟨y, ⟨m1, m2, m3, m4, m5⟩, hy, hlink, hsam, hinst, hsel⟩ := lk
  have hTB := hx.2.2.2.2.2.1
  have hM := hc0 x.1.2.1 (sm_xD x) (sm_xC x) σ H.size hH.2.2.2.1 hH.2.2.2.2.2.1 (by rw [List.all_cons, Bool.and_eq_true]; exact ⟨hst.2.1, hst.1⟩)
  have he := sm_cn_at (cA := sm_xC x) (σ := σ) (I := I) (L := L) hT
  have hfr := hx.2.2.2.2.2.2.2.2.2.1
  have hlo := hx.2.2.2.2.2.2.2.2.2.2.1
  have hlo' : 8 + (md'.2.2.1 + 11) + (sm_rm n bc' bs').locals ≤ (sm_xR x).locals := by
    show 8 + (md'.2.2.1 + 11) + 60 * n ≤ _
    omega
  have hbc : cells + bc' ≤ (sm_xR x).cells := by omega
  have hbs : slots + bs' ≤ (sm_xR x).slots := by omega
  refine sm_after hx hH hP hls hst.2.2 hc hs hb hb' (va_runU (x := y) (owner := md'.1.cls) (As := args.map (sm_tr σ)) (Ts := []) (b := σ k) (nL := md.2.2.1) (n := na) ⟨hx.1, hx.2.1, hx.2.2.1, hx.2.2.2.1, fun _ h => nomatch h⟩ hM
    ⟨⟨rfl, rfl, hfr, ?_, sm_words hx m1, List.mem_cons_self⟩, hTB _ m1 rfl, hTB _ m2 rfl, m3, ?_, hTB _ hlink rfl, hTB _ hsam rfl, ?_, hTB _ hsel rfl, hTB _ hinst rfl⟩
    ⟨sm_blind, va_recv hx.2.2.2.2.2.2.1 hH.1 hC he, sm_pre hx hH (.ref k :: args)⟩ rfl (by rw [List.length_map]; exact hna) (hP.1.trans hx.2.2.1) ?_ (lv_room (sm_catb hcat)) hd ⟨hbc, hbs⟩) kk
  · exact hlo'
  · intro sig h
    have hds : md'.1.desc = y.desc := by rw [hy]
    rw [hds, h] at m4
    exact (Option.some.inj m4).symm
  · rw [← hy]
    exact va_Decl.of (hTB _ hinst rfl) (hTB _ m1 rfl)
  · show (args.reverse ++ Value.ref k :: st).map (sm_tr σ) = _
    rw [List.map_append, List.map_reverse]
    rfl
theorem sm_callS (hx : sm_Ok x md (n + 1) K) (hd : decode md.2.1 pc = .ok (.invokestatic idx, 3)) (lk : sm_LS md.1.cls idx md' na) (hstk : stk = args.reverse ++ st) (hna : args.length = na) (hcat : Nat.ble ((st.map fun v => v.category).sum) 8 = true) (hb : bc' ≤ bc) (hb' : bs' ≤ bs)
    (hc0 : sm_Call n bc' bs' md' T I L args K') (kk : ∀ v T' I' L', K' v T' I' L' → sm_V x (bc - bc') (bs - bs') T' I' L' (pc + 3) ls (v.toList ++ st)) : sm_V x bc bs T I L pc ls stk := by
  subst hstk
  intro σ H locs cells slots la hH hP hls hst hc hs
  rw [List.all_append, Bool.and_eq_true, List.all_reverse] at hst
  obtain ⟨⟨m1, m2, m3, m4, m5⟩, hlink, hstat⟩ := lk
  have hTB := hx.2.2.2.2.2.1
  have hM := hc0 x.1.2.1 (sm_xD x) (sm_xC x) σ H.size hH.2.2.2.1 hH.2.2.2.2.2.1 hst.1
  have hfr := hx.2.2.2.2.2.2.2.2.2.1
  have hlo := hx.2.2.2.2.2.2.2.2.2.2.1
  have hbc : cells + bc' ≤ (sm_xR x).cells := by omega
  have hbs : slots + bs' ≤ (sm_xR x).slots := by omega
  have hlo' : 8 + (md'.2.2.1 + 11) + (sm_rm n bc' bs').locals ≤ (sm_xR x).locals := by
    show 8 + (md'.2.2.1 + 11) + 60 * n ≤ _
    omega
  have hsig : ∀ sig, parseMethodDescriptor md'.1.desc = some sig → na = sig.parameters.length := by
    intro sig h
    rw [h] at m4
    exact (Option.some.inj m4).symm
  have hmap : (args.reverse ++ st).map (sm_tr σ) = (args.map (sm_tr σ)).reverse ++ st.map (sm_tr σ) := by rw [List.map_append, List.map_reverse]
  rcases hlink with hlink | ⟨host, hlink⟩
  · exact sm_after hx hH hP hls hst.2 hc hs hb hb' (va_runS (As := args.map (sm_tr σ)) (Ts := []) (nL := md.2.2.1) (n := na) ⟨hx.1, hx.2.1, hx.2.2.1, hx.2.2.2.1, fun _ h => nomatch h⟩ hM
      ⟨⟨rfl, rfl, hfr, hlo', sm_words hx m1, List.mem_cons_self, hTB _ m1 rfl, hTB _ m2 rfl, m3, hsig, hTB _ hlink rfl⟩, hTB _ hstat rfl⟩
      ⟨sm_blind, sm_pre hx hH args⟩ rfl (by rw [List.length_map]; exact hna) (hP.1.trans hx.2.2.1) hmap (lv_room (sm_catb hcat)) hd ⟨hbc, hbs⟩) kk
  · exact sm_after hx hH hP hls hst.2 hc hs hb hb' (va_runSN (host := host) (As := args.map (sm_tr σ)) (Ts := []) (nL := md.2.2.1) (n := na) ⟨hx.1, hx.2.1, hx.2.2.1, hx.2.2.2.1, fun _ h => nomatch h⟩ hM
      ⟨⟨⟨rfl, rfl, hfr, hlo', sm_words hx m1, List.mem_cons_self⟩, hTB _ m1 rfl, hTB _ m2 rfl, m3, hsig, hTB _ hlink rfl⟩, hTB _ hstat rfl, trivial⟩
      ⟨sm_blind, sm_pre hx hH args⟩ rfl (by rw [List.length_map]; exact hna) (hP.1.trans hx.2.2.1) hmap (lv_room (sm_catb hcat)) hd ⟨hbc, hbs⟩) kk
theorem sm_callI {k : Nat} (hx : sm_Ok x md (n + 1) K) (hd : decode md.2.1 pc = .ok (.invokespecial idx, 3)) (lk : sm_LI md.1.cls idx md' na) (hstk : stk = args.reverse ++ .ref k :: st) (hna : args.length = na) (hcat : Nat.ble ((st.map fun v => v.category).sum) 8 = true) (hb : bc' ≤ bc) (hb' : bs' ≤ bs)
    (hc0 : sm_Call n bc' bs' md' T I L (.ref k :: args) K') (kk : ∀ v T' I' L', K' v T' I' L' → sm_V x (bc - bc') (bs - bs') T' I' L' (pc + 3) ls (v.toList ++ st)) : sm_V x bc bs T I L pc ls stk := by
  subst hstk
  intro σ H locs cells slots la hH hP hls hst hc hs
  rw [List.all_append, List.all_cons, Bool.and_eq_true, Bool.and_eq_true, List.all_reverse] at hst
  obtain ⟨⟨m1, m2, m3, m4, m5⟩, hlink, hinst, hini, hret⟩ := lk
  have hTB := hx.2.2.2.2.2.1
  have hM := hc0 x.1.2.1 (sm_xD x) (sm_xC x) σ H.size hH.2.2.2.1 hH.2.2.2.2.2.1 (by rw [List.all_cons, Bool.and_eq_true]; exact ⟨hst.2.1, hst.1⟩)
  have hfr := hx.2.2.2.2.2.2.2.2.2.1
  have hlo := hx.2.2.2.2.2.2.2.2.2.2.1
  have hbc : cells + bc' ≤ (sm_xR x).cells := by omega
  have hbs : slots + bs' ≤ (sm_xR x).slots := by omega
  have hlo' : 8 + (md'.2.2.1 + 11) + (sm_rm n bc' bs').locals ≤ (sm_xR x).locals := by
    show 8 + (md'.2.2.1 + 11) + 60 * n ≤ _
    omega
  have hsig : ∀ sig, parseMethodDescriptor md'.1.desc = some sig → na = sig.parameters.length := by
    intro sig h
    rw [h] at m4
    exact (Option.some.inj m4).symm
  have hmap : (args.reverse ++ .ref k :: st).map (sm_tr σ) = (args.map (sm_tr σ)).reverse ++ .ref (σ k) :: st.map (sm_tr σ) := by rw [List.map_append, List.map_reverse]; rfl
  rw [hret] at m1 hM
  have hw := sm_words (md' := (md'.1, md'.2.1, md'.2.2.1, none)) hx m1
  rcases hlink with hlink | ⟨host, hlink⟩
  · exact sm_after hx hH hP hls hst.2.2 hc hs hb hb' (va_runI (As := args.map (sm_tr σ)) (Ts := []) (b := σ k) (nL := md.2.2.1) (n := na) ⟨hx.1, hx.2.1, hx.2.2.1, hx.2.2.2.1, fun _ h => nomatch h⟩ hM
      ⟨⟨rfl, rfl, hfr, hlo', hw, List.mem_cons_self, hTB _ m1 rfl, hTB _ m2 rfl, m3, hsig, hTB _ hlink rfl⟩, hini, hTB _ hinst rfl⟩
      ⟨sm_blind, sm_pre hx hH (.ref k :: args)⟩ rfl (by rw [List.length_map]; exact hna) (hP.1.trans hx.2.2.1) hmap (lv_room (sm_catb hcat)) hd ⟨hbc, hbs⟩) kk
  · exact sm_after hx hH hP hls hst.2.2 hc hs hb hb' (va_runIN (host := host) (As := args.map (sm_tr σ)) (Ts := []) (b := σ k) (nL := md.2.2.1) (n := na) ⟨hx.1, hx.2.1, hx.2.2.1, hx.2.2.2.1, fun _ h => nomatch h⟩ hM
      ⟨⟨⟨rfl, rfl, hfr, hlo', hw, List.mem_cons_self⟩, hTB _ m1 rfl, hTB _ m2 rfl, m3, hsig, hTB _ hlink rfl⟩, hini, hTB _ hinst rfl⟩
      ⟨sm_blind, sm_pre hx hH (.ref k :: args)⟩ rfl (by rw [List.length_map]; exact hna) (hP.1.trans hx.2.2.1) hmap (lv_room (sm_catb hcat)) hd ⟨hbc, hbs⟩) kk
theorem sm_objInit {k : Nat} (hx : sm_Ok x md (n + 1) K) (hd : decode md.2.1 pc = .ok (.invokespecial idx, 3)) (h1 : Cond.methodLink md.1.cls idx Lib.objectInit ∈ lw_tbl) (h2 : Cond.instanceMethod Lib.objectInit ∈ lw_tbl) (h3 : Cond.code Lib.objectInit ⟨#[0xb1]⟩ 1 none ∈ lw_tbl) (hcat : Nat.ble ((st.map fun v => v.category).sum) 8 = true) (kk : sm_V x bc bs T I L (pc + 3) ls st) : sm_V x bc bs T I L pc ls (.ref k :: st) := by
  intro σ H locs cells slots la hH hP hls hst hc hs
  rw [List.all_cons, Bool.and_eq_true] at hst
  have hTB := hx.2.2.2.2.2.1
  have hfr := hx.2.2.2.2.2.2.2.2.2.1
  have hlo := hx.2.2.2.2.2.2.2.2.2.2.1
  have hr := lv_room (m := sm_xm x) (pc := pc) (ls := la) (rest := []) (sm_catb (σ := σ) hcat)
  have g1 : 1 ≤ (sm_xR x).frames := by omega
  have g2 : 2 * (F0 (sm_xm x) pc la ([] : List Value)).monitorRoom + ((st.map (sm_tr σ)).map fun v => v.category).sum + 12 ≤ (sm_xR x).locals := by omega
  exact W.objInit hx.1 hx.2.1 hx.2.2.2.1 (hTB _ h1 rfl) (hTB _ h2 rfl) (hTB _ h3 rfl) rfl hP.1 rfl hd g1 g2 (kk σ H locs cells slots la hH hP hls hst.2 hc hs)
end SmCalls
