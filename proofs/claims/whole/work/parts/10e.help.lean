/-! ===== the law's helper: it calls sleeper and catches ===== -/
theorem sm_ofWH {l : Launch} {y : MethodName} {ws ws' : List Cond} {rm : Room} {Pc : Array Value → State → Prop} {Qc : Array Value → State → Outcome → State → Prop} {mc ms : Nat} {free : Addr → Prop} {cc : ByteArray} {maxL : Nat} {ret : Option FieldType} {hh : List (Nat × Nat × Nat × Nat)}
    (hy : plainFor y = true) (hw : ws = Cond.codeWith y cc maxL ret hh :: ws')
    (body : ∀ p e s m args below meth c s₁, BodyLoose p l y (headSpec ws rm) cc maxL ret e s m args below meth c s₁ → c.maxLocals = maxL → Pc args s →
      W p l e (headSpec ws rm).room s m args below meth c s.heap [] 0 0 (MQ below Qc args s mc ms free) (entryFrame m args maxL)) : Met l y ws rm Pc Qc mc ms free := by
  refine MetFree.of_bodySF (code := cc) (maxLocals := maxL) (ret := ret) hy ?_ ?_
  · intro args s m h hn
    obtain ⟨m9, meth, c, hn9, h1, h2, h3, h4, -, h5, h6, -⟩ := Cond.codeWith_spec (atoms_spec (ws := ws) h _ (by rw [hw]; exact List.mem_cons_self))
    cases hn.symm.trans hn9
    exact ⟨meth, c, h1, h2, h3, h4, h5, h6⟩
  · intro p e s m args below meth c s₁ B hml hP _
    have hh0 : s₁.heap = s.heap := by rw [B.state]; rfl
    obtain ⟨t, a1, o, b1, b2, b3⟩ := body p e s m args below meth c s₁ B hml hP s₁ hh0 (Stand.of_body B)
    exact ⟨t, o, a1, b1, b2, ⟨b3.1, b3.2⟩⟩
abbrev sm_hh : List (Nat × Nat × Nat × Nat) := [(0, 10, 13, 13)]
def sm_CallH (l : Launch) (n bc bs : Nat) (T : List sm_Sh) (I : sm_MI) (L : sm_ML) (args : List Value) (K : sm_K) : Prop := ∀ (D : va_G) (cA : FieldType → ClassId) (σ : Nat → Nat) (sz : Nat), sm_okT T.length T = true → T.length < 1000000 → args.all (sm_ok T.length) = true → Met l yL_sleeper [.codeWith yL_sleeper cL_sleeper 5 (some .int) sm_hh] (sm_rm n bc bs) (sm_Pe D cA σ sz T I L args) (sm_Qc D cA σ sz T I L K) bc bs (va_A (sm_cn cA σ I L 0 T) sz)
def kHl (T : List sm_Sh) (I : sm_MI) (L : sm_ML) (a1 a2 : Int32) : sm_K := fun v T' I' L' => T = T' ∧ I = I' ∧ ((∃ z, sVal I a1 a2 = some z ∧ v = some (.int 0) ∧ L' = sm_uL L 109 0 z.toInt64) ∨ (sVal I a1 a2 = none ∧ v = some (.int 1) ∧ L' = L))
section
variable {n S : Nat} {T : List sm_Sh} {I : sm_MI} {L : sm_ML} {a1 a2 : Int32}
theorem b_help {x : sm_Cx} (hx : sm_Ok x mL_sleeper (n + 7) (kHl T I L a1 a2)) (hE : XE (sm_xA x) (sm_xs x) (sm_xs x).heap) (hl : x.1.2.1.stackTraces = false) (htab : (sm_xc x).exceptionTable.toList = tableOf sm_hh) (hB : sm_Bs T) (hS : I 24 1 = nI S) (hS5 : S ≤ 5) : sm_V x 1 6 T I L 0 [some (.ref 0), some (.int a1), some (.int a2), some (.ref 109), none] [] := by
  refine sm_aload_n (z := 109) hx dL_sleeper_0 rfl (sm_iconst (v := 0) hx dL_sleeper_1 sm_kc_0 (sm_aload_n (z := 0) hx dL_sleeper_2 rfl (sm_iload_n (z := a1) hx dL_sleeper_3 rfl (sm_iload_n (z := a2) hx dL_sleeper_4 rfl ?_))))
  refine sm_callVE (n := n + 6) (args := [.int a1, .int a2]) (k := 0) (st := [.int 0, .ref 109]) (bc' := 1) (bs' := 6) hx hE dL_sleeper_5 lv_L_7_11 rfl rfl (t_0 hB) rfl rfl (Nat.le_refl _) (Nat.le_refl _) (k_sleeper (n := n) hl hB hS hS5) (fun v T' I' L' q => ?_) (fun T' I' L' q σ H locs cells slots la rest qa ce hH hP hls hc hs hce hcv hcl => ?_)
  · obtain ⟨rfl, rfl, rfl, z, hz, rfl⟩ := q
    exact sm_i2l hx dL_sleeper_8 (sm_last hx dL_sleeper_9 (t_109 hB) (vp_in_nI (n := 0) (by decide) (by decide)) (sm_goto hx dL_sleeper_10 (tgt := 17) (by decide) (sm_iconst (v := 0) hx dL_sleeper_17 sm_kc_0 (sm_iret hx dL_sleeper_18 rfl ⟨rfl, rfl, Or.inl ⟨z, hz, rfl, rfl⟩⟩))))
  · obtain ⟨rfl, rfl, rfl, hn⟩ := q
    refine vx_catch (own := RL) (name := "java/util/NoSuchElementException") hx.2.2.2.1 [] ⟨0, 10, 13, 13⟩ [] htab (fun z hz => nomatch hz) (by decide) (by decide) (hx.2.2.2.2.2.1 _ kc_L_13 rfl) (hx.2.2.2.2.2.1 _ cb_E rfl) hce hcv hcl ?_
    refine lv_astore hx.1 hx.2.1 dL_sleeper_13 hP (by rw [hx.2.2.1]; decide) rfl (fun la' h9 => ?_)
    have h8 : sm_PL σ la' (sm_xc x).maxLocals [some (.ref 0), some (.int a1), some (.int a2), some (.ref 109), none] := sm_PL.of h9 (fun q hq => List.mem_cons_of_mem _ hq)
    have h7 : sm_V x (1 - 1) (6 - 6) T I L 15 [some (.ref 0), some (.int a1), some (.int a2), some (.ref 109), none] [] := sm_iconst (v := 1) hx dL_sleeper_15 sm_kc_1 (sm_iret hx dL_sleeper_16 rfl ⟨rfl, rfl, Or.inr ⟨hn, rfl, rfl⟩⟩)
    exact h7 σ H locs cells slots la' hH h8 hls rfl hc hs
theorem k_help {l : Launch} (hl : l.stackTraces = false) (hB : sm_Bs T) (hS : I 24 1 = nI S) (hS5 : S ≤ 5) : sm_CallH l (n + 7) 1 6 T I L [.ref 0, .int a1, .int a2, .ref 109] (kHl T I L a1 a2) := by
  intro D cA σ sz hT hlt hargs
  refine sm_ofWH (cc := cL_sleeper) (maxL := 5) (ret := some .int) (hh := sm_hh) (by decide +kernel) rfl ?_
  intro p e s m args' below meth c s₁ B hml hv
  obtain ⟨⟨rfl, hsz, hP, hD0, hK, hTB, hX⟩, hE⟩ := hv
  subst hsz
  have hD : va_D (va_A (sm_cn cA σ I L 0 T) s.heap.size) (sm_cn cA σ I L 0 T) := hD0.self
  have hr := B.returns
  have hTB' : sm_TB ([Value.ref 0, .int a1, .int a2, .ref 109].map (sm_tr σ)).toArray s := hTB.warm (State.WarmedH.refl s)
  have hret : ∀ (σ' : Nat → Nat) (H : Heap) (locs : List Loc) (cells slots : Nat) (la : Array Slot) (pc : Nat) (v : Option Value) (T' : List sm_Sh) (I' : sm_MI) (L' : sm_ML), sm_H ((p, l, e, sm_rm (n + 7) 1 6, s, m, ([Value.ref 0, .int a1, .int a2, .ref 109].map (sm_tr σ)).toArray, below), (meth, c, (MQ below (sm_Qc D cA σ s.heap.size T I L (kHl T I L a1 a2)) ([Value.ref 0, .int a1, .int a2, .ref 109].map (sm_tr σ)).toArray s 1 6 (va_A (sm_cn cA σ I L 0 T) s.heap.size))), (D, cA, (va_A (sm_cn cA σ I L 0 T) s.heap.size), σ, T.length)) σ' T' I' L' H locs → cells ≤ 1 → slots ≤ 6 → sm_okO T'.length v = true → kHl T I L a1 a2 v T' I' L' → sm_rd cL_sleeper pc (some .int) v → W p l e (sm_rm (n + 7) 1 6) s m ([Value.ref 0, .int a1, .int a2, .ref 109].map (sm_tr σ)).toArray below meth c H locs cells slots (MQ below (sm_Qc D cA σ s.heap.size T I L (kHl T I L a1 a2)) ([Value.ref 0, .int a1, .int a2, .ref 109].map (sm_tr σ)).toArray s 1 6 (va_A (sm_cn cA σ I L 0 T) s.heap.size)) (F0 m pc la ((v.map (sm_tr σ')).toList)) := by
    intro σ' H locs cells slots la pc v T' I' L' hH hc hs hok hK' hrd
    obtain ⟨g1, g2, g3, g4, g5, g6, g7⟩ := hH
    refine W.widen (k := 1) (n := 6) hc hs ?_
    have hq : ∀ t : State, t.heap = H → s.WarmedH t.vm → sm_Qc D cA σ s.heap.size T I L (kHl T I L a1 a2) ([Value.ref 0, .int a1, .int a2, .ref 109].map (sm_tr σ)).toArray s (.returned (v.map (sm_tr σ'))) t := fun t ht hW =>
      ⟨⟨σ', v, T', I', L', rfl, hK', hok, g7, g5, g6, g4, by rw [ht]; exact g1, g2⟩, g3.F ht⟩
    cases v with
    | none => exact W.vret B.exec B.bytes (hr.trans hrd.1) hq g3.2.2 hrd.2
    | some v =>
      cases v with
      | int z =>
        obtain ⟨⟨ty, h1, h2⟩, h3⟩ := hrd
        exact W.zret B.exec B.bytes (hr.trans h1) h2 hq g3.2.2 h3
      | long z => exact W.lret B.exec B.bytes (hr.trans hrd.1) hq g3.2.2 hrd.2
      | ref r =>
        obtain ⟨⟨rt, h1, h2⟩, h3⟩ := hrd
        exact W.aret B.exec B.bytes (hr.trans h1) h2 (Or.inr ⟨_, rfl⟩) hq g3.2.2 h3
      | null =>
        obtain ⟨⟨rt, h1, h2⟩, h3⟩ := hrd
        exact W.aret B.exec B.bytes (hr.trans h1) h2 (Or.inl rfl) hq g3.2.2 h3
      | _ => exact hrd.elim
  have hx : sm_Ok ((p, l, e, sm_rm (n + 7) 1 6, s, m, ([Value.ref 0, .int a1, .int a2, .ref 109].map (sm_tr σ)).toArray, below), (meth, c, (MQ below (sm_Qc D cA σ s.heap.size T I L (kHl T I L a1 a2)) ([Value.ref 0, .int a1, .int a2, .ref 109].map (sm_tr σ)).toArray s 1 6 (va_A (sm_cn cA σ I L 0 T) s.heap.size))), (D, cA, (va_A (sm_cn cA σ I L 0 T) s.heap.size), σ, T.length)) mL_sleeper (n + 7) (kHl T I L a1 a2) :=
    ⟨B.exec, B.bytes, hml, findClass_of_methodNamed B.named, (name_of_methodNamed B.named B.method).1, hTB', hK, fun q h => Or.inr h, hX, Nat.le_refl _, Nat.le_refl _, hret⟩
  have hl5 : (lg_sl ([Value.ref 0, .int a1, .int a2, .ref 109].map (sm_tr σ))).length ≤ 5 := by rw [sm_sl_len]; exact Nat.le_of_ble_eq_true rfl
  rw [lg_entry_eq]
  have hPL := sm_PL.ent (σ := σ) (args := [Value.ref 0, .int a1, .int a2, .ref 109]) hl5
  have hcm : sm_PL σ ((lg_sl ([Value.ref 0, .int a1, .int a2, .ref 109].map (sm_tr σ)) ++ List.replicate (5 - (lg_sl ([Value.ref 0, .int a1, .int a2, .ref 109].map (sm_tr σ))).length) Slot.unset).toArray) c.maxLocals [some (.ref 0), some (.int a1), some (.int a2), some (.ref 109), none] := by rw [hml]; exact hPL
  exact b_help (x := ((p, l, e, sm_rm (n + 7) 1 6, s, m, ([Value.ref 0, .int a1, .int a2, .ref 109].map (sm_tr σ)).toArray, below), (meth, c, (MQ below (sm_Qc D cA σ s.heap.size T I L (kHl T I L a1 a2)) ([Value.ref 0, .int a1, .int a2, .ref 109].map (sm_tr σ)).toArray s 1 6 (va_A (sm_cn cA σ I L 0 T) s.heap.size))), (D, cA, (va_A (sm_cn cA σ I L 0 T) s.heap.size), σ, T.length))) hx hE hl (vx_table (x := yL_sleeper) B (hTB' _ hc_L rfl)) hB hS hS5 σ s.heap [] 0 0 _ ⟨hP, hD, va_S.rf, hT, Nat.le_refl _, hlt, sm_agr.rf⟩ hcm (sm_ok_ent (nL := 5) hargs) rfl (Nat.le_of_eq (Nat.zero_add _)) (Nat.le_of_eq (Nat.zero_add _))
end
section
variable {x : sm_Cx} {n : Nat} {K K' : sm_K} {bc bs bc' bs' : Nat} {T : List sm_Sh} {I : sm_MI} {L : sm_ML} {pc : Nat} {ls : List (Option Value)} {st stk args : List Value}
/-- the law calls its helper -/
theorem sm_callSE (hx : sm_Ok x mL_law (n + 1) K) (hE : XE (sm_xA x) (sm_xs x) (sm_xs x).heap) (hd : decode cL_law pc = .ok (.invokestatic 38, 3)) (hstk : stk = args.reverse ++ st) (hna : args.length = 4) (hcat : Nat.ble ((st.map fun v => v.category).sum) 8 = true) (hb : bc' ≤ bc) (hb' : bs' ≤ bs)
    (hc0 : sm_CallH x.1.2.1 n bc' bs' T I L args K') (kk : ∀ v T' I' L', K' v T' I' L' → sm_V x (bc - bc') (bs - bs') T' I' L' (pc + 3) ls (v.toList ++ st)) : sm_V x bc bs T I L pc ls stk := by
  subst hstk
  intro σ H locs cells slots la hH hP hls hst hc hs
  rw [List.all_append, Bool.and_eq_true, List.all_reverse] at hst
  have hTB := hx.2.2.2.2.2.1
  have hM := hc0 (sm_xD x) (sm_xC x) σ H.size hH.2.2.2.1 hH.2.2.2.2.2.1 hst.1
  have hfr := hx.2.2.2.2.2.2.2.2.2.1
  have hlo := hx.2.2.2.2.2.2.2.2.2.2.1
  have hbc : cells + bc' ≤ (sm_xR x).cells := by omega
  have hbs : slots + bs' ≤ (sm_xR x).slots := by omega
  have hlo' : 8 + (5 + 11) + (sm_rm n bc' bs').locals ≤ (sm_xR x).locals := by
    show 8 + (5 + 11) + 60 * n ≤ _
    omega
  have hps : (parseMethodDescriptor yL_sleeper.desc).map (fun d => d.parameters.length) = some 4 := by decide +kernel
  have hsig : ∀ sig, parseMethodDescriptor yL_sleeper.desc = some sig → 4 = sig.parameters.length := by
    intro sig h
    rw [h] at hps
    exact (Option.some.inj hps).symm
  have hws : ∀ w ∈ [Cond.codeWith yL_sleeper cL_sleeper 5 (some .int) sm_hh], ∀ (a' : Array Value) (U : State), (sm_xs x).WarmedH U.vm → w.before a' U = true := by
    intro w hw a' U hW
    rw [List.mem_singleton.mp hw]
    exact word_at hW (good_of_word rfl) (hTB _ hc_L rfl)
  have hmap : (args.reverse ++ st).map (sm_tr σ) = (args.map (sm_tr σ)).reverse ++ st.map (sm_tr σ) := by rw [List.map_append, List.map_reverse]
  exact sm_after hx hH hP hls hst.2 hc hs hb hb' (vx_runSW (hh := sm_hh) (As := args.map (sm_tr σ)) (Ts := []) (nL := 7) (n := 4) ⟨hx.1, hx.2.1, hx.2.2.1, hx.2.2.2.1, fun _ h => nomatch h⟩ hM
    ⟨⟨rfl, rfl, hfr, hlo', hws, List.mem_cons_self⟩, hTB _ hc_L rfl, hTB _ hi_L rfl, ⟨by decide +kernel, by decide +kernel⟩, hsig, hTB _ hl_L_38 rfl, hTB _ hs_L rfl⟩
    ⟨sm_blindE, sm_preE hx hE hH args⟩ rfl (by rw [List.length_map]; exact hna) (hP.1.trans hx.2.2.1) hmap (lv_room (sm_catb hcat)) hd ⟨hbc, hbs⟩) kk
end
