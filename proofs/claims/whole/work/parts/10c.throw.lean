/-! ===== what may throw: the tools ===== -/
abbrev sm_dx : List MethodName := [⟨"java/lang/RuntimeException", "<init>", "(Ljava/lang/String;)V"⟩, ⟨"java/lang/Exception", "<init>", "(Ljava/lang/String;)V"⟩, ⟨"java/lang/Throwable", "<init>", "(Ljava/lang/String;)V"⟩]
def XE (A : Nat → Prop) (U : State) (H : Heap) : Prop := vx_Zq Bundle.tN "UNASSIGNED_STACK" Bundle.steD A U H ∧ vx_Zq Bundle.tN "SUPPRESSED_SENTINEL" Bundle.listD A U H ∧ (∃ sa, vk_R RX11 169 "no such sleeper" sa U) ∧ (∃ sa, vk_R RX11 192 "no such what" sa U) ∧ ∀ x ∈ sm_dx, va_Nw (.declares x) U
theorem XE.mv {A B : Nat → Prop} {s U : State} {H H1 : Heap} (h : XE A s H) (hW : s.WarmedH U.vm) (hk : ∀ a : Nat, a < H.size → ¬ A a → H1[a]? = H[a]?) (hAB : ∀ q, B q → A q) : XE B U H1 := by
  obtain ⟨h1, h2, ⟨s3, h3⟩, ⟨s4, h4⟩, h5⟩ := h
  exact ⟨((vx_Zq.moved hW.alike h1).kept hk).narrow hAB, ((vx_Zq.moved hW.alike h2).kept hk).narrow hAB, ⟨s3, h3.warm hW⟩, ⟨s4, h4.warm hW⟩, fun x hx => (h5 x hx).warmD hW⟩
theorem wx_E : ∀ w ∈ sm_atS RX11 171, (w ∈ lw_tbl ∧ sm_gd w = true) ∨ w ∈ sm_dx.map Cond.declares := by decide +kernel
theorem wx_at {A : Nat → Prop} {args : Array Value} {s : State} (hT : sm_TB args s) (hE : XE A s s.heap) : ∀ w ∈ sm_atS RX11 171, w.before args s = true := fun w hw => by
  rcases wx_E w hw with h | h
  · exact hT w h.1 h.2
  · obtain ⟨y, hy, rfl⟩ := List.mem_map.mp h
    exact va_Nw.use rfl (hE.2.2.2.2 y hy)
theorem wx_G : ∀ w ∈ Cond.classLink RX11 167 "java/util/NoSuchElementException" :: Cond.initialized "java/util/NoSuchElementException" :: sm_atS RX11 171, vx_ot w = true := by decide +kernel
def sm_Pe (D : va_G) (cA : FieldType → ClassId) (σ : Nat → Nat) (sz : Nat) (T : List sm_Sh) (I : sm_MI) (L : sm_ML) (args : List Value) : Array Value → State → Prop := fun a U => sm_Pc D cA σ sz T I L args a U ∧ XE (va_A (sm_cn cA σ I L 0 T) sz) U U.heap
theorem sm_blindE {D : va_G} {cA : FieldType → ClassId} {σ : Nat → Nat} {sz : Nat} {T : List sm_Sh} {I : sm_MI} {L : sm_ML} {args : List Value} : FrameBlind (sm_Pe D cA σ sz T I L args) := fun a U g mk h => ⟨sm_blind a U g mk h.1, h.2.mv (State.WarmedH.refl U) (fun _ _ _ => rfl) (fun _ h => h)⟩
abbrev sm_Xu : Type := (Nat → Nat) × List sm_Sh × sm_MI × sm_ML
abbrev sm_KX : Type := List sm_Sh → sm_MI → sm_ML → Prop
def sm_XC (D : va_G) (cA : FieldType → ClassId) (σ : Nat → Nat) (sz : Nat) (T : List sm_Sh) (I : sm_MI) (L : sm_ML) (KX : sm_KX) : String → State → State → Prop := vx_X (S := sm_Xu) (fun u => KX u.2.1 u.2.2.1 u.2.2.2 ∧ sm_agr T.length u.1 σ ∧ T.length ≤ u.2.1.length ∧ u.2.1.length < 1000000 ∧ sm_okT u.2.1.length u.2.1 = true) (fun E u t => E = "java/util/NoSuchElementException" ∧ va_P D vwCl (sm_cn cA u.1 u.2.2.1 u.2.2.2 0 u.2.1) t.heap ∧ va_D (va_A (sm_cn cA σ I L 0 T) sz) (sm_cn cA u.1 u.2.2.1 u.2.2.2 0 u.2.1)) (va_A (sm_cn cA σ I L 0 T) sz)
/-- a contract of a method that returns (K) or throws (KX) -/
def sm_CallX (l : Launch) (n bc bs : Nat) (md : sm_MD) (T : List sm_Sh) (I : sm_MI) (L : sm_ML) (args : List Value) (K : sm_K) (KX : sm_KX) : Prop := ∀ (D : va_G) (cA : FieldType → ClassId) (σ : Nat → Nat) (sz : Nat), sm_okT T.length T = true → T.length < 1000000 → args.all (sm_ok T.length) = true → vx_Met l md.1 [.code md.1 md.2.1 md.2.2.1 md.2.2.2] (sm_rm n bc bs) (sm_Pe D cA σ sz T I L args) (sm_Qc D cA σ sz T I L K) (sm_XC D cA σ sz T I L KX) bc bs (va_A (sm_cn cA σ I L 0 T) sz)
/-- the rule of a throw in SleepMoves.sleeper, with room for one cell of six places -/
def sm_Th (x : sm_Cx) (KX : sm_KX) : Prop := ∀ (pc is : Nat) (text : String) (T : List sm_Sh) (I : sm_MI) (L : sm_ML) (ls : List (Option Value)), KX T I L → (∃ sa, vk_R RX11 is text sa (sm_xs x)) → decode cX11_sleeper pc = .ok (.new 167, 3) → decode cX11_sleeper (pc + 3) = .ok (.dup, 1) → decode cX11_sleeper (pc + 4) = .ok (.ldc is, 2) → decode cX11_sleeper (pc + 6) = .ok (.invokespecial 171, 3) → decode cX11_sleeper (pc + 9) = .ok (.athrow, 1) → sm_V x 1 6 T I L pc ls []
section SmThrow
variable {n bc bs : Nat} {T : List sm_Sh} {I : sm_MI} {L : sm_ML} {args : List Value} {K : sm_K} {KX : sm_KX}
theorem sm_CallX.of {l : Launch} (hl : l.stackTraces = false) (hlen : Nat.ble (sm_exp args).length 3 = true) (body : ∀ x : sm_Cx, sm_Ok x mX11_sleeper (n + 6) K → XE (sm_xA x) (sm_xs x) (sm_xs x).heap → sm_Th x KX → sm_V x 1 6 T I L 0 (sm_ent 3 args) []) : sm_CallX l (n + 6) 1 6 mX11_sleeper T I L args K KX := by
  intro D cA σ sz hT hlt hargs
  refine vx_ofW (cc := mX11_sleeper.2.1) (maxL := 3) (ret := some .int) (by decide +kernel) rfl ?_
  intro p e s m args' below meth c s₁ B hml htab hv
  obtain ⟨⟨rfl, hsz, hP, hD0, hK, hTB, hX⟩, hE⟩ := hv
  subst hsz
  have hD : va_D (va_A (sm_cn cA σ I L 0 T) s.heap.size) (sm_cn cA σ I L 0 T) := hD0.self
  have hlocks := B.notSynchronized
  have hr := B.returns
  have hTB' : sm_TB (args.map (sm_tr σ)).toArray s := hTB.warm (State.WarmedH.refl s)
  have hfind : s.vm.findClass RX11 = some m.cls := findClass_of_methodNamed B.named
  have hret : ∀ (σ' : Nat → Nat) (H : Heap) (locs : List Loc) (cells slots : Nat) (la : Array Slot) (pc : Nat) (v : Option Value) (T' : List sm_Sh) (I' : sm_MI) (L' : sm_ML), sm_H ((p, l, e, sm_rm (n + 6) 1 6, s, m, (args.map (sm_tr σ)).toArray, below), (meth, c, (vx_MQ below (sm_Qc D cA σ s.heap.size T I L K) (sm_XC D cA σ s.heap.size T I L KX) (args.map (sm_tr σ)).toArray s 1 6 (va_A (sm_cn cA σ I L 0 T) s.heap.size))), (D, cA, (va_A (sm_cn cA σ I L 0 T) s.heap.size), σ, T.length)) σ' T' I' L' H locs → cells ≤ 1 → slots ≤ 6 → sm_okO T'.length v = true → K v T' I' L' → sm_rd cX11_sleeper pc (some .int) v → W p l e (sm_rm (n + 6) 1 6) s m (args.map (sm_tr σ)).toArray below meth c H locs cells slots (vx_MQ below (sm_Qc D cA σ s.heap.size T I L K) (sm_XC D cA σ s.heap.size T I L KX) (args.map (sm_tr σ)).toArray s 1 6 (va_A (sm_cn cA σ I L 0 T) s.heap.size)) (F0 m pc la ((v.map (sm_tr σ')).toList)) := by
    intro σ' H locs cells slots la pc v T' I' L' hH hc hs hok hK' hrd
    obtain ⟨g1, g2, g3, g4, g5, g6, g7⟩ := hH
    refine vx_ret (W.widen (k := 1) (n := 6) hc hs ?_)
    have hq : ∀ t : State, t.heap = H → s.WarmedH t.vm → sm_Qc D cA σ s.heap.size T I L K (args.map (sm_tr σ)).toArray s (.returned (v.map (sm_tr σ'))) t := fun t ht hW =>
      ⟨⟨σ', v, T', I', L', rfl, hK', hok, g7, g5, g6, g4, by rw [ht]; exact g1, g2⟩, g3.F ht⟩
    cases v with
    | none => exact W.vret B.exec B.bytes (hr.trans hrd.1) hq g3.2.2 hrd.2
    | some v =>
      cases v with
      | int z =>
        obtain ⟨⟨ty, h1, h2⟩, h3⟩ := hrd
        exact W.zret B.exec B.bytes (hr.trans h1) h2 hq g3.2.2 h3
      | long z => exact W.lret B.exec B.bytes (hr.trans hrd.1) hq g3.2.2 hrd.2
      | ref r =>
        obtain ⟨⟨rt, h1, h2⟩, h3⟩ := hrd
        exact W.aret B.exec B.bytes (hr.trans h1) h2 (Or.inr ⟨_, rfl⟩) hq g3.2.2 h3
      | null =>
        obtain ⟨⟨rt, h1, h2⟩, h3⟩ := hrd
        exact W.aret B.exec B.bytes (hr.trans h1) h2 (Or.inl rfl) hq g3.2.2 h3
      | _ => exact hrd.elim
  have hx : sm_Ok ((p, l, e, sm_rm (n + 6) 1 6, s, m, (args.map (sm_tr σ)).toArray, below), (meth, c, (vx_MQ below (sm_Qc D cA σ s.heap.size T I L K) (sm_XC D cA σ s.heap.size T I L KX) (args.map (sm_tr σ)).toArray s 1 6 (va_A (sm_cn cA σ I L 0 T) s.heap.size))), (D, cA, (va_A (sm_cn cA σ I L 0 T) s.heap.size), σ, T.length)) mX11_sleeper (n + 6) K :=
    ⟨B.exec, B.bytes, hml, hfind, (name_of_methodNamed B.named B.method).1, hTB', hK, fun q h => Or.inr h, hX, Nat.le_refl _, Nat.le_refl _, hret⟩
  have hth : sm_Th ((p, l, e, sm_rm (n + 6) 1 6, s, m, (args.map (sm_tr σ)).toArray, below), (meth, c, (vx_MQ below (sm_Qc D cA σ s.heap.size T I L K) (sm_XC D cA σ s.heap.size T I L KX) (args.map (sm_tr σ)).toArray s 1 6 (va_A (sm_cn cA σ I L 0 T) s.heap.size))), (D, cA, (va_A (sm_cn cA σ I L 0 T) s.heap.size), σ, T.length)) KX := by
    intro pc is text T' I' L' ls hKX hstr d0 d3 d4 d6 d9 σ' H locs cells slots la hH hPL hls hst hc hs
    obtain ⟨sa, hstr⟩ := hstr
    have hc1 : cells + 1 ≤ 1 := hc
    have hs1 : slots + 6 ≤ 6 := hs
    exact sm_makeS (own := RX11) (text := text) (ik := 167) (is := is) (ic := 171) (sa := sa) (A := (va_A (sm_cn cA σ I L 0 T) s.heap.size)) B.exec B.bytes hl hfind (hTB' _ kc_X11_167 rfl) (hTB' _ ic_E rfl) hstr (wx_at hTB' hE) wx_G hE.1 hE.2.1 hH.2.2.1 hPL.1 d0 d3 d4 d6 (by show 2 + 3 < n + 6; omega) (by show 0 + (13 * (2 + 1) + 43) ≤ 60 * (n + 6); omega) hc1 hs1
      (fun q H1 ce hz hq hce hcv hcl => vx_athrow B.exec B.bytes d9 (vx_out (fun z hz => (htab z hz).elim) hlocks hce hcv hcl (fun t ht _ => ⟨(σ', T', I', L'), ⟨hKX, hH.2.2.2.2.2.2, hH.2.2.2.2.1, hH.2.2.2.2.2.1, hH.2.2.2.1⟩, ⟨rfl, by rw [ht]; exact hH.1.kept (fun k q hk => hq q.1 (vx_lt hH.1 hk)), hH.2.1⟩, ⟨by rw [ht]; exact Nat.le_trans hH.2.2.1.1 hz, fun q h1 h2 => by rw [ht]; exact (hq q (Nat.lt_of_lt_of_le h1 hH.2.2.1.1)).trans (hH.2.2.1.2.1 q h1 h2)⟩⟩) hH.2.2.1.2.2 hc1 hs1))
  have hl3 : (lg_sl (args.map (sm_tr σ))).length ≤ 3 := by rw [sm_sl_len]; exact Nat.le_of_ble_eq_true hlen
  rw [lg_entry_eq]
  have hPL := sm_PL.ent (σ := σ) (args := args) hl3
  have hcm : (sm_PL σ ((lg_sl (args.map (sm_tr σ)) ++ List.replicate (3 - (lg_sl (args.map (sm_tr σ))).length) Slot.unset).toArray) c.maxLocals (sm_ent 3 args)) := by rw [hml]; exact hPL
  exact body _ hx hE hth σ s.heap [] 0 0 _ ⟨hP, hD, va_S.rf, hT, Nat.le_refl _, hlt, sm_agr.rf⟩ hcm (sm_ok_ent hargs) rfl (Nat.le_of_eq (Nat.zero_add _)) (Nat.le_of_eq (Nat.zero_add _))
end SmThrow
