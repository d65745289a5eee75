/-! ===== SleepMoves.sleeper: an answer, or a throw ===== -/
def sVal (I : sm_MI) (a1 a2 : Int32) : Option Int32 := if qW a1 0 (I 24 1 - 1) = true then (if a2 = 0 then some (I 26 a1.toNatClampNeg) else if a2 = 1 then some (I 28 a1.toNatClampNeg) else if a2 = 2 then some (I 30 a1.toNatClampNeg) else if a2 = 3 then some (I 32 a1.toNatClampNeg) else if a2 = 4 then some (I 34 a1.toNatClampNeg) else none) else none
def kSl (T : List sm_Sh) (I : sm_MI) (L : sm_ML) (a1 a2 : Int32) : sm_K := fun v T' I' L' => T = T' ∧ I = I' ∧ L = L' ∧ ∃ z, sVal I a1 a2 = some z ∧ v = some (.int z)
def kSx (T : List sm_Sh) (I : sm_MI) (L : sm_ML) (a1 a2 : Int32) : sm_KX := fun T' I' L' => T = T' ∧ I = I' ∧ L = L' ∧ sVal I a1 a2 = none
section
variable {n S : Nat} {T : List sm_Sh} {I : sm_MI} {L : sm_ML} {a1 a2 : Int32}
set_option maxRecDepth 100000 in
theorem k_sleeper {l : Launch} (hl : l.stackTraces = false) (hB : sm_Bs T) (hS : I 24 1 = nI S) (hS5 : S ≤ 5) : sm_CallX l (n + 6) 1 6 mX11_sleeper T I L [.ref 0, .int a1, .int a2] (kSl T I L a1 a2) (kSx T I L a1 a2) := by
  refine sm_CallX.of hl rfl (fun x hx hE th => ?_)
  show sm_V x 1 6 T I L 0 [some (.ref 0), some (.int a1), some (.int a2)] []
  refine sm_aload_n (z := 0) hx dX11_sleeper_0 rfl (sm_getR hx dX11_sleeper_1 fl_X11_42_11 (t_0 hB) rfl (sm_iload_n (z := a1) hx dX11_sleeper_4 rfl (sm_callVZ (n := n + 5) (args := [.int a1]) (st := []) hx dX11_sleeper_5 lv_X11_163_8 rfl rfl (t_24 hB) rfl rfl (s_hasSleeper (n := n + 4) (F := fun z I2 L2 => z = qW a1 0 (I 24 1 - 1) ∧ I = I2 ∧ L = L2) hB ⟨rfl, rfl, rfl⟩) (fun z I2 L2 q => ?_))))
  obtain ⟨rfl, rfl, rfl⟩ := q
  refine sm_ifneZ (b := qW a1 0 (I 24 1 - 1)) hx dX11_sleeper_8 (tgt := 21) (by decide) (fun q => ?_) (fun q => th 11 169 "no such sleeper" T I L _ ⟨rfl, rfl, rfl, by unfold sVal; rw [if_neg (by rw [q]; decide)]⟩ hE.2.2.1 dX11_sleeper_11 dX11_sleeper_14 dX11_sleeper_15 dX11_sleeper_17 dX11_sleeper_20)
  have q0 := q
  rw [hS] at q
  obtain ⟨w, hw, rfl⟩ := qW_nat (by omega) q
  have sv : sVal I (nI w) a2 = (if a2 = 0 then some (I 26 w) else if a2 = 1 then some (I 28 w) else if a2 = 2 then some (I 30 w) else if a2 = 3 then some (I 32 w) else if a2 = 4 then some (I 34 w) else none) := by
    unfold sVal
    rw [if_pos q0, nI_clamp (by omega)]
  refine sm_iload_n (z := a2) hx dX11_sleeper_21 rfl (sm_tsw (a := a2) hx dX11_sleeper_22 (by decide) (fun i hi q1 => ?_) (fun qo => ⟨116, by decide, th 116 192 "no such what" T I L _ ⟨rfl, rfl, rfl, ?_⟩ hE.2.2.2.1 dX11_sleeper_116 dX11_sleeper_119 dX11_sleeper_120 dX11_sleeper_122 dX11_sleeper_125⟩))
  · match i, hi, q1 with
    | 0, _, q1 =>
      have e : a2 = 0 := sm_ti q1 (by decide)
      refine ⟨34, 56, rfl, by decide, sm_aload_n (z := 0) hx dX11_sleeper_56 rfl (sm_getR hx dX11_sleeper_57 fl_X11_42_11 (t_0 hB) rfl (sm_getR hx dX11_sleeper_60 fl_X11_174_8 (t_24 hB) rfl (sm_iload_n (z := nI w) hx dX11_sleeper_63 rfl (sm_callVI (n := n + 5) (args := [.int (nI w)]) (st := []) hx dX11_sleeper_64 lv_X11_177_3 rfl rfl (t_25 hB) rfl rfl (s_at (F := fun z I2 L2 => z = I 26 w ∧ I = I2 ∧ L = L2) (t_25 hB) (t_26 hB) (by omega) (by decide) ⟨rfl, rfl, rfl⟩) (fun z I2 L2 q2 => ?_)))))⟩
      obtain ⟨rfl, rfl, rfl⟩ := q2
      exact sm_iret hx dX11_sleeper_67 rfl ⟨rfl, rfl, rfl, _, by rw [sv, e, if_pos rfl], rfl⟩
    | 1, _, q1 =>
      have e : a2 = 1 := sm_ti q1 (by decide)
      refine ⟨46, 68, rfl, by decide, sm_aload_n (z := 0) hx dX11_sleeper_68 rfl (sm_getR hx dX11_sleeper_69 fl_X11_42_11 (t_0 hB) rfl (sm_getR hx dX11_sleeper_72 fl_X11_180_8 (t_24 hB) rfl (sm_iload_n (z := nI w) hx dX11_sleeper_75 rfl (sm_callVI (n := n + 5) (args := [.int (nI w)]) (st := []) hx dX11_sleeper_76 lv_X11_177_3 rfl rfl (t_27 hB) rfl rfl (s_at (F := fun z I2 L2 => z = I 28 w ∧ I = I2 ∧ L = L2) (t_27 hB) (t_28 hB) (by omega) (by decide) ⟨rfl, rfl, rfl⟩) (fun z I2 L2 q2 => ?_)))))⟩
      obtain ⟨rfl, rfl, rfl⟩ := q2
      exact sm_iret hx dX11_sleeper_79 rfl ⟨rfl, rfl, rfl, _, by rw [sv, e, if_neg (by decide), if_pos rfl], rfl⟩
    | 2, _, q1 =>
      have e : a2 = 2 := sm_ti q1 (by decide)
      refine ⟨58, 80, rfl, by decide, sm_aload_n (z := 0) hx dX11_sleeper_80 rfl (sm_getR hx dX11_sleeper_81 fl_X11_42_11 (t_0 hB) rfl (sm_getR hx dX11_sleeper_84 fl_X11_183_8 (t_24 hB) rfl (sm_iload_n (z := nI w) hx dX11_sleeper_87 rfl (sm_callVI (n := n + 5) (args := [.int (nI w)]) (st := []) hx dX11_sleeper_88 lv_X11_177_3 rfl rfl (t_29 hB) rfl rfl (s_at (F := fun z I2 L2 => z = I 30 w ∧ I = I2 ∧ L = L2) (t_29 hB) (t_30 hB) (by omega) (by decide) ⟨rfl, rfl, rfl⟩) (fun z I2 L2 q2 => ?_)))))⟩
      obtain ⟨rfl, rfl, rfl⟩ := q2
      exact sm_iret hx dX11_sleeper_91 rfl ⟨rfl, rfl, rfl, _, by rw [sv, e, if_neg (by decide), if_neg (by decide), if_pos rfl], rfl⟩
    | 3, _, q1 =>
      have e : a2 = 3 := sm_ti q1 (by decide)
      refine ⟨70, 92, rfl, by decide, sm_aload_n (z := 0) hx dX11_sleeper_92 rfl (sm_getR hx dX11_sleeper_93 fl_X11_42_11 (t_0 hB) rfl (sm_getR hx dX11_sleeper_96 fl_X11_186_8 (t_24 hB) rfl (sm_iload_n (z := nI w) hx dX11_sleeper_99 rfl (sm_callVI (n := n + 5) (args := [.int (nI w)]) (st := []) hx dX11_sleeper_100 lv_X11_177_3 rfl rfl (t_31 hB) rfl rfl (s_at (F := fun z I2 L2 => z = I 32 w ∧ I = I2 ∧ L = L2) (t_31 hB) (t_32 hB) (by omega) (by decide) ⟨rfl, rfl, rfl⟩) (fun z I2 L2 q2 => ?_)))))⟩
      obtain ⟨rfl, rfl, rfl⟩ := q2
      exact sm_iret hx dX11_sleeper_103 rfl ⟨rfl, rfl, rfl, _, by rw [sv, e, if_neg (by decide), if_neg (by decide), if_neg (by decide), if_pos rfl], rfl⟩
    | 4, _, q1 =>
      have e : a2 = 4 := sm_ti q1 (by decide)
      refine ⟨82, 104, rfl, by decide, sm_aload_n (z := 0) hx dX11_sleeper_104 rfl (sm_getR hx dX11_sleeper_105 fl_X11_42_11 (t_0 hB) rfl (sm_getR hx dX11_sleeper_108 fl_X11_189_8 (t_24 hB) rfl (sm_iload_n (z := nI w) hx dX11_sleeper_111 rfl (sm_callVI (n := n + 5) (args := [.int (nI w)]) (st := []) hx dX11_sleeper_112 lv_X11_177_3 rfl rfl (t_33 hB) rfl rfl (s_at (F := fun z I2 L2 => z = I 34 w ∧ I = I2 ∧ L = L2) (t_33 hB) (t_34 hB) (by omega) (by decide) ⟨rfl, rfl, rfl⟩) (fun z I2 L2 q2 => ?_)))))⟩
      obtain ⟨rfl, rfl, rfl⟩ := q2
      exact sm_iret hx dX11_sleeper_115 rfl ⟨rfl, rfl, rfl, _, by rw [sv, e, if_neg (by decide), if_neg (by decide), if_neg (by decide), if_neg (by decide), if_pos rfl], rfl⟩
    | i + 5, h, _ => exact absurd h (Nat.not_lt.mpr (Nat.le_add_left 5 i))
  · have no : ∀ (k : Nat) (z : Int32), k < 5 → z.toInt = 0 + (k : Int) → ¬ a2 = z := fun k z hk hz e => qo k hk (by rw [e]; exact hz)
    rw [sv, if_neg (no 0 0 (by decide) (by decide)), if_neg (no 1 1 (by decide) (by decide)), if_neg (no 2 2 (by decide) (by decide)), if_neg (no 3 3 (by decide) (by decide)), if_neg (no 4 4 (by decide) (by decide))]
end
/-! ===== a call that may throw ===== -/
section SmE
variable {x : sm_Cx} {md md' : sm_MD} {n : Nat} {K K' : sm_K} {KX : sm_KX} {bc bs bc' bs' : Nat} {T : List sm_Sh} {I : sm_MI} {L : sm_ML} {pc : Nat} {ls : List (Option Value)} {st stk args : List Value} {idx na : Nat}
theorem sm_preE (hx : sm_Ok x md n K) (hE : XE (sm_xA x) (sm_xs x) (sm_xs x).heap) {σ : Nat → Nat} {H : Heap} {locs : List Loc} (hH : sm_H x σ T I L H locs) (all : List Value) : ∀ U : State, U.heap = H → (sm_xs x).WarmedH U.vm → sm_Pe (sm_xD x) (sm_xC x) σ H.size T I L all (all.map (sm_tr σ)).toArray U := by
  intro U hU hW
  refine ⟨sm_pre hx hH all U hU hW, ?_⟩
  rw [hU]
  exact hE.mv hW hH.2.2.1.2.1 (sm_free hx hH)
theorem sm_callVE {k ci : Nat} {fs : List Value} {C : String} {Tt : u_T} {N : Nat} (hx : sm_Ok x md (n + 1) K) (hE : XE (sm_xA x) (sm_xs x) (sm_xs x).heap) (hd : decode md.2.1 pc = .ok (.invokevirtual idx, 3)) (lk : sm_LV md.1.cls idx md' na C) (hstk : stk = args.reverse ++ .ref k :: st) (hna : args.length = na) (hT : T[k]? = some (.inr (ci, fs))) (hC : vwCl[ci]? = some (C, Tt, N)) (hcat : Nat.ble ((st.map fun v => v.category).sum) 8 = true) (hb : bc' ≤ bc) (hb' : bs' ≤ bs)
    (hc0 : sm_CallX x.1.2.1 n bc' bs' md' T I L (.ref k :: args) K' KX) (kk : ∀ v T' I' L', K' v T' I' L' → sm_V x (bc - bc') (bs - bs') T' I' L' (pc + 3) ls (v.toList ++ st))
    (kx : ∀ T' I' L', KX T' I' L' → ∀ (σ : Nat → Nat) (H : Heap) (locs : List Loc) (cells slots : Nat) (la : Array Slot) (rest : List Value) (q : Addr) (ce : Cell), sm_H x σ T' I' L' H locs → sm_PL σ la (sm_xc x).maxLocals ls → ls.all (sm_okO T'.length) = true → cells + (bc - bc') ≤ (sm_xR x).cells → slots + (bs - bs') ≤ (sm_xR x).slots → H[q]? = some ce → ce.vm = .none → (sm_xs x).vm.findClass "java/util/NoSuchElementException" = some ce.cls → vx_W x.1.1 x.1.2.1 x.1.2.2.1 x.1.2.2.2.1 x.1.2.2.2.2.1 x.1.2.2.2.2.2.1 x.1.2.2.2.2.2.2.1 x.1.2.2.2.2.2.2.2 x.2.1.1 x.2.1.2.1 H locs cells slots x.2.1.2.2 (F0 (sm_xm x) pc la rest) q) : sm_V x bc bs T I L pc ls stk := by
  subst hstk
  intro σ H locs cells slots la hH hP hls hst hc hs
  rw [List.all_append, List.all_cons, Bool.and_eq_true, Bool.and_eq_true, List.all_reverse] at hst
  obtain ⟨⟨m1, m2, m3, m4, m5⟩, hlink, hinst, hsel⟩ := lk
  have hTB := hx.2.2.2.2.2.1
  have hM := hc0 (sm_xD x) (sm_xC x) σ H.size hH.2.2.2.1 hH.2.2.2.2.2.1 (by rw [List.all_cons, Bool.and_eq_true]; exact ⟨hst.2.1, hst.1⟩)
  have he := sm_cn_at (cA := sm_xC x) (σ := σ) (I := I) (L := L) hT
  have hfr := hx.2.2.2.2.2.2.2.2.2.1
  have hlo := hx.2.2.2.2.2.2.2.2.2.2.1
  have hlo' : 8 + (md'.2.2.1 + 11) + (sm_rm n bc' bs').locals ≤ (sm_xR x).locals := by
    show 8 + (md'.2.2.1 + 11) + 60 * n ≤ _
    omega
  have hbc : cells + bc' ≤ (sm_xR x).cells := by omega
  have hbs : slots + bs' ≤ (sm_xR x).slots := by omega
  have hr := vx_runV (e := x.1.2.2.1) (below := x.1.2.2.2.2.2.2.2) (meth := x.2.1.1) (locs := locs) (As := args.map (sm_tr σ)) (Ts := []) (b := σ k) (nL := md.2.2.1) (n := na) (g := F0 (sm_xm x) pc la ((args.reverse ++ Value.ref k :: st).map (sm_tr σ))) (rest := st.map (sm_tr σ)) ⟨hx.1, hx.2.1, hx.2.2.1, hx.2.2.2.1, fun _ h => nomatch h⟩ hM
    ⟨⟨rfl, rfl, hfr, hlo', sm_words hx m1, List.mem_cons_self, hTB _ m1 rfl, hTB _ m2 rfl, m3, (fun sig h => by rw [h] at m4; exact (Option.some.inj m4).symm), hTB _ hlink rfl⟩, hTB _ hinst rfl, hTB _ hsel rfl⟩
    ⟨sm_blindE, va_recv hx.2.2.2.2.2.2.1 hH.1 hC he, sm_preE hx hE hH (.ref k :: args)⟩ rfl (by rw [List.length_map]; exact hna) (hP.1.trans hx.2.2.1) (by
      show (args.reverse ++ Value.ref k :: st).map (sm_tr σ) = _
      rw [List.map_append, List.map_reverse]
      rfl) (lv_room (sm_catb hcat)) hd ⟨hbc, hbs⟩
  intro T0 hT0 X
  have hF := sm_free hx hH
  rcases hr T0 hT0 X with ⟨v0, st₀, t, T1, L0, h0, X', hL, e1, e2, ⟨⟨σ', v, T', I', L', hv, hK', hok, hagr, hle, hlt, hokT, hP', hD'⟩, hz, hk⟩, stp⟩ | ⟨q, st₀, t, T1, L0, E, ce, h0, X', hL, e1, e2, ⟨⟨σ', T', I', L'⟩, ⟨hKX, hagr, hle, hlt, hokT⟩, ⟨hE0, hP', hD'⟩, hz, hk⟩, hce, hcv, hcl, stp⟩
  · have hv0 : v0 = v.map (sm_tr σ') := Outcome.returned.inj hv
    subst hv0
    rw [h0] at hz hk
    have hH' : sm_H x σ' T' I' L' T1.heap (locs ++ L0) := by
      refine ⟨by rw [e1]; exact hP', hD'.weaken (fun k q _ h => hF q.1 h), ⟨Nat.le_trans hH.2.2.1.1 (by rw [e1]; exact hz), fun q h1 h2 => ?_, fun q hq => ?_⟩, hokT, Nat.le_trans hH.2.2.2.2.1 hle, hlt, hagr.trans hH.2.2.2.2.2.2 hH.2.2.2.2.1⟩
      · rw [e1, hk q (Nat.lt_of_lt_of_le h1 hH.2.2.1.1) (fun z => h2 (hF q z))]
        exact hH.2.2.1.2.1 q h1 h2
      · rcases List.mem_append.mp hq with h | h
        · exact hH.2.2.1.2.2 q h
        · exact hF _ (hL q h)
    have hst' : (v.toList ++ st).all (sm_ok T'.length) = true := by
      rw [List.all_append, Bool.and_eq_true]
      refine ⟨?_, sm_okL_mono hle hst.2.2⟩
      cases v with
      | none => rfl
      | some v => rw [Option.toList_some, List.all_cons, List.all_nil, Bool.and_true]; exact hok
    have k0 := kk v T' I' L' hK' σ' T1.heap (locs ++ L0) (cells + bc') (slots + bs') la hH' (hP.agr hagr hls) (sm_okLO_mono hle hls) hst' (by omega) (by omega)
    have em : (v.toList ++ st).map (sm_tr σ') = (v.map (sm_tr σ')).toList ++ st.map (sm_tr σ) := by
      rw [List.map_append, sm_trL_agr hagr hst.2.2]
      cases v <;> rfl
    rw [em] at k0
    obtain ⟨t2, a1, b1⟩ := k0 T1 rfl X'
    exact ⟨t2, stp t2 a1, b1⟩
  · subst hE0
    rw [h0] at hz hk
    have hH' : sm_H x σ' T' I' L' T1.heap (locs ++ L0) := by
      refine ⟨by rw [e1]; exact hP', hD'.weaken (fun k q _ h => hF q.1 h), ⟨Nat.le_trans hH.2.2.1.1 (by rw [e1]; exact hz), fun q h1 h2 => ?_, fun q hq => ?_⟩, hokT, Nat.le_trans hH.2.2.2.2.1 hle, hlt, hagr.trans hH.2.2.2.2.2.2 hH.2.2.2.2.1⟩
      · rw [e1, hk q (Nat.lt_of_lt_of_le h1 hH.2.2.1.1) (fun z => h2 (hF q z))]
        exact hH.2.2.1.2.1 q h1 h2
      · rcases List.mem_append.mp hq with h | h
        · exact hH.2.2.1.2.2 q h
        · exact hF _ (hL q h)
    obtain ⟨t2, a1, b1⟩ := kx T' I' L' hKX σ' T1.heap (locs ++ L0) (cells + bc') (slots + bs') la (st.map (sm_tr σ)) q ce hH' (hP.agr hagr hls) (sm_okLO_mono hle hls) (by omega) (by omega) (by rw [e1]; exact hce) hcv hcl T1 rfl X'
    exact ⟨t2, stp.trans a1, b1⟩
end SmE
