/-! BASE 8. Cells outside the world: constants of text, the static that says how texts are kept. -/
def sm_xbyt : List (List Int32) := [[97, 115, 107, 101], [97], [112, 103], [110, 104, 115, 113, 109, 119]]
def sm_xlens : List Nat := [4, 1, 2, 6]
def sm_SR (own : String) (idx k : Nat) : Prop := ∀ (A : Nat → Prop) (σ : Nat → Nat) (U : State) (H : Heap), sm_XF A σ U H → ∃ tx, vk_R own idx tx (σ k) U
theorem sm_str_X9_22 : sm_SR RX9 22 1000000 := fun _ _ _ _ h => ⟨_, h.2.1.1⟩
theorem sm_str_X9_99 : sm_SR RX9 99 1000001 := fun _ _ _ _ h => ⟨_, h.2.1.2.1⟩
theorem sm_str_X9_104 : sm_SR RX9 104 1000002 := fun _ _ _ _ h => ⟨_, h.2.1.2.2.1⟩
theorem sm_str_X0_53 : sm_SR RX0 53 1000003 := fun _ _ _ _ h => ⟨_, h.2.1.2.2.2.1⟩
theorem sm_str_X5_92 : sm_SR RX5 92 1000003 := fun _ _ _ _ h => ⟨_, h.2.1.2.2.2.2⟩
section SmOuter
variable {x : sm_Cx} {md md' : sm_MD} {n : Nat} {K : sm_K} {bc bs : Nat} {T : List sm_Sh} {I : sm_MI} {L : sm_ML} {pc : Nat} {ls : List (Option Value)} {st stk args : List Value} {idx na : Nat}
theorem sm_ldcS {k : Nat} (hx : sm_Ok x md n K) (hd : decode md.2.1 pc = .ok (.ldc idx, 2)) (hs : sm_SR md.1.cls idx k) (hk : Nat.ble 1000000 k = true) (kk : sm_V x bc bs T I L (pc + 2) ls (.ref k :: st)) : sm_V x bc bs T I L pc ls st := by
  intro σ H locs cells slots la hH hP hls hst hc hs'
  obtain ⟨tx, hZ⟩ := hs _ _ _ _ hx.2.2.2.2.2.2.2.2.1
  have hk' := Nat.le_of_ble_eq_true hk
  rw [← hH.2.2.2.2.2.2 k (Or.inr hk')] at hZ
  exact va_ldcS hx.1 hx.2.1 hx.2.2.2.1 hZ hd (kk σ H locs cells slots la hH hP hls (by rw [List.all_cons, Bool.and_eq_true]; exact ⟨sm_blt' (Or.inr hk'), hst⟩) hc hs')
theorem sm_xval {i : Nat} (hx : sm_Ok x md n K) (hd : decode md.2.1 pc = .ok (.getfield idx, 3)) (hl : Cond.fieldLink md.1.cls idx "java/lang/String" "value" "[B" ∈ lw_tbl) (hi : i < 4) (kk : sm_V x bc bs T I L (pc + 3) ls (.ref (1000010 + i) :: st)) : sm_V x bc bs T I L pc ls (.ref (1000000 + i) :: st) := by
  intro σ H locs cells slots la hH hP hls hst hc hs
  rw [List.all_cons, Bool.and_eq_true] at hst
  have hE := (hx.2.2.2.2.2.2.2.2.1.1.1 i hi).2.2.1
  have e1 : sm_x0 x (1000000 + i) = σ (1000000 + i) := (hH.2.2.2.2.2.2 _ (Or.inr (by omega))).symm
  have e2 : sm_x0 x (1000010 + i) = σ (1000010 + i) := (hH.2.2.2.2.2.2 _ (Or.inr (by omega))).symm
  have hE' : va_OF "java/lang/String" "value" "[B" (.ref (σ (1000010 + i))) (σ (1000000 + i)) (sm_xA x) (sm_xs x) (sm_xs x).heap := by rw [← e1, ← e2]; exact hE
  exact vk_getf hx.1 hx.2.1 hE' hH.2.2.1 hx.2.2.2.1 (hx.2.2.2.2.2.1 _ hl rfl) (fun _ h => h) hd (kk σ H locs cells slots la hH hP hls (by rw [List.all_cons, Bool.and_eq_true]; exact ⟨sm_blt' (Or.inr (by omega)), hst.2⟩) hc hs)
theorem sm_xcod {i : Nat} (hx : sm_Ok x md n K) (hd : decode md.2.1 pc = .ok (.getfield idx, 3)) (hl : Cond.fieldLink md.1.cls idx "java/lang/String" "coder" "B" ∈ lw_tbl) (hi : i < 4) (kk : sm_V x bc bs T I L (pc + 3) ls (.int 0 :: st)) : sm_V x bc bs T I L pc ls (.ref (1000000 + i) :: st) := by
  intro σ H locs cells slots la hH hP hls hst hc hs
  rw [List.all_cons, Bool.and_eq_true] at hst
  have hE := (hx.2.2.2.2.2.2.2.2.1.1.1 i hi).2.1
  have e1 : sm_x0 x (1000000 + i) = σ (1000000 + i) := (hH.2.2.2.2.2.2 _ (Or.inr (by omega))).symm
  have hE' : va_OF "java/lang/String" "coder" "B" (.int 0) (σ (1000000 + i)) (sm_xA x) (sm_xs x) (sm_xs x).heap := by rw [← e1]; exact hE
  exact vk_getf hx.1 hx.2.1 hE' hH.2.2.1 hx.2.2.2.1 (hx.2.2.2.2.2.1 _ hl rfl) (fun _ h => h) hd (kk σ H locs cells slots la hH hP hls hst.2 hc hs)
theorem sm_xlen {i : Nat} {v : Int32} (hx : sm_Ok x md n K) (hd : decode md.2.1 pc = .ok (.arraylength, 1)) (hi : i < 4) (hv : Int32.ofNat ([4, 1, 2, 6].getD i 0) = v) (kk : sm_V x bc bs T I L (pc + 1) ls (.int v :: st)) : sm_V x bc bs T I L pc ls (.ref (1000010 + i) :: st) := by
  intro σ H locs cells slots la hH hP hls hst hc hs
  rw [List.all_cons, Bool.and_eq_true] at hst
  have hE := (hx.2.2.2.2.2.2.2.2.1.1.1 i hi).2.2.2
  have e2 : sm_x0 x (1000010 + i) = σ (1000010 + i) := (hH.2.2.2.2.2.2 _ (Or.inr (by omega))).symm
  have hE' : va_T .byte (σ (1000010 + i)) ([4, 1, 2, 6].getD i 0) (fun j => .int ((sm_xbyt.getD i []).getD j 0)) (sm_xA x) (sm_xs x) (sm_xs x).heap := by rw [← e2]; exact hE
  exact va_tlen hx.1 hx.2.1 hE' hH.2.2.1 hv hd (kk σ H locs cells slots la hH hP hls hst.2 hc hs)
theorem sm_xald {i : Nat} {j : Int32} (hx : sm_Ok x md n K) (hd : decode md.2.1 pc = .ok (.baload, 1)) (hi : i < 4) (hj : vp_in j (sm_xlens.getD i 0)) (kk : sm_V x bc bs T I L (pc + 1) ls (.int ((sm_xbyt.getD i []).getD j.toNatClampNeg 0) :: st)) : sm_V x bc bs T I L pc ls (.int j :: .ref (1000010 + i) :: st) := by
  intro σ H locs cells slots la hH hP hls hst hc hs
  rw [List.all_cons, Bool.and_eq_true, List.all_cons, Bool.and_eq_true] at hst
  have hE := (hx.2.2.2.2.2.2.2.2.1.1.1 i hi).2.2.2
  have e2 : sm_x0 x (1000010 + i) = σ (1000010 + i) := (hH.2.2.2.2.2.2 _ (Or.inr (by omega))).symm
  have hE' : va_T .byte (σ (1000010 + i)) (sm_xlens.getD i 0) (fun j => .int ((sm_xbyt.getD i []).getD j 0)) (sm_xA x) (sm_xs x) (sm_xs x).heap := by rw [← e2]; exact hE
  exact va_tb hx.1 hx.2.1 hE' hH.2.2.1 hj rfl hd (kk σ H locs cells slots la hH hP hls hst.2.2 hc hs)
theorem sm_getsC (hx : sm_Ok x md n K) (hd : decode md.2.1 pc = .ok (.getstatic idx, 3)) (hl : Cond.fieldLink md.1.cls idx "java/lang/String" "COMPACT_STRINGS" "Z" ∈ lw_tbl) (kk : sm_V x bc bs T I L (pc + 3) ls (.int 1 :: st)) : sm_V x bc bs T I L pc ls st := by
  intro σ H locs cells slots la hH hP hls hst hc hs
  exact va_gets hx.1 hx.2.1 hx.2.2.2.2.2.2.2.2.1.2.2.1 hH.2.2.1 hx.2.2.2.1 (hx.2.2.2.2.2.1 _ hl rfl) (fun _ h => h) hd (kk σ H locs cells slots la hH hP hls hst hc hs)
theorem sm_biret {F : Int32 → sm_MI → sm_ML → Prop} {z : Int32} (hx : sm_Ok x md n (sm_KI T F)) (hd : decode md.2.1 pc = .ok (.ireturn, 1)) (hr : md.2.2.2 = some .byte) (hz : narrow .byte (.int z) = .int z) (k : F z I L) : sm_V x bc bs T I L pc ls [.int z] := by
  intro σ H locs cells slots la hH hP hls hst hc hs
  exact hx.2.2.2.2.2.2.2.2.2.2.2 σ H locs cells slots la pc (some (.int z)) T I L hH (by omega) (by omega) rfl ⟨rfl, z, rfl, k⟩ ⟨⟨.byte, hr, hz⟩, hd⟩
theorem sm_callVX {bc' bs' : Nat} {K' : sm_K} {k i : Nat} (hx : sm_Ok x md (n + 1) K) (hd : decode md.2.1 pc = .ok (.invokevirtual idx, 3)) (lk : sm_LV md.1.cls idx md' na RJ0) (hstk : stk = args.reverse ++ .ref k :: st) (hna : args.length = na) (hi : i < 4) (hki : k = 1000000 + i) (hcat : Nat.ble ((st.map fun v => v.category).sum) 8 = true) (hb : bc' ≤ bc) (hb' : bs' ≤ bs)
    (hc0 : sm_Call n bc' bs' md' T I L (.ref k :: args) K') (kk : ∀ v T' I' L', K' v T' I' L' → sm_V x (bc - bc') (bs - bs') T' I' L' (pc + 3) ls (v.toList ++ st)) : sm_V x bc bs T I L pc ls stk := by
  subst hstk
  intro σ H locs cells slots la hH hP hls hst hc hs
  rw [List.all_append, List.all_cons, Bool.and_eq_true, Bool.and_eq_true, List.all_reverse] at hst
  obtain ⟨⟨m1, m2, m3, m4, m5⟩, hlink, hinst, hsel⟩ := lk
  have hTB := hx.2.2.2.2.2.1
  have hM := hc0 x.1.2.1 (sm_xD x) (sm_xC x) σ H.size hH.2.2.2.1 hH.2.2.2.2.2.1 (by rw [List.all_cons, Bool.and_eq_true]; exact ⟨hst.2.1, hst.1⟩)
  have hfr := hx.2.2.2.2.2.2.2.2.2.1
  have hlo := hx.2.2.2.2.2.2.2.2.2.2.1
  have hlo' : 8 + (md'.2.2.1 + 11) + (sm_rm n bc' bs').locals ≤ (sm_xR x).locals := by
    show 8 + (md'.2.2.1 + 11) + 60 * n ≤ _
    omega
  have hbc : cells + bc' ≤ (sm_xR x).cells := by omega
  have hbs : slots + bs' ≤ (sm_xR x).slots := by omega
  have hrec := vk_recv (i := i) hx.2.2.2.2.2.2.2.2.1.1 hi hH.2.2.1
  have e1 : sm_x0 x (1000000 + i) = σ k := by rw [hki]; exact (hH.2.2.2.2.2.2 _ (Or.inr (by omega))).symm
  have hrec' : ∃ cell : Cell, H[σ k]? = some cell ∧ cell.vm.isStatics = false ∧ (sm_xs x).vm.findClass RJ0 = some cell.cls := by rw [← e1]; exact hrec
  refine sm_after hx hH hP hls hst.2.2 hc hs hb hb' (va_runV (As := args.map (sm_tr σ)) (Ts := []) (b := σ k) (nL := md.2.2.1) (n := na) ⟨hx.1, hx.2.1, hx.2.2.1, hx.2.2.2.1, fun _ h => nomatch h⟩ hM
    ⟨⟨rfl, rfl, hfr, hlo', sm_words hx m1, List.mem_cons_self, hTB _ m1 rfl, hTB _ m2 rfl, m3, ?_, hTB _ hlink rfl⟩, hTB _ hinst rfl, hTB _ hsel rfl⟩
    ⟨sm_blind, hrec', sm_pre hx hH (.ref k :: args)⟩ rfl (by rw [List.length_map]; exact hna) (hP.1.trans hx.2.2.1) ?_ (lv_room (sm_catb hcat)) hd ⟨hbc, hbs⟩) kk
  · intro sig h
    rw [h] at m4
    exact (Option.some.inj m4).symm
  · show (args.reverse ++ Value.ref k :: st).map (sm_tr σ) = _
    rw [List.map_append, List.map_reverse]
    rfl
theorem sm_callVXI {k i : Nat} {F : Int32 → sm_MI → sm_ML → Prop} (hx : sm_Ok x md (n + 1) K) (hd : decode md.2.1 pc = .ok (.invokevirtual idx, 3)) (lk : sm_LV md.1.cls idx md' na RJ0) (hstk : stk = args.reverse ++ .ref k :: st) (hna : args.length = na) (hi : i < 4) (hki : k = 1000000 + i) (hcat : Nat.ble ((st.map fun v => v.category).sum) 8 = true) (hc0 : sm_CI n md' T I L (.ref k :: args) F) (kk : ∀ z I' L', F z I' L' → sm_V x bc bs T I' L' (pc + 3) ls (.int z :: st)) : sm_V x bc bs T I L pc ls stk := sm_callVX hx hd lk hstk hna hi hki hcat (Nat.zero_le bc) (Nat.zero_le bs) hc0 (fun v T' I' L' q => by obtain ⟨rfl, z, rfl, hF⟩ := q; exact kk z I' L' hF)
theorem sm_callVXZ {k i : Nat} {F : Bool → sm_MI → sm_ML → Prop} (hx : sm_Ok x md (n + 1) K) (hd : decode md.2.1 pc = .ok (.invokevirtual idx, 3)) (lk : sm_LV md.1.cls idx md' na RJ0) (hstk : stk = args.reverse ++ .ref k :: st) (hna : args.length = na) (hi : i < 4) (hki : k = 1000000 + i) (hcat : Nat.ble ((st.map fun v => v.category).sum) 8 = true) (hc0 : sm_CZ n md' T I L (.ref k :: args) F) (kk : ∀ z I' L', F z I' L' → sm_V x bc bs T I' L' (pc + 3) ls (.int (sm_z z) :: st)) : sm_V x bc bs T I L pc ls stk := sm_callVX hx hd lk hstk hna hi hki hcat (Nat.zero_le bc) (Nat.zero_le bs) hc0 (fun v T' I' L' q => by obtain ⟨rfl, z, rfl, hF⟩ := q; exact kk z I' L' hF)
end SmOuter
