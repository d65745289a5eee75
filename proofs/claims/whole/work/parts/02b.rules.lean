/-! BASE 2. The context of a method's walk, the judgement sm_V over numbered worlds, and its rules, an instruction each (laid by program: wip/gen/rules.py). -/
abbrev sm_MD : Type := MethodName × ByteArray × Nat × Option FieldType
abbrev sm_K : Type := Option Value → List sm_Sh → sm_MI → sm_ML → Prop
def sm_tys (cA : FieldType → ClassId) : List (ClassId × FieldType) := [(cA .int, .int), (cA .long, .long), (cA .boolean, .boolean), (cA (.object "java/lang/Object"), .object "java/lang/Object")]
def sm_nst : Cond → Bool
  | .fieldLinkNest _ _ _ _ _ _ => true
  | .methodLinkNest _ _ _ _ => true
  | .castable _ _ => true
  | .arrayOver (.object _) => true
  | _ => false
def sm_gd (w : Cond) : Bool := goodWord w || sm_nst w
def sm_TB (args : Array Value) (U : State) : Prop := ∀ w ∈ lw_tbl, sm_gd w = true → w.before args U = true
theorem sm_TB.warm {args args' : Array Value} {s U : State} (hW : s.WarmedH U.vm) (h : sm_TB args s) : sm_TB args' U := by
  intro w hw hg
  rcases Bool.or_eq_true_iff.mp hg with g | g
  · exact word_at hW (good_of_word g) (h w hw hg)
  · cases w with
    | fieldLinkNest a i b n d h' => exact va_Nw.use rfl (va_Nw.warmF hW (va_Nw.of rfl (h _ hw hg)))
    | methodLinkNest a i x h' => exact va_Nw.use rfl (va_Nw.warmM hW (va_Nw.of rfl (h _ hw hg)))
    | castable a b => exact va_Nw.use rfl (va_Nw.warmC hW (va_Nw.of rfl (h _ hw hg)))
    | arrayOver ty =>
      cases ty with
      | object C => exact va_AO.use (va_AO.moved hW.alike (va_AO.of (h _ hw hg)))
      | _ => cases g
    | _ => cases g
def sm_XF (A : Nat → Prop) (σ : Nat → Nat) (U : State) (H : Heap) : Prop :=
  vk_S 4 [4, 1, 2, 6] [[97, 115, 107, 101], [97], [112, 103], [110, 104, 115, 113, 109, 119]] (fun i => σ (1000000 + i)) (fun i => σ (1000010 + i)) A U H ∧
  (vk_R RX9 22 "aske" (σ 1000000) U ∧ vk_R RX9 99 "a" (σ 1000001) U ∧ vk_R RX9 104 "pg" (σ 1000002) U ∧ vk_R RX0 53 "nhsqmw" (σ 1000003) U ∧ vk_R RX5 92 "nhsqmw" (σ 1000003) U) ∧
  va_Z "java/lang/String" "COMPACT_STRINGS" "Z" (.int 1) A U H ∧
  va_Z "java/util/ArrayList" "DEFAULTCAPACITY_EMPTY_ELEMENTDATA" "[Ljava/lang/Object;" (.ref (σ 1000020)) A U H ∧
  va_T (.object "java/lang/Object") (σ 1000020) 0 (fun _ => .null) A U H
theorem sm_XF.mv {A B : Nat → Prop} {σ σ' : Nat → Nat} {s U : State} {H H1 : Heap} (h : sm_XF A σ s H) (hW : s.WarmedH U.vm) (hk : ∀ a : Nat, a < H.size → ¬ A a → H1[a]? = H[a]?) (hAB : ∀ q, B q → A q) (hσ : ∀ k, 1000000 ≤ k → σ' k = σ k) : sm_XF B σ' U H1 := by
  obtain ⟨h1, ⟨r1, r2, r3, r4, r5⟩, h3, h4, h5⟩ := h
  have e1 : (fun i => σ' (1000000 + i)) = (fun i => σ (1000000 + i)) := by funext i; exact hσ _ (by omega)
  have e2 : (fun i => σ' (1000010 + i)) = (fun i => σ (1000010 + i)) := by funext i; exact hσ _ (by omega)
  refine ⟨?_, ⟨?_, ?_, ?_, ?_, ?_⟩, ?_, ?_, ?_⟩
  · rw [e1, e2]; exact ((h1.moved hW.alike).kept hk).narrow hAB
  · rw [hσ _ (by omega)]; exact r1.warm hW
  · rw [hσ _ (by omega)]; exact r2.warm hW
  · rw [hσ _ (by omega)]; exact r3.warm hW
  · rw [hσ _ (by omega)]; exact r4.warm hW
  · rw [hσ _ (by omega)]; exact r5.warm hW
  · exact ((h3.moved hW.alike).kept hk).narrow hAB
  · rw [hσ _ (by omega)]; exact ((h4.moved hW.alike).kept hk).narrow hAB
  · rw [hσ _ (by omega)]; exact ((h5.moved hW.alike).kept hk).narrow hAB
/-- the context of a walk: the machine's part, the method's part and the goal, the world's tables (classes, array classes, what may be written, the address map at the method's start, how many cells there were) -/
abbrev sm_Cx : Type := (Program × Launch × Env × Room × State × MethodId × Array Value × List Frame) × (Method × Code × (State → Prop)) × (va_G × (FieldType → ClassId) × (Nat → Prop) × (Nat → Nat) × Nat)
abbrev sm_xp (x : sm_Cx) : Program := x.1.1
abbrev sm_xR (x : sm_Cx) : Room := x.1.2.2.2.1
abbrev sm_xs (x : sm_Cx) : State := x.1.2.2.2.2.1
abbrev sm_xm (x : sm_Cx) : MethodId := x.1.2.2.2.2.2.1
abbrev sm_xa (x : sm_Cx) : Array Value := x.1.2.2.2.2.2.2.1
abbrev sm_xt (x : sm_Cx) : Method := x.2.1.1
abbrev sm_xc (x : sm_Cx) : Code := x.2.1.2.1
abbrev sm_xD (x : sm_Cx) : va_G := x.2.2.1
abbrev sm_xA (x : sm_Cx) : Nat → Prop := x.2.2.2.2.1
abbrev sm_xC (x : sm_Cx) : FieldType → ClassId := x.2.2.2.1
abbrev sm_x0 (x : sm_Cx) : Nat → Nat := x.2.2.2.2.2.1
abbrev sm_xn (x : sm_Cx) : Nat := x.2.2.2.2.2.2
def sm_W (x : sm_Cx) (H : Heap) (locs : List Loc) (cells slots : Nat) (g : JFrame) : Prop := W x.1.1 x.1.2.1 x.1.2.2.1 x.1.2.2.2.1 x.1.2.2.2.2.1 x.1.2.2.2.2.2.1 x.1.2.2.2.2.2.2.1 x.1.2.2.2.2.2.2.2 x.2.1.1 x.2.1.2.1 H locs cells slots x.2.1.2.2 g
/-- the world, at an address map -/
def sm_H (x : sm_Cx) (σ : Nat → Nat) (T : List sm_Sh) (I : sm_MI) (L : sm_ML) (H : Heap) (locs : List Loc) : Prop :=
  va_P (sm_xD x) vwCl (sm_cn (sm_xC x) σ I L 0 T) H ∧ va_D (sm_xA x) (sm_cn (sm_xC x) σ I L 0 T) ∧ va_S (sm_xA x) (sm_xs x).heap H locs ∧ sm_okT T.length T = true ∧ sm_xn x ≤ T.length ∧ T.length < 1000000 ∧ sm_agr (sm_xn x) σ (sm_x0 x)
/-- THE JUDGEMENT: from this pc, these locals, this stack, this world, with room for bc more cells of bs slots, the machine comes to the context's goal -/
def sm_V (x : sm_Cx) (bc bs : Nat) (T : List sm_Sh) (I : sm_MI) (L : sm_ML) (pc : Nat) (ls : List (Option Value)) (st : List Value) : Prop :=
  ∀ (σ : Nat → Nat) (H : Heap) (locs : List Loc) (cells slots : Nat) (la : Array Slot), sm_H x σ T I L H locs → sm_PL σ la (sm_xc x).maxLocals ls → ls.all (sm_okO T.length) = true → st.all (sm_ok T.length) = true → cells + bc ≤ (sm_xR x).cells → slots + bs ≤ (sm_xR x).slots → sm_W x H locs cells slots (F0 (sm_xm x) pc la (st.map (sm_tr σ)))
def sm_rd (cc : ByteArray) (pc : Nat) (ret : Option FieldType) : Option Value → Prop
  | none => ret = none ∧ decode cc pc = .ok (.return_, 1)
  | some (.int z) => (∃ ty, ret = some ty ∧ narrow ty (.int z) = .int z) ∧ decode cc pc = .ok (.ireturn, 1)
  | some (.long _) => ret = some .long ∧ decode cc pc = .ok (.lreturn, 1)
  | some (.ref _) => (∃ rt, ret = some rt ∧ ((∃ n, rt = .object n) ∨ ∃ t, rt = .array t)) ∧ decode cc pc = .ok (.areturn, 1)
  | some .null => (∃ rt, ret = some rt ∧ ((∃ n, rt = .object n) ∨ ∃ t, rt = .array t)) ∧ decode cc pc = .ok (.areturn, 1)
  | _ => False
/-- what a context keeps of the method md, with n calls' room ahead, and K owed at its end -/
def sm_Ok (x : sm_Cx) (md : sm_MD) (n : Nat) (K : sm_K) : Prop :=
  (sm_xp x).tables.exec = Jvm.exec ∧ (sm_xc x).code = md.2.1 ∧ (sm_xc x).maxLocals = md.2.2.1 ∧ (sm_xs x).vm.findClass md.1.cls = some (sm_xm x).cls ∧ (sm_xt x).name = md.1.name ∧ sm_TB (sm_xa x) (sm_xs x) ∧ va_K (sm_xD x) vwCl (sm_tys (sm_xC x)) (sm_xs x) ∧ (∀ q, (sm_xs x).heap.size ≤ q → sm_xA x q) ∧ sm_XF (sm_xA x) (sm_x0 x) (sm_xs x) (sm_xs x).heap ∧ n ≤ (sm_xR x).frames ∧ 60 * n ≤ (sm_xR x).locals ∧
  ∀ (σ : Nat → Nat) (H : Heap) (locs : List Loc) (cells slots : Nat) (la : Array Slot) (pc : Nat) (v : Option Value) (T : List sm_Sh) (I : sm_MI) (L : sm_ML), sm_H x σ T I L H locs → cells ≤ (sm_xR x).cells → slots ≤ (sm_xR x).slots → sm_okO T.length v = true → K v T I L → sm_rd md.2.1 pc md.2.2.2 v → sm_W x H locs cells slots (F0 (sm_xm x) pc la ((v.map (sm_tr σ)).toList))
/-- a truth as an int -/
def sm_z (b : Bool) : Int32 := bif b then 1 else 0
section SmRules
variable {x : sm_Cx} {md : sm_MD} {n : Nat} {K : sm_K} {bc bs : Nat} {T : List sm_Sh} {I : sm_MI} {L : sm_ML} {pc nx : Nat} {ls : List (Option Value)} {st : List Value}

theorem sm_iconst {c : Int} {v : Int32} (hx : sm_Ok x md n K) (hd : decode md.2.1 pc = .ok (.iconst c, 1)) (hv : Int32.ofInt c = v) (k : sm_V x bc bs T I L (pc + 1) ls (.int v :: st)) : sm_V x bc bs T I L pc ls st := by
  intro σ H locs cells slots la hH hP hls hst hc hs
  exact lv_iconst hx.1 hx.2.1 hd hv (k σ H locs cells slots la hH hP hls hst hc hs)
theorem sm_bipush {c : Int} {v : Int32} (hx : sm_Ok x md n K) (hd : decode md.2.1 pc = .ok (.bipush c, 2)) (hv : (Int8.ofInt c).toInt32 = v) (k : sm_V x bc bs T I L (pc + 2) ls (.int v :: st)) : sm_V x bc bs T I L pc ls st := by
  intro σ H locs cells slots la hH hP hls hst hc hs
  exact lv_bipush hx.1 hx.2.1 hd hv (k σ H locs cells slots la hH hP hls hst hc hs)
theorem sm_sipush {c : Int} {v : Int32} (hx : sm_Ok x md n K) (hd : decode md.2.1 pc = .ok (.sipush c, 3)) (hv : (Int16.ofInt c).toInt32 = v) (k : sm_V x bc bs T I L (pc + 3) ls (.int v :: st)) : sm_V x bc bs T I L pc ls st := by
  intro σ H locs cells slots la hH hP hls hst hc hs
  exact lv_sipush hx.1 hx.2.1 hd hv (k σ H locs cells slots la hH hP hls hst hc hs)
theorem sm_lconst {c : Fin 2} {v : Int64} (hx : sm_Ok x md n K) (hd : decode md.2.1 pc = .ok (.lconst c, 1)) (hv : Int64.ofNat (c : Nat) = v) (k : sm_V x bc bs T I L (pc + 1) ls (.long v :: st)) : sm_V x bc bs T I L pc ls st := by
  intro σ H locs cells slots la hH hP hls hst hc hs
  exact lv_lconst hx.1 hx.2.1 hd hv (k σ H locs cells slots la hH hP hls hst hc hs)
theorem sm_null (hx : sm_Ok x md n K) (hd : decode md.2.1 pc = .ok (.aconst_null, 1)) (k : sm_V x bc bs T I L (pc + 1) ls (.null :: st)) : sm_V x bc bs T I L pc ls st := by
  intro σ H locs cells slots la hH hP hls hst hc hs
  exact lv_null hx.1 hx.2.1 hd (k σ H locs cells slots la hH hP hls hst hc hs)
theorem sm_ldc {idx : Nat} {v : Int32} (hx : sm_Ok x md n K) (hd : decode md.2.1 pc = .ok (.ldc idx, 2)) (hw : Cond.constant md.1.cls idx v ∈ lw_tbl) (k : sm_V x bc bs T I L (pc + 2) ls (.int v :: st)) : sm_V x bc bs T I L pc ls st := by
  intro σ H locs cells slots la hH hP hls hst hc hs
  exact lv_ldc hx.1 hx.2.1 hx.2.2.2.1 (hx.2.2.2.2.2.1 _ hw rfl) hd (k σ H locs cells slots la hH hP hls hst hc hs)
theorem sm_ldcw {idx : Nat} {v : Int32} (hx : sm_Ok x md n K) (hd : decode md.2.1 pc = .ok (.ldc_w idx, 3)) (hw : Cond.constant md.1.cls idx v ∈ lw_tbl) (k : sm_V x bc bs T I L (pc + 3) ls (.int v :: st)) : sm_V x bc bs T I L pc ls st := by
  intro σ H locs cells slots la hH hP hls hst hc hs
  exact lv_ldcw hx.1 hx.2.1 hx.2.2.2.1 (hx.2.2.2.2.2.1 _ hw rfl) hd (k σ H locs cells slots la hH hP hls hst hc hs)
theorem sm_ldc2 {idx : Nat} {v : Int64} (hx : sm_Ok x md n K) (hd : decode md.2.1 pc = .ok (.ldc2_w idx, 3)) (hw : Cond.constantLong md.1.cls idx v ∈ lw_tbl) (k : sm_V x bc bs T I L (pc + 3) ls (.long v :: st)) : sm_V x bc bs T I L pc ls st := by
  intro σ H locs cells slots la hH hP hls hst hc hs
  exact lv_ldc2 hx.1 hx.2.1 hx.2.2.2.1 (hx.2.2.2.2.2.1 _ hw rfl) hd (k σ H locs cells slots la hH hP hls hst hc hs)
theorem sm_iload {i : Nat} {z : Int32} (hx : sm_Ok x md n K) (hd : decode md.2.1 pc = .ok (.iload i, 2)) (hl : ls[i]? = some (some (.int z))) (k : sm_V x bc bs T I L (pc + 2) ls (.int z :: st)) : sm_V x bc bs T I L pc ls st := by
  intro σ H locs cells slots la hH hP hls hst hc hs
  exact lv_iload hx.1 hx.2.1 hd (hP.at hl) (k σ H locs cells slots la hH hP hls hst hc hs)
theorem sm_iload_n {i : Fin 4} {z : Int32} (hx : sm_Ok x md n K) (hd : decode md.2.1 pc = .ok (.iload_n i, 1)) (hl : ls[(i : Nat)]? = some (some (.int z))) (k : sm_V x bc bs T I L (pc + 1) ls (.int z :: st)) : sm_V x bc bs T I L pc ls st := by
  intro σ H locs cells slots la hH hP hls hst hc hs
  exact lv_iload_n hx.1 hx.2.1 hd rfl (hP.at hl) (k σ H locs cells slots la hH hP hls hst hc hs)
theorem sm_lload {i : Nat} {z : Int64} (hx : sm_Ok x md n K) (hd : decode md.2.1 pc = .ok (.lload i, 2)) (hl : ls[i]? = some (some (.long z))) (k : sm_V x bc bs T I L (pc + 2) ls (.long z :: st)) : sm_V x bc bs T I L pc ls st := by
  intro σ H locs cells slots la hH hP hls hst hc hs
  exact lv_lload hx.1 hx.2.1 hd (hP.at hl) (k σ H locs cells slots la hH hP hls hst hc hs)
theorem sm_lload_n {i : Fin 4} {z : Int64} (hx : sm_Ok x md n K) (hd : decode md.2.1 pc = .ok (.lload_n i, 1)) (hl : ls[(i : Nat)]? = some (some (.long z))) (k : sm_V x bc bs T I L (pc + 1) ls (.long z :: st)) : sm_V x bc bs T I L pc ls st := by
  intro σ H locs cells slots la hH hP hls hst hc hs
  exact lv_lload_n hx.1 hx.2.1 hd rfl (hP.at hl) (k σ H locs cells slots la hH hP hls hst hc hs)
theorem sm_aload {i : Nat} {z : Nat} (hx : sm_Ok x md n K) (hd : decode md.2.1 pc = .ok (.aload i, 2)) (hl : ls[i]? = some (some (.ref z))) (k : sm_V x bc bs T I L (pc + 2) ls (.ref z :: st)) : sm_V x bc bs T I L pc ls st := by
  intro σ H locs cells slots la hH hP hls hst hc hs
  exact lv_aload hx.1 hx.2.1 hd (hP.at hl) (k σ H locs cells slots la hH hP hls (by rw [List.all_cons, Bool.and_eq_true]; exact ⟨sm_ok_at hls hl, hst⟩) hc hs)
theorem sm_aload_n {i : Fin 4} {z : Nat} (hx : sm_Ok x md n K) (hd : decode md.2.1 pc = .ok (.aload_n i, 1)) (hl : ls[(i : Nat)]? = some (some (.ref z))) (k : sm_V x bc bs T I L (pc + 1) ls (.ref z :: st)) : sm_V x bc bs T I L pc ls st := by
  intro σ H locs cells slots la hH hP hls hst hc hs
  exact lv_aload_n hx.1 hx.2.1 hd rfl (hP.at hl) (k σ H locs cells slots la hH hP hls (by rw [List.all_cons, Bool.and_eq_true]; exact ⟨sm_ok_at hls hl, hst⟩) hc hs)
theorem sm_aloadN {i : Nat} (hx : sm_Ok x md n K) (hd : decode md.2.1 pc = .ok (.aload i, 2)) (hl : ls[i]? = some (some .null)) (k : sm_V x bc bs T I L (pc + 2) ls (.null :: st)) : sm_V x bc bs T I L pc ls st := by
  intro σ H locs cells slots la hH hP hls hst hc hs
  exact lv_aloadN hx.1 hx.2.1 hd (hP.at hl) (k σ H locs cells slots la hH hP hls hst hc hs)
theorem sm_aload_nN {i : Fin 4} (hx : sm_Ok x md n K) (hd : decode md.2.1 pc = .ok (.aload_n i, 1)) (hl : ls[(i : Nat)]? = some (some .null)) (k : sm_V x bc bs T I L (pc + 1) ls (.null :: st)) : sm_V x bc bs T I L pc ls st := by
  intro σ H locs cells slots la hH hP hls hst hc hs
  exact lv_aload_nN hx.1 hx.2.1 hd rfl (hP.at hl) (k σ H locs cells slots la hH hP hls hst hc hs)
theorem sm_istore {i : Nat} {z : Int32} {ls' : List (Option Value)} (hx : sm_Ok x md n K) (hd : decode md.2.1 pc = .ok (.istore i, 2)) (hi : i < md.2.2.1) (hl : sm_st1 ls i (.int z) = ls') (k : sm_V x bc bs T I L (pc + 2) ls' st) : sm_V x bc bs T I L pc ls (.int z :: st) := by
  intro σ H locs cells slots la hH hP hls hst hc hs
  subst hl
  exact lv_istore hx.1 hx.2.1 hd hP (by rw [hx.2.2.1]; exact hi) rfl (fun la' h9 => k σ H locs cells slots la' hH (sm_PL.of h9 (sm_PL.st1 (v := .int z) hP)) (sm_ok_st1 hls rfl) (by rw [List.all_cons, Bool.and_eq_true] at hst; exact hst.2) hc hs)
theorem sm_istore_n {i : Fin 4} {z : Int32} {ls' : List (Option Value)} (hx : sm_Ok x md n K) (hd : decode md.2.1 pc = .ok (.istore_n i, 1)) (hi : (i : Nat) < md.2.2.1) (hl : sm_st1 ls (i : Nat) (.int z) = ls') (k : sm_V x bc bs T I L (pc + 1) ls' st) : sm_V x bc bs T I L pc ls (.int z :: st) := by
  intro σ H locs cells slots la hH hP hls hst hc hs
  subst hl
  exact lv_istore_n hx.1 hx.2.1 hd rfl hP (by rw [hx.2.2.1]; exact hi) rfl (fun la' h9 => k σ H locs cells slots la' hH (sm_PL.of h9 (sm_PL.st1 (v := .int z) hP)) (sm_ok_st1 hls rfl) (by rw [List.all_cons, Bool.and_eq_true] at hst; exact hst.2) hc hs)
theorem sm_lstore {i : Nat} {z : Int64} {ls' : List (Option Value)} (hx : sm_Ok x md n K) (hd : decode md.2.1 pc = .ok (.lstore i, 2)) (hi : i + 1 < md.2.2.1) (hl : sm_st2 ls i (.long z) = ls') (k : sm_V x bc bs T I L (pc + 2) ls' st) : sm_V x bc bs T I L pc ls (.long z :: st) := by
  intro σ H locs cells slots la hH hP hls hst hc hs
  subst hl
  exact lv_lstore hx.1 hx.2.1 hd hP (by rw [hx.2.2.1]; exact hi) rfl (fun la' h9 => k σ H locs cells slots la' hH (sm_PL.of h9 (sm_PL.st2 (v := .long z) hP)) (sm_ok_st2 hls rfl) (by rw [List.all_cons, Bool.and_eq_true] at hst; exact hst.2) hc hs)
theorem sm_lstore_n {i : Fin 4} {z : Int64} {ls' : List (Option Value)} (hx : sm_Ok x md n K) (hd : decode md.2.1 pc = .ok (.lstore_n i, 1)) (hi : (i : Nat) + 1 < md.2.2.1) (hl : sm_st2 ls (i : Nat) (.long z) = ls') (k : sm_V x bc bs T I L (pc + 1) ls' st) : sm_V x bc bs T I L pc ls (.long z :: st) := by
  intro σ H locs cells slots la hH hP hls hst hc hs
  subst hl
  exact lv_lstore_n hx.1 hx.2.1 hd rfl hP (by rw [hx.2.2.1]; exact hi) rfl (fun la' h9 => k σ H locs cells slots la' hH (sm_PL.of h9 (sm_PL.st2 (v := .long z) hP)) (sm_ok_st2 hls rfl) (by rw [List.all_cons, Bool.and_eq_true] at hst; exact hst.2) hc hs)
theorem sm_astore {i : Nat} {z : Nat} {ls' : List (Option Value)} (hx : sm_Ok x md n K) (hd : decode md.2.1 pc = .ok (.astore i, 2)) (hi : i < md.2.2.1) (hl : sm_st1 ls i (.ref z) = ls') (k : sm_V x bc bs T I L (pc + 2) ls' st) : sm_V x bc bs T I L pc ls (.ref z :: st) := by
  intro σ H locs cells slots la hH hP hls hst hc hs
  subst hl
  exact lv_astore hx.1 hx.2.1 hd hP (by rw [hx.2.2.1]; exact hi) rfl (fun la' h9 => k σ H locs cells slots la' hH (sm_PL.of h9 (sm_PL.st1 (v := .ref z) hP)) (sm_ok_st1 hls (List.all_eq_true.mp hst _ List.mem_cons_self)) (by rw [List.all_cons, Bool.and_eq_true] at hst; exact hst.2) hc hs)
theorem sm_astore_n {i : Fin 4} {z : Nat} {ls' : List (Option Value)} (hx : sm_Ok x md n K) (hd : decode md.2.1 pc = .ok (.astore_n i, 1)) (hi : (i : Nat) < md.2.2.1) (hl : sm_st1 ls (i : Nat) (.ref z) = ls') (k : sm_V x bc bs T I L (pc + 1) ls' st) : sm_V x bc bs T I L pc ls (.ref z :: st) := by
  intro σ H locs cells slots la hH hP hls hst hc hs
  subst hl
  exact lv_astore_n hx.1 hx.2.1 hd rfl hP (by rw [hx.2.2.1]; exact hi) rfl (fun la' h9 => k σ H locs cells slots la' hH (sm_PL.of h9 (sm_PL.st1 (v := .ref z) hP)) (sm_ok_st1 hls (List.all_eq_true.mp hst _ List.mem_cons_self)) (by rw [List.all_cons, Bool.and_eq_true] at hst; exact hst.2) hc hs)
theorem sm_astoreN {i : Nat} {ls' : List (Option Value)} (hx : sm_Ok x md n K) (hd : decode md.2.1 pc = .ok (.astore i, 2)) (hi : i < md.2.2.1) (hl : sm_st1 ls i .null = ls') (k : sm_V x bc bs T I L (pc + 2) ls' st) : sm_V x bc bs T I L pc ls (.null :: st) := by
  intro σ H locs cells slots la hH hP hls hst hc hs
  subst hl
  exact lv_astoreN hx.1 hx.2.1 hd hP (by rw [hx.2.2.1]; exact hi) rfl (fun la' h9 => k σ H locs cells slots la' hH (sm_PL.of h9 (sm_PL.st1 (v := .null) hP)) (sm_ok_st1 hls rfl) (by rw [List.all_cons, Bool.and_eq_true] at hst; exact hst.2) hc hs)
theorem sm_astore_nN {i : Fin 4} {ls' : List (Option Value)} (hx : sm_Ok x md n K) (hd : decode md.2.1 pc = .ok (.astore_n i, 1)) (hi : (i : Nat) < md.2.2.1) (hl : sm_st1 ls (i : Nat) .null = ls') (k : sm_V x bc bs T I L (pc + 1) ls' st) : sm_V x bc bs T I L pc ls (.null :: st) := by
  intro σ H locs cells slots la hH hP hls hst hc hs
  subst hl
  exact lv_astore_nN hx.1 hx.2.1 hd rfl hP (by rw [hx.2.2.1]; exact hi) rfl (fun la' h9 => k σ H locs cells slots la' hH (sm_PL.of h9 (sm_PL.st1 (v := .null) hP)) (sm_ok_st1 hls rfl) (by rw [List.all_cons, Bool.and_eq_true] at hst; exact hst.2) hc hs)
theorem sm_iinc {i : Nat} {c : Int} {z v : Int32} {ls' : List (Option Value)} (hx : sm_Ok x md n K) (hd : decode md.2.1 pc = .ok (.iinc i c, 3)) (h0 : ls[i]? = some (some (.int z))) (hv : z + Int32.ofInt c = v) (hi : i < md.2.2.1) (hl : sm_st1 ls i (.int v) = ls') (k : sm_V x bc bs T I L (pc + 3) ls' st) : sm_V x bc bs T I L pc ls st := by
  intro σ H locs cells slots la hH hP hls hst hc hs
  subst hl
  have hm : ((i, Value.int z) : Nat × Value) ∈ sm_as σ 0 ls := (sm_as_mem ls 0).mpr ⟨i, .int z, h0, by simp [sm_tr]⟩
  obtain ⟨j, hj⟩ := List.getElem?_of_mem hm
  exact lv_iinc hx.1 hx.2.1 hd hP hj hv (by rw [hx.2.2.1]; exact hi) rfl (fun la' h9 => k σ H locs cells slots la' hH (sm_PL.of h9 (sm_PL.st1 (v := .int v) hP)) (sm_ok_st1 hls rfl) hst hc hs)
theorem sm_iadd {a b : Int32} (hx : sm_Ok x md n K) (hd : decode md.2.1 pc = .ok (.iadd, 1)) (k : sm_V x bc bs T I L (pc + 1) ls (.int (a + b) :: st)) : sm_V x bc bs T I L pc ls (.int b :: .int a :: st) := by
  intro σ H locs cells slots la hH hP hls hst hc hs
  exact lv_iadd hx.1 hx.2.1 hd (k σ H locs cells slots la hH hP hls (by rw [List.all_cons, Bool.and_eq_true, List.all_cons, Bool.and_eq_true] at hst; exact hst.2.2) hc hs)
theorem sm_isub {a b : Int32} (hx : sm_Ok x md n K) (hd : decode md.2.1 pc = .ok (.isub, 1)) (k : sm_V x bc bs T I L (pc + 1) ls (.int (a - b) :: st)) : sm_V x bc bs T I L pc ls (.int b :: .int a :: st) := by
  intro σ H locs cells slots la hH hP hls hst hc hs
  exact lv_isub hx.1 hx.2.1 hd (k σ H locs cells slots la hH hP hls (by rw [List.all_cons, Bool.and_eq_true, List.all_cons, Bool.and_eq_true] at hst; exact hst.2.2) hc hs)
theorem sm_imul {a b : Int32} (hx : sm_Ok x md n K) (hd : decode md.2.1 pc = .ok (.imul, 1)) (k : sm_V x bc bs T I L (pc + 1) ls (.int (a * b) :: st)) : sm_V x bc bs T I L pc ls (.int b :: .int a :: st) := by
  intro σ H locs cells slots la hH hP hls hst hc hs
  exact lv_imul hx.1 hx.2.1 hd (k σ H locs cells slots la hH hP hls (by rw [List.all_cons, Bool.and_eq_true, List.all_cons, Bool.and_eq_true] at hst; exact hst.2.2) hc hs)
theorem sm_iand {a b : Int32} (hx : sm_Ok x md n K) (hd : decode md.2.1 pc = .ok (.iand, 1)) (k : sm_V x bc bs T I L (pc + 1) ls (.int (a &&& b) :: st)) : sm_V x bc bs T I L pc ls (.int b :: .int a :: st) := by
  intro σ H locs cells slots la hH hP hls hst hc hs
  exact lv_iand hx.1 hx.2.1 hd (k σ H locs cells slots la hH hP hls (by rw [List.all_cons, Bool.and_eq_true, List.all_cons, Bool.and_eq_true] at hst; exact hst.2.2) hc hs)
theorem sm_ior {a b : Int32} (hx : sm_Ok x md n K) (hd : decode md.2.1 pc = .ok (.ior, 1)) (k : sm_V x bc bs T I L (pc + 1) ls (.int (a ||| b) :: st)) : sm_V x bc bs T I L pc ls (.int b :: .int a :: st) := by
  intro σ H locs cells slots la hH hP hls hst hc hs
  exact lv_ior hx.1 hx.2.1 hd (k σ H locs cells slots la hH hP hls (by rw [List.all_cons, Bool.and_eq_true, List.all_cons, Bool.and_eq_true] at hst; exact hst.2.2) hc hs)
theorem sm_ixor {a b : Int32} (hx : sm_Ok x md n K) (hd : decode md.2.1 pc = .ok (.ixor, 1)) (k : sm_V x bc bs T I L (pc + 1) ls (.int (a ^^^ b) :: st)) : sm_V x bc bs T I L pc ls (.int b :: .int a :: st) := by
  intro σ H locs cells slots la hH hP hls hst hc hs
  exact lv_ixor hx.1 hx.2.1 hd (k σ H locs cells slots la hH hP hls (by rw [List.all_cons, Bool.and_eq_true, List.all_cons, Bool.and_eq_true] at hst; exact hst.2.2) hc hs)
theorem sm_ishl {a b : Int32} (hx : sm_Ok x md n K) (hd : decode md.2.1 pc = .ok (.ishl, 1)) (k : sm_V x bc bs T I L (pc + 1) ls (.int (a <<< (b &&& 31)) :: st)) : sm_V x bc bs T I L pc ls (.int b :: .int a :: st) := by
  intro σ H locs cells slots la hH hP hls hst hc hs
  exact lv_ishl hx.1 hx.2.1 hd (k σ H locs cells slots la hH hP hls (by rw [List.all_cons, Bool.and_eq_true, List.all_cons, Bool.and_eq_true] at hst; exact hst.2.2) hc hs)
theorem sm_ishr {a b : Int32} (hx : sm_Ok x md n K) (hd : decode md.2.1 pc = .ok (.ishr, 1)) (k : sm_V x bc bs T I L (pc + 1) ls (.int (a >>> (b &&& 31)) :: st)) : sm_V x bc bs T I L pc ls (.int b :: .int a :: st) := by
  intro σ H locs cells slots la hH hP hls hst hc hs
  exact lv_ishr hx.1 hx.2.1 hd (k σ H locs cells slots la hH hP hls (by rw [List.all_cons, Bool.and_eq_true, List.all_cons, Bool.and_eq_true] at hst; exact hst.2.2) hc hs)
theorem sm_iushr {a b : Int32} (hx : sm_Ok x md n K) (hd : decode md.2.1 pc = .ok (.iushr, 1)) (k : sm_V x bc bs T I L (pc + 1) ls (.int ((a.toUInt32 >>> (b.toUInt32 &&& Int32.toUInt32 31)).toInt32) :: st)) : sm_V x bc bs T I L pc ls (.int b :: .int a :: st) := by
  intro σ H locs cells slots la hH hP hls hst hc hs
  exact lv_iushr hx.1 hx.2.1 hd rfl (k σ H locs cells slots la hH hP hls (by rw [List.all_cons, Bool.and_eq_true, List.all_cons, Bool.and_eq_true] at hst; exact hst.2.2) hc hs)
theorem sm_idiv {a b : Int32} (hx : sm_Ok x md n K) (hd : decode md.2.1 pc = .ok (.idiv, 1)) (hn : ¬ b = 0) (k : sm_V x bc bs T I L (pc + 1) ls (.int (a / b) :: st)) : sm_V x bc bs T I L pc ls (.int b :: .int a :: st) := by
  intro σ H locs cells slots la hH hP hls hst hc hs
  exact lv_idiv hx.1 hx.2.1 hd hn (k σ H locs cells slots la hH hP hls (by rw [List.all_cons, Bool.and_eq_true, List.all_cons, Bool.and_eq_true] at hst; exact hst.2.2) hc hs)
theorem sm_irem {a b : Int32} (hx : sm_Ok x md n K) (hd : decode md.2.1 pc = .ok (.irem, 1)) (hn : ¬ b = 0) (k : sm_V x bc bs T I L (pc + 1) ls (.int (a - a / b * b) :: st)) : sm_V x bc bs T I L pc ls (.int b :: .int a :: st) := by
  intro σ H locs cells slots la hH hP hls hst hc hs
  exact lv_irem hx.1 hx.2.1 hd hn (k σ H locs cells slots la hH hP hls (by rw [List.all_cons, Bool.and_eq_true, List.all_cons, Bool.and_eq_true] at hst; exact hst.2.2) hc hs)
theorem sm_ineg {a : Int32} (hx : sm_Ok x md n K) (hd : decode md.2.1 pc = .ok (.ineg, 1)) (k : sm_V x bc bs T I L (pc + 1) ls (.int (-a) :: st)) : sm_V x bc bs T I L pc ls (.int a :: st) := by
  intro σ H locs cells slots la hH hP hls hst hc hs
  exact lv_ineg hx.1 hx.2.1 hd (k σ H locs cells slots la hH hP hls hst hc hs)
theorem sm_ladd {a b : Int64} (hx : sm_Ok x md n K) (hd : decode md.2.1 pc = .ok (.ladd, 1)) (k : sm_V x bc bs T I L (pc + 1) ls (.long (a + b) :: st)) : sm_V x bc bs T I L pc ls (.long b :: .long a :: st) := by
  intro σ H locs cells slots la hH hP hls hst hc hs
  exact lv_ladd hx.1 hx.2.1 hd (k σ H locs cells slots la hH hP hls (by rw [List.all_cons, Bool.and_eq_true, List.all_cons, Bool.and_eq_true] at hst; exact hst.2.2) hc hs)
theorem sm_lsub {a b : Int64} (hx : sm_Ok x md n K) (hd : decode md.2.1 pc = .ok (.lsub, 1)) (k : sm_V x bc bs T I L (pc + 1) ls (.long (a - b) :: st)) : sm_V x bc bs T I L pc ls (.long b :: .long a :: st) := by
  intro σ H locs cells slots la hH hP hls hst hc hs
  exact lv_lsub hx.1 hx.2.1 hd (k σ H locs cells slots la hH hP hls (by rw [List.all_cons, Bool.and_eq_true, List.all_cons, Bool.and_eq_true] at hst; exact hst.2.2) hc hs)
theorem sm_lmul {a b : Int64} (hx : sm_Ok x md n K) (hd : decode md.2.1 pc = .ok (.lmul, 1)) (k : sm_V x bc bs T I L (pc + 1) ls (.long (a * b) :: st)) : sm_V x bc bs T I L pc ls (.long b :: .long a :: st) := by
  intro σ H locs cells slots la hH hP hls hst hc hs
  exact lv_lmul hx.1 hx.2.1 hd (k σ H locs cells slots la hH hP hls (by rw [List.all_cons, Bool.and_eq_true, List.all_cons, Bool.and_eq_true] at hst; exact hst.2.2) hc hs)
theorem sm_land {a b : Int64} (hx : sm_Ok x md n K) (hd : decode md.2.1 pc = .ok (.land, 1)) (k : sm_V x bc bs T I L (pc + 1) ls (.long (a &&& b) :: st)) : sm_V x bc bs T I L pc ls (.long b :: .long a :: st) := by
  intro σ H locs cells slots la hH hP hls hst hc hs
  exact lv_land hx.1 hx.2.1 hd (k σ H locs cells slots la hH hP hls (by rw [List.all_cons, Bool.and_eq_true, List.all_cons, Bool.and_eq_true] at hst; exact hst.2.2) hc hs)
theorem sm_lor {a b : Int64} (hx : sm_Ok x md n K) (hd : decode md.2.1 pc = .ok (.lor, 1)) (k : sm_V x bc bs T I L (pc + 1) ls (.long (a ||| b) :: st)) : sm_V x bc bs T I L pc ls (.long b :: .long a :: st) := by
  intro σ H locs cells slots la hH hP hls hst hc hs
  exact lv_lor hx.1 hx.2.1 hd (k σ H locs cells slots la hH hP hls (by rw [List.all_cons, Bool.and_eq_true, List.all_cons, Bool.and_eq_true] at hst; exact hst.2.2) hc hs)
theorem sm_lxor {a b : Int64} (hx : sm_Ok x md n K) (hd : decode md.2.1 pc = .ok (.lxor, 1)) (k : sm_V x bc bs T I L (pc + 1) ls (.long (a ^^^ b) :: st)) : sm_V x bc bs T I L pc ls (.long b :: .long a :: st) := by
  intro σ H locs cells slots la hH hP hls hst hc hs
  exact lv_lxor hx.1 hx.2.1 hd (k σ H locs cells slots la hH hP hls (by rw [List.all_cons, Bool.and_eq_true, List.all_cons, Bool.and_eq_true] at hst; exact hst.2.2) hc hs)
theorem sm_ldiv {a b : Int64} (hx : sm_Ok x md n K) (hd : decode md.2.1 pc = .ok (.ldiv, 1)) (hn : ¬ b = 0) (k : sm_V x bc bs T I L (pc + 1) ls (.long (a / b) :: st)) : sm_V x bc bs T I L pc ls (.long b :: .long a :: st) := by
  intro σ H locs cells slots la hH hP hls hst hc hs
  exact lv_ldiv hx.1 hx.2.1 hd hn (k σ H locs cells slots la hH hP hls (by rw [List.all_cons, Bool.and_eq_true, List.all_cons, Bool.and_eq_true] at hst; exact hst.2.2) hc hs)
theorem sm_lrem {a b : Int64} (hx : sm_Ok x md n K) (hd : decode md.2.1 pc = .ok (.lrem, 1)) (hn : ¬ b = 0) (k : sm_V x bc bs T I L (pc + 1) ls (.long (a - a / b * b) :: st)) : sm_V x bc bs T I L pc ls (.long b :: .long a :: st) := by
  intro σ H locs cells slots la hH hP hls hst hc hs
  exact lv_lrem hx.1 hx.2.1 hd hn (k σ H locs cells slots la hH hP hls (by rw [List.all_cons, Bool.and_eq_true, List.all_cons, Bool.and_eq_true] at hst; exact hst.2.2) hc hs)
theorem sm_lshl {a : Int64} {b : Int32} (hx : sm_Ok x md n K) (hd : decode md.2.1 pc = .ok (.lshl, 1)) (k : sm_V x bc bs T I L (pc + 1) ls (.long (a <<< (b.toInt64 &&& 63)) :: st)) : sm_V x bc bs T I L pc ls (.int b :: .long a :: st) := by
  intro σ H locs cells slots la hH hP hls hst hc hs
  exact lv_lshl hx.1 hx.2.1 hd rfl (k σ H locs cells slots la hH hP hls (by rw [List.all_cons, Bool.and_eq_true, List.all_cons, Bool.and_eq_true] at hst; exact hst.2.2) hc hs)
theorem sm_lushr {a : Int64} {b : Int32} (hx : sm_Ok x md n K) (hd : decode md.2.1 pc = .ok (.lushr, 1)) (k : sm_V x bc bs T I L (pc + 1) ls (.long ((a.toUInt64 >>> (b.toInt64.toUInt64 &&& Int64.toUInt64 63)).toInt64) :: st)) : sm_V x bc bs T I L pc ls (.int b :: .long a :: st) := by
  intro σ H locs cells slots la hH hP hls hst hc hs
  exact lv_lushr hx.1 hx.2.1 hd rfl (k σ H locs cells slots la hH hP hls (by rw [List.all_cons, Bool.and_eq_true, List.all_cons, Bool.and_eq_true] at hst; exact hst.2.2) hc hs)
theorem sm_lcmp {a b : Int64} (hx : sm_Ok x md n K) (hd : decode md.2.1 pc = .ok (.lcmp, 1)) (k : sm_V x bc bs T I L (pc + 1) ls (.int (lg_cmp a b) :: st)) : sm_V x bc bs T I L pc ls (.long b :: .long a :: st) := by
  intro σ H locs cells slots la hH hP hls hst hc hs
  exact W.lcmp hx.1 hx.2.1 hd (k σ H locs cells slots la hH hP hls (by rw [List.all_cons, Bool.and_eq_true, List.all_cons, Bool.and_eq_true] at hst; exact hst.2.2) hc hs)
theorem sm_i2l {a : Int32} (hx : sm_Ok x md n K) (hd : decode md.2.1 pc = .ok (.i2l, 1)) (k : sm_V x bc bs T I L (pc + 1) ls (.long (a.toInt64) :: st)) : sm_V x bc bs T I L pc ls (.int a :: st) := by
  intro σ H locs cells slots la hH hP hls hst hc hs
  exact lv_i2l hx.1 hx.2.1 hd rfl (k σ H locs cells slots la hH hP hls hst hc hs)
theorem sm_l2i {a : Int64} (hx : sm_Ok x md n K) (hd : decode md.2.1 pc = .ok (.l2i, 1)) (k : sm_V x bc bs T I L (pc + 1) ls (.int (a.toInt32) :: st)) : sm_V x bc bs T I L pc ls (.long a :: st) := by
  intro σ H locs cells slots la hH hP hls hst hc hs
  exact lv_l2i hx.1 hx.2.1 hd rfl (k σ H locs cells slots la hH hP hls hst hc hs)
theorem sm_i2c {a : Int32} (hx : sm_Ok x md n K) (hd : decode md.2.1 pc = .ok (.i2c, 1)) (k : sm_V x bc bs T I L (pc + 1) ls (.int ((a.toUInt32 % 65536).toInt32) :: st)) : sm_V x bc bs T I L pc ls (.int a :: st) := by
  intro σ H locs cells slots la hH hP hls hst hc hs
  exact lv_i2c hx.1 hx.2.1 hd rfl (k σ H locs cells slots la hH hP hls hst hc hs)
theorem sm_i2b {a : Int32} (hx : sm_Ok x md n K) (hd : decode md.2.1 pc = .ok (.i2b, 1)) (k : sm_V x bc bs T I L (pc + 1) ls (.int (a.toInt8.toInt32) :: st)) : sm_V x bc bs T I L pc ls (.int a :: st) := by
  intro σ H locs cells slots la hH hP hls hst hc hs
  exact lv_i2b hx.1 hx.2.1 hd rfl (k σ H locs cells slots la hH hP hls hst hc hs)
theorem sm_dup {v : Value} (hx : sm_Ok x md n K) (hd : decode md.2.1 pc = .ok (.dup, 1)) (hv : v.category = 1) (k : sm_V x bc bs T I L (pc + 1) ls (v :: v :: st)) : sm_V x bc bs T I L pc ls (v :: st) := by
  intro σ H locs cells slots la hH hP hls hst hc hs
  exact lv_dup hx.1 hx.2.1 hd (by rw [sm_tr_cat]; exact hv) (k σ H locs cells slots la hH hP hls (by rw [List.all_cons, Bool.and_eq_true]; exact ⟨List.all_eq_true.mp hst _ List.mem_cons_self, hst⟩) hc hs)
theorem sm_dup2 {v v2 : Value} (hx : sm_Ok x md n K) (hd : decode md.2.1 pc = .ok (.dup2, 1)) (hv : v.category = 1) (hv2 : v2.category = 1) (k : sm_V x bc bs T I L (pc + 1) ls (v :: v2 :: v :: v2 :: st)) : sm_V x bc bs T I L pc ls (v :: v2 :: st) := by
  intro σ H locs cells slots la hH hP hls hst hc hs
  exact lv_dup2_11 hx.1 hx.2.1 hd (by rw [sm_tr_cat]; exact hv) (by rw [sm_tr_cat]; exact hv2) (k σ H locs cells slots la hH hP hls (by simp only [List.all_cons, Bool.and_eq_true] at hst ⊢; exact ⟨hst.1, hst.2.1, hst⟩) hc hs)
theorem sm_dup_x1 {v v2 : Value} (hx : sm_Ok x md n K) (hd : decode md.2.1 pc = .ok (.dup_x1, 1)) (hv : v.category = 1) (hv2 : v2.category = 1) (k : sm_V x bc bs T I L (pc + 1) ls (v :: v2 :: v :: st)) : sm_V x bc bs T I L pc ls (v :: v2 :: st) := by
  intro σ H locs cells slots la hH hP hls hst hc hs
  exact lv_dup_x1 hx.1 hx.2.1 hd (by rw [sm_tr_cat]; exact hv) (by rw [sm_tr_cat]; exact hv2) (k σ H locs cells slots la hH hP hls (by simp only [List.all_cons, Bool.and_eq_true] at hst ⊢; exact ⟨hst.1, hst.2.1, hst.1, hst.2.2⟩) hc hs)
theorem sm_pop {v : Value} (hx : sm_Ok x md n K) (hd : decode md.2.1 pc = .ok (.pop, 1)) (hv : v.category = 1) (k : sm_V x bc bs T I L (pc + 1) ls st) : sm_V x bc bs T I L pc ls (v :: st) := by
  intro σ H locs cells slots la hH hP hls hst hc hs
  exact lv_pop hx.1 hx.2.1 hd (by rw [sm_tr_cat]; exact hv) (k σ H locs cells slots la hH hP hls (by rw [List.all_cons, Bool.and_eq_true] at hst; exact hst.2) hc hs)
/-! branches: see 02c -/
theorem sm_goto {off : Int} {tgt : Nat} (hx : sm_Ok x md n K) (hd : decode md.2.1 pc = .ok (.goto off, 3)) (ht : (pc : Int) + off = (tgt : Int)) (k : sm_V x bc bs T I L tgt ls st) : sm_V x bc bs T I L pc ls st := by
  intro σ H locs cells slots la hH hP hls hst hc hs
  exact lv_goto hx.1 hx.2.1 hd ht (k σ H locs cells slots la hH hP hls hst hc hs)
theorem sm_ifeq {a : Int32} {off : Int} {tgt : Nat} (hx : sm_Ok x md n K) (hd : decode md.2.1 pc = .ok (.ifCond .eq off, 3)) (ht : (pc : Int) + off = (tgt : Int)) (kt : a = 0 → sm_V x bc bs T I L tgt ls st) (kf : ¬ a = 0 → sm_V x bc bs T I L (pc + 3) ls st) : sm_V x bc bs T I L pc ls (.int a :: st) := by
  intro σ H locs cells slots la hH hP hls hst hc hs
  exact lv_if_eq hx.1 hx.2.1 hd ht (fun q => kt q σ H locs cells slots la hH hP hls hst hc hs) (fun q => kf q σ H locs cells slots la hH hP hls hst hc hs)
theorem sm_icmpeq {a b : Int32} {off : Int} {tgt : Nat} (hx : sm_Ok x md n K) (hd : decode md.2.1 pc = .ok (.if_icmp .eq off, 3)) (ht : (pc : Int) + off = (tgt : Int)) (kt : a = b → sm_V x bc bs T I L tgt ls st) (kf : ¬ a = b → sm_V x bc bs T I L (pc + 3) ls st) : sm_V x bc bs T I L pc ls (.int b :: .int a :: st) := by
  intro σ H locs cells slots la hH hP hls hst hc hs
  exact lv_icmp_eq hx.1 hx.2.1 hd ht (fun q => kt q σ H locs cells slots la hH hP hls (by rw [List.all_cons, Bool.and_eq_true, List.all_cons, Bool.and_eq_true] at hst; exact hst.2.2) hc hs) (fun q => kf q σ H locs cells slots la hH hP hls (by rw [List.all_cons, Bool.and_eq_true, List.all_cons, Bool.and_eq_true] at hst; exact hst.2.2) hc hs)
theorem sm_ifne {a : Int32} {off : Int} {tgt : Nat} (hx : sm_Ok x md n K) (hd : decode md.2.1 pc = .ok (.ifCond .ne off, 3)) (ht : (pc : Int) + off = (tgt : Int)) (kt : ¬ a = 0 → sm_V x bc bs T I L tgt ls st) (kf : a = 0 → sm_V x bc bs T I L (pc + 3) ls st) : sm_V x bc bs T I L pc ls (.int a :: st) := by
  intro σ H locs cells slots la hH hP hls hst hc hs
  exact lv_if_ne hx.1 hx.2.1 hd ht (fun q => kt q σ H locs cells slots la hH hP hls hst hc hs) (fun q => kf q σ H locs cells slots la hH hP hls hst hc hs)
theorem sm_icmpne {a b : Int32} {off : Int} {tgt : Nat} (hx : sm_Ok x md n K) (hd : decode md.2.1 pc = .ok (.if_icmp .ne off, 3)) (ht : (pc : Int) + off = (tgt : Int)) (kt : ¬ a = b → sm_V x bc bs T I L tgt ls st) (kf : a = b → sm_V x bc bs T I L (pc + 3) ls st) : sm_V x bc bs T I L pc ls (.int b :: .int a :: st) := by
  intro σ H locs cells slots la hH hP hls hst hc hs
  exact lv_icmp_ne hx.1 hx.2.1 hd ht (fun q => kt q σ H locs cells slots la hH hP hls (by rw [List.all_cons, Bool.and_eq_true, List.all_cons, Bool.and_eq_true] at hst; exact hst.2.2) hc hs) (fun q => kf q σ H locs cells slots la hH hP hls (by rw [List.all_cons, Bool.and_eq_true, List.all_cons, Bool.and_eq_true] at hst; exact hst.2.2) hc hs)
theorem sm_iflt {a : Int32} {off : Int} {tgt : Nat} (hx : sm_Ok x md n K) (hd : decode md.2.1 pc = .ok (.ifCond .lt off, 3)) (ht : (pc : Int) + off = (tgt : Int)) (kt : a < 0 → sm_V x bc bs T I L tgt ls st) (kf : ¬ a < 0 → sm_V x bc bs T I L (pc + 3) ls st) : sm_V x bc bs T I L pc ls (.int a :: st) := by
  intro σ H locs cells slots la hH hP hls hst hc hs
  exact lv_if_lt hx.1 hx.2.1 hd ht (fun q => kt q σ H locs cells slots la hH hP hls hst hc hs) (fun q => kf q σ H locs cells slots la hH hP hls hst hc hs)
theorem sm_icmplt {a b : Int32} {off : Int} {tgt : Nat} (hx : sm_Ok x md n K) (hd : decode md.2.1 pc = .ok (.if_icmp .lt off, 3)) (ht : (pc : Int) + off = (tgt : Int)) (kt : a < b → sm_V x bc bs T I L tgt ls st) (kf : ¬ a < b → sm_V x bc bs T I L (pc + 3) ls st) : sm_V x bc bs T I L pc ls (.int b :: .int a :: st) := by
  intro σ H locs cells slots la hH hP hls hst hc hs
  exact lv_icmp_lt hx.1 hx.2.1 hd ht (fun q => kt q σ H locs cells slots la hH hP hls (by rw [List.all_cons, Bool.and_eq_true, List.all_cons, Bool.and_eq_true] at hst; exact hst.2.2) hc hs) (fun q => kf q σ H locs cells slots la hH hP hls (by rw [List.all_cons, Bool.and_eq_true, List.all_cons, Bool.and_eq_true] at hst; exact hst.2.2) hc hs)
theorem sm_ifge {a : Int32} {off : Int} {tgt : Nat} (hx : sm_Ok x md n K) (hd : decode md.2.1 pc = .ok (.ifCond .ge off, 3)) (ht : (pc : Int) + off = (tgt : Int)) (kt : 0 ≤ a → sm_V x bc bs T I L tgt ls st) (kf : ¬ 0 ≤ a → sm_V x bc bs T I L (pc + 3) ls st) : sm_V x bc bs T I L pc ls (.int a :: st) := by
  intro σ H locs cells slots la hH hP hls hst hc hs
  exact lv_if_ge hx.1 hx.2.1 hd ht (fun q => kt q σ H locs cells slots la hH hP hls hst hc hs) (fun q => kf q σ H locs cells slots la hH hP hls hst hc hs)
theorem sm_icmpge {a b : Int32} {off : Int} {tgt : Nat} (hx : sm_Ok x md n K) (hd : decode md.2.1 pc = .ok (.if_icmp .ge off, 3)) (ht : (pc : Int) + off = (tgt : Int)) (kt : b ≤ a → sm_V x bc bs T I L tgt ls st) (kf : ¬ b ≤ a → sm_V x bc bs T I L (pc + 3) ls st) : sm_V x bc bs T I L pc ls (.int b :: .int a :: st) := by
  intro σ H locs cells slots la hH hP hls hst hc hs
  exact lv_icmp_ge hx.1 hx.2.1 hd ht (fun q => kt q σ H locs cells slots la hH hP hls (by rw [List.all_cons, Bool.and_eq_true, List.all_cons, Bool.and_eq_true] at hst; exact hst.2.2) hc hs) (fun q => kf q σ H locs cells slots la hH hP hls (by rw [List.all_cons, Bool.and_eq_true, List.all_cons, Bool.and_eq_true] at hst; exact hst.2.2) hc hs)
theorem sm_ifgt {a : Int32} {off : Int} {tgt : Nat} (hx : sm_Ok x md n K) (hd : decode md.2.1 pc = .ok (.ifCond .gt off, 3)) (ht : (pc : Int) + off = (tgt : Int)) (kt : 0 < a → sm_V x bc bs T I L tgt ls st) (kf : ¬ 0 < a → sm_V x bc bs T I L (pc + 3) ls st) : sm_V x bc bs T I L pc ls (.int a :: st) := by
  intro σ H locs cells slots la hH hP hls hst hc hs
  exact lv_if_gt hx.1 hx.2.1 hd ht (fun q => kt q σ H locs cells slots la hH hP hls hst hc hs) (fun q => kf q σ H locs cells slots la hH hP hls hst hc hs)
theorem sm_icmpgt {a b : Int32} {off : Int} {tgt : Nat} (hx : sm_Ok x md n K) (hd : decode md.2.1 pc = .ok (.if_icmp .gt off, 3)) (ht : (pc : Int) + off = (tgt : Int)) (kt : b < a → sm_V x bc bs T I L tgt ls st) (kf : ¬ b < a → sm_V x bc bs T I L (pc + 3) ls st) : sm_V x bc bs T I L pc ls (.int b :: .int a :: st) := by
  intro σ H locs cells slots la hH hP hls hst hc hs
  exact lv_icmp_gt hx.1 hx.2.1 hd ht (fun q => kt q σ H locs cells slots la hH hP hls (by rw [List.all_cons, Bool.and_eq_true, List.all_cons, Bool.and_eq_true] at hst; exact hst.2.2) hc hs) (fun q => kf q σ H locs cells slots la hH hP hls (by rw [List.all_cons, Bool.and_eq_true, List.all_cons, Bool.and_eq_true] at hst; exact hst.2.2) hc hs)
theorem sm_ifle {a : Int32} {off : Int} {tgt : Nat} (hx : sm_Ok x md n K) (hd : decode md.2.1 pc = .ok (.ifCond .le off, 3)) (ht : (pc : Int) + off = (tgt : Int)) (kt : a ≤ 0 → sm_V x bc bs T I L tgt ls st) (kf : ¬ a ≤ 0 → sm_V x bc bs T I L (pc + 3) ls st) : sm_V x bc bs T I L pc ls (.int a :: st) := by
  intro σ H locs cells slots la hH hP hls hst hc hs
  exact lv_if_le hx.1 hx.2.1 hd ht (fun q => kt q σ H locs cells slots la hH hP hls hst hc hs) (fun q => kf q σ H locs cells slots la hH hP hls hst hc hs)
theorem sm_icmple {a b : Int32} {off : Int} {tgt : Nat} (hx : sm_Ok x md n K) (hd : decode md.2.1 pc = .ok (.if_icmp .le off, 3)) (ht : (pc : Int) + off = (tgt : Int)) (kt : a ≤ b → sm_V x bc bs T I L tgt ls st) (kf : ¬ a ≤ b → sm_V x bc bs T I L (pc + 3) ls st) : sm_V x bc bs T I L pc ls (.int b :: .int a :: st) := by
  intro σ H locs cells slots la hH hP hls hst hc hs
  exact lv_icmp_le hx.1 hx.2.1 hd ht (fun q => kt q σ H locs cells slots la hH hP hls (by rw [List.all_cons, Bool.and_eq_true, List.all_cons, Bool.and_eq_true] at hst; exact hst.2.2) hc hs) (fun q => kf q σ H locs cells slots la hH hP hls (by rw [List.all_cons, Bool.and_eq_true, List.all_cons, Bool.and_eq_true] at hst; exact hst.2.2) hc hs)
theorem sm_ifnonnull {r : Nat} {off : Int} {tgt : Nat} (hx : sm_Ok x md n K) (hd : decode md.2.1 pc = .ok (.ifnonnull off, 3)) (ht : (pc : Int) + off = (tgt : Int)) (k : sm_V x bc bs T I L tgt ls st) : sm_V x bc bs T I L pc ls (.ref r :: st) := by
  intro σ H locs cells slots la hH hP hls hst hc hs
  exact lv_ifnonnull hx.1 hx.2.1 hd ht (k σ H locs cells slots la hH hP hls (by rw [List.all_cons, Bool.and_eq_true] at hst; exact hst.2) hc hs)
theorem sm_ifnonnullN {off : Int} (hx : sm_Ok x md n K) (hd : decode md.2.1 pc = .ok (.ifnonnull off, 3)) (k : sm_V x bc bs T I L (pc + 3) ls st) : sm_V x bc bs T I L pc ls (.null :: st) := by
  intro σ H locs cells slots la hH hP hls hst hc hs
  exact lv_ifnonnullN hx.1 hx.2.1 hd (k σ H locs cells slots la hH hP hls (by rw [List.all_cons, Bool.and_eq_true] at hst; exact hst.2) hc hs)
theorem sm_tableOut {dflt lo hi : Int} {offs : Array Int} {len : Nat} {a : Int32} {tgt : Nat} (hx : sm_Ok x md n K) (hd : decode md.2.1 pc = .ok (.tableswitch dflt lo hi offs, len)) (h : a.toInt < lo ∨ hi < a.toInt) (ht : (pc : Int) + dflt = (tgt : Int)) (k : sm_V x bc bs T I L tgt ls st) : sm_V x bc bs T I L pc ls (.int a :: st) := by
  intro σ H locs cells slots la hH hP hls hst hc hs
  exact lv_tableOut hx.1 hx.2.1 hd h ht (k σ H locs cells slots la hH hP hls hst hc hs)
theorem sm_tableIn {dflt lo hi : Int} {offs : Array Int} {len : Nat} {a : Int32} {off : Int} {tgt : Nat} (hx : sm_Ok x md n K) (hd : decode md.2.1 pc = .ok (.tableswitch dflt lo hi offs, len)) (h1 : ¬ a.toInt < lo) (h2 : ¬ hi < a.toInt) (ho : offs[(a.toInt - lo).toNat]? = some off) (ht : (pc : Int) + off = (tgt : Int)) (k : sm_V x bc bs T I L tgt ls st) : sm_V x bc bs T I L pc ls (.int a :: st) := by
  intro σ H locs cells slots la hH hP hls hst hc hs
  exact lv_tableIn hx.1 hx.2.1 hd h1 h2 ho ht (k σ H locs cells slots la hH hP hls hst hc hs)
theorem sm_lookup {dflt : Int} {ps : Array (Int × Int)} {len : Nat} {a : Int32} {off : Int} {tgt : Nat} (hx : sm_Ok x md n K) (hd : decode md.2.1 pc = .ok (.lookupswitch dflt ps, len)) (hp : (ps.toList.zip (ps.toList.drop 1)).all (fun (a, next) => a.1 < next.1) = true) (ho : Op.lookupswitch.offset ps.toList dflt a.toInt = off) (ht : (pc : Int) + off = (tgt : Int)) (k : sm_V x bc bs T I L tgt ls st) : sm_V x bc bs T I L pc ls (.int a :: st) := by
  intro σ H locs cells slots la hH hP hls hst hc hs
  exact lv_lookup hx.1 hx.2.1 hd hp ho ht (k σ H locs cells slots la hH hP hls hst hc hs)
theorem sm_iret {z : Int32} (hx : sm_Ok x md n K) (hd : decode md.2.1 pc = .ok (.ireturn, 1)) (hr : md.2.2.2 = some .int) (k : K (some (.int z)) T I L) : sm_V x bc bs T I L pc ls [.int z] := by
  intro σ H locs cells slots la hH hP hls hst hc hs
  exact hx.2.2.2.2.2.2.2.2.2.2.2 σ H locs cells slots la pc (some (.int z)) T I L hH (by omega) (by omega) rfl k ⟨⟨.int, hr, vp_nar_int z⟩, hd⟩
theorem sm_zret {b : Bool} (hx : sm_Ok x md n K) (hd : decode md.2.1 pc = .ok (.ireturn, 1)) (hr : md.2.2.2 = some .boolean) (k : K (some (.int (sm_z b))) T I L) : sm_V x bc bs T I L pc ls [.int (sm_z b)] := by
  intro σ H locs cells slots la hH hP hls hst hc hs
  exact hx.2.2.2.2.2.2.2.2.2.2.2 σ H locs cells slots la pc (some (.int (sm_z b))) T I L hH (by omega) (by omega) rfl k ⟨⟨.boolean, hr, by cases b <;> rfl⟩, hd⟩
theorem sm_lret {z : Int64} (hx : sm_Ok x md n K) (hd : decode md.2.1 pc = .ok (.lreturn, 1)) (hr : md.2.2.2 = some .long) (k : K (some (.long z)) T I L) : sm_V x bc bs T I L pc ls [.long z] := by
  intro σ H locs cells slots la hH hP hls hst hc hs
  exact hx.2.2.2.2.2.2.2.2.2.2.2 σ H locs cells slots la pc (some (.long z)) T I L hH (by omega) (by omega) rfl k ⟨hr, hd⟩
theorem sm_aret {r : Nat} (hx : sm_Ok x md n K) (hd : decode md.2.1 pc = .ok (.areturn, 1)) (hr : ∃ rt, md.2.2.2 = some rt ∧ ((∃ n, rt = .object n) ∨ ∃ t, rt = .array t)) (k : K (some (.ref r)) T I L) : sm_V x bc bs T I L pc ls [.ref r] := by
  intro σ H locs cells slots la hH hP hls hst hc hs
  exact hx.2.2.2.2.2.2.2.2.2.2.2 σ H locs cells slots la pc (some (.ref r)) T I L hH (by omega) (by omega) (List.all_eq_true.mp hst _ List.mem_cons_self) k ⟨hr, hd⟩
theorem sm_aretN (hx : sm_Ok x md n K) (hd : decode md.2.1 pc = .ok (.areturn, 1)) (hr : ∃ rt, md.2.2.2 = some rt ∧ ((∃ n, rt = .object n) ∨ ∃ t, rt = .array t)) (k : K (some .null) T I L) : sm_V x bc bs T I L pc ls [.null] := by
  intro σ H locs cells slots la hH hP hls hst hc hs
  exact hx.2.2.2.2.2.2.2.2.2.2.2 σ H locs cells slots la pc (some .null) T I L hH (by omega) (by omega) rfl k ⟨hr, hd⟩
theorem sm_vret (hx : sm_Ok x md n K) (hd : decode md.2.1 pc = .ok (.return_, 1)) (hr : md.2.2.2 = none) (k : K none T I L) : sm_V x bc bs T I L pc ls [] := by
  intro σ H locs cells slots la hH hP hls hst hc hs
  exact hx.2.2.2.2.2.2.2.2.2.2.2 σ H locs cells slots la pc none T I L hH (by omega) (by omega) rfl k ⟨hr, hd⟩
end SmRules
