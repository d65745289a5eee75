/-! BASE 3. Rules of the instructions that read and write the world: fields, arrays, new cells. -/
def sm_gv (I : sm_MI) (L : sm_ML) (k j : Nat) : Value → Value
  | .int _ => .int (I k j)
  | .long _ => .long (L k j)
  | v => v
theorem sm_gv_tr {σ : Nat → Nat} {I : sm_MI} {L : sm_ML} {k j : Nat} {v : Value} : sm_tr σ (sm_gv I L k j v) = sm_fv σ I L k j v := by cases v <;> rfl
/-- a class's facts -/
def sm_CF (ci : Nat) (C : String) (Tt : u_T) (N : Nat) (ty : Nat → FieldType) : Prop := vwCl[ci]? = some (C, Tt, N) ∧ (∀ k, k < N → parseFieldDescriptor (Tt k).2.2.1 = some (ty k)) ∧ (∀ a, a < N → ∀ b, b < N → a ≠ b → (Tt a).2.1 ≠ (Tt b).2.1) ∧ ∀ w ∈ u_ws C Tt N, w ∈ lw_tbl ∧ sm_gd w = true
/-- a field's link: the pool's entry idx of the class own is the j-th field of the class ci -/
def sm_FLk (own : String) (idx ci j : Nat) (ty : FieldType) (fin : Bool) : Prop := ∃ (C : String) (Tt : u_T) (N : Nat) (ty0 : Nat → FieldType) (ref : String), sm_CF ci C Tt N ty0 ∧ j < N ∧ (Cond.fieldLink own idx ref (Tt j).2.1 (Tt j).2.2.1 ∈ lw_tbl ∨ ∃ host, Cond.fieldLinkNest own idx ref (Tt j).2.1 (Tt j).2.2.1 host ∈ lw_tbl) ∧ (ref = (Tt j).1 ∨ Cond.sameField ref (Tt j).1 (Tt j).2.1 (Tt j).2.2.1 ∈ lw_tbl) ∧ parseFieldDescriptor (Tt j).2.2.1 = some ty ∧ (Tt j).2.2.2 = fin
/-- a final field of the class itself, written in its constructor -/
def sm_FLf (own : String) (idx ci j : Nat) (ty : FieldType) : Prop := ∃ (C : String) (Tt : u_T) (N : Nat) (ty0 : Nat → FieldType), sm_CF ci C Tt N ty0 ∧ j < N ∧ Cond.fieldLink own idx own (Tt j).2.1 (Tt j).2.2.1 ∈ lw_tbl ∧ (Tt j).1 = own ∧ parseFieldDescriptor (Tt j).2.2.1 = some ty ∧ (Tt j).2.2.2 = true
section SmHeap
variable {x : sm_Cx} {md : sm_MD} {n : Nat} {K : sm_K} {bc bs : Nat} {T : List sm_Sh} {I : sm_MI} {L : sm_ML} {pc nx : Nat} {ls : List (Option Value)} {st : List Value}
theorem sm_CF.hts {ci : Nat} {C : String} {Tt : u_T} {N : Nat} {ty : Nat → FieldType} (h : sm_CF ci C Tt N ty) {args : Array Value} {s : State} (hT : sm_TB args s) : ∀ w ∈ u_ws C Tt N, w.before args s = true := fun w hw => hT w (h.2.2.2 w hw).1 (h.2.2.2 w hw).2
theorem sm_same {ref o nm d : String} {args : Array Value} {s : State} (hT : sm_TB args s) (h : ref = o ∨ Cond.sameField ref o nm d ∈ lw_tbl) : ∀ x, s.fieldFound? o nm d = some x → s.fieldFound? ref nm d = some x := by
  rcases h with h | h
  · subst h; exact fun _ h => h
  · exact fun x hx => u_same (hT _ h rfl) x hx
theorem sm_getv {idx ci j k : Nat} {ty : FieldType} {fin : Bool} {fs : List Value} {v : Value} (hx : sm_Ok x md n K) (hd : decode md.2.1 pc = .ok (.getfield idx, 3)) (lk : sm_FLk md.1.cls idx ci j ty fin) (hT : T[k]? = some (.inr (ci, fs))) (hf : fs[j]? = some v) (kk : sm_V x bc bs T I L (pc + 3) ls (sm_gv I L k j v :: st)) : sm_V x bc bs T I L pc ls (.ref k :: st) := by
  intro σ H locs cells slots la hH hP hls hst hc hs
  obtain ⟨C, Tt, N, ty0, ref, hC, hj, hl, hsm, hty, hfin⟩ := lk
  have hTB := hx.2.2.2.2.2.1
  have hsame := sm_same hTB hsm
  have he := sm_cn_at (cA := sm_xC x) (σ := σ) (I := I) (L := L) hT
  have hv : (fs.mapIdx (fun j v => sm_fv σ I L k j v))[j]? = some (sm_fv σ I L k j v) := by rw [List.getElem?_mapIdx, hf]; rfl
  have hok : (sm_gv I L k j v :: st).all (sm_ok T.length) = true := by
    rw [List.all_cons, Bool.and_eq_true] at hst ⊢
    refine ⟨?_, hst.2⟩
    have h1 := List.all_eq_true.mp hH.2.2.2.1 _ (List.mem_of_getElem? hT)
    have h2 : sm_ok T.length v = true := List.all_eq_true.mp h1 v (List.mem_of_getElem? hf)
    cases v <;> first | exact h2 | rfl
  have k0 := kk σ H locs cells slots la hH hP hls hok hc hs
  rw [List.map_cons, sm_gv_tr] at k0
  rcases hl with hl | ⟨host, hl⟩
  · exact va_get (D := sm_xD x) (ci := ci) (v := sm_fv σ I L k j v) (C := C) (T := Tt) (N := N) hx.1 hx.2.1 (hC.hts hTB) (fun _ h => h) hx.2.2.2.1 hx.2.2.2.2.2.2.1 hH.1 k he hC.1 j hj (hTB _ hl rfl) hsame hv hd k0
  · exact va_getN (D := sm_xD x) (ci := ci) (v := sm_fv σ I L k j v) (C := C) (T := Tt) (N := N) hx.1 hx.2.1 (hC.hts hTB) (fun _ h => h) hx.2.2.2.1 hx.2.2.2.2.2.2.1 hH.1 k he hC.1 j hj (hTB _ hl rfl) hsame hv hd k0
theorem sm_getI {idx ci j k : Nat} {ty : FieldType} {fin : Bool} {fs : List Value} {z : Int32} (hx : sm_Ok x md n K) (hd : decode md.2.1 pc = .ok (.getfield idx, 3)) (lk : sm_FLk md.1.cls idx ci j ty fin) (hT : T[k]? = some (.inr (ci, fs))) (hf : fs[j]? = some (.int z)) (kk : sm_V x bc bs T I L (pc + 3) ls (.int (I k j) :: st)) : sm_V x bc bs T I L pc ls (.ref k :: st) := sm_getv hx hd lk hT hf kk
theorem sm_getL {idx ci j k : Nat} {ty : FieldType} {fin : Bool} {fs : List Value} {z : Int64} (hx : sm_Ok x md n K) (hd : decode md.2.1 pc = .ok (.getfield idx, 3)) (lk : sm_FLk md.1.cls idx ci j ty fin) (hT : T[k]? = some (.inr (ci, fs))) (hf : fs[j]? = some (.long z)) (kk : sm_V x bc bs T I L (pc + 3) ls (.long (L k j) :: st)) : sm_V x bc bs T I L pc ls (.ref k :: st) := sm_getv hx hd lk hT hf kk
theorem sm_getR {idx ci j k r : Nat} {ty : FieldType} {fin : Bool} {fs : List Value} (hx : sm_Ok x md n K) (hd : decode md.2.1 pc = .ok (.getfield idx, 3)) (lk : sm_FLk md.1.cls idx ci j ty fin) (hT : T[k]? = some (.inr (ci, fs))) (hf : fs[j]? = some (.ref r)) (kk : sm_V x bc bs T I L (pc + 3) ls (.ref r :: st)) : sm_V x bc bs T I L pc ls (.ref k :: st) := sm_getv hx hd lk hT hf kk
theorem sm_fs_int {σ : Nat → Nat} {I : sm_MI} {L : sm_ML} {k j : Nat} {fs : List Value} {z v : Int32} (hf : fs[j]? = some (.int z)) : fs.mapIdx (fun i w => sm_fv σ (sm_uI I k j v) L k i w) = (fs.mapIdx (fun i w => sm_fv σ I L k i w)).set j (.int v) := by
  have hj := (List.getElem?_eq_some_iff.mp hf).1
  apply List.ext_getElem?
  intro i
  rw [List.getElem?_mapIdx, List.getElem?_set, List.length_mapIdx, List.getElem?_mapIdx]
  by_cases hi : j = i
  · subst hi
    rw [hf, if_pos rfl, if_pos hj]
    simp [sm_fv, sm_uI]
  · rw [if_neg hi]
    have hi' : ¬ i = j := fun e => hi e.symm
    cases fs[i]? with
    | none => rfl
    | some w => cases w <;> simp [sm_fv, sm_uI, hi']
theorem sm_fs_long {σ : Nat → Nat} {I : sm_MI} {L : sm_ML} {k j : Nat} {fs : List Value} {z v : Int64} (hf : fs[j]? = some (.long z)) : fs.mapIdx (fun i w => sm_fv σ I (sm_uL L k j v) k i w) = (fs.mapIdx (fun i w => sm_fv σ I L k i w)).set j (.long v) := by
  have hj := (List.getElem?_eq_some_iff.mp hf).1
  apply List.ext_getElem?
  intro i
  rw [List.getElem?_mapIdx, List.getElem?_set, List.length_mapIdx, List.getElem?_mapIdx]
  by_cases hi : j = i
  · subst hi
    rw [hf, if_pos rfl, if_pos hj]
    simp [sm_fv, sm_uL]
  · rw [if_neg hi]
    have hi' : ¬ i = j := fun e => hi e.symm
    cases fs[i]? with
    | none => rfl
    | some w => cases w <;> simp [sm_fv, sm_uL, hi']
theorem sm_fs_ref {σ : Nat → Nat} {I : sm_MI} {L : sm_ML} {k j : Nat} {fs : List Value} {v : Value} : (fs.set j v).mapIdx (fun i w => sm_fv σ I L k i w) = (fs.mapIdx (fun i w => sm_fv σ I L k i w)).set j (sm_fv σ I L k j v) := by
  apply List.ext_getElem?
  intro i
  rw [List.getElem?_mapIdx, List.getElem?_set, List.getElem?_set, List.length_mapIdx, List.getElem?_mapIdx]
  by_cases hi : j = i
  · subst hi
    by_cases hl : j < fs.length <;> simp [hl]
  · simp [hi]
/-- a write into the k-th cell, at the heap's side -/
theorem sm_H.put {σ : Nat → Nat} {T' : List sm_Sh} {I' : sm_MI} {L' : sm_ML} {H H1 : Heap} {locs locs1 : List Loc} {k : Nat} {sh' : sm_Sh} (hH : sm_H x σ T I L H locs) (hT' : T' = T.set k sh') (hk : sm_okS T.length sh' = true) (e : sm_cn (sm_xC x) σ I' L' 0 T' = (sm_cn (sm_xC x) σ I L 0 T).set k (σ k, sm_ce (sm_xC x) σ I' L' k sh')) (h1 : va_P (sm_xD x) vwCl ((sm_cn (sm_xC x) σ I L 0 T).set k (σ k, sm_ce (sm_xC x) σ I' L' k sh')) H1) (h2 : va_D (sm_xA x) ((sm_cn (sm_xC x) σ I L 0 T).set k (σ k, sm_ce (sm_xC x) σ I' L' k sh'))) (h3 : va_S (sm_xA x) (sm_xs x).heap H1 locs1) : sm_H x σ T' I' L' H1 locs1 := by
  have hlen : T'.length = T.length := by rw [hT', List.length_set]
  refine ⟨by rw [e]; exact h1, by rw [e]; exact h2, h3, ?_, by rw [hlen]; exact hH.2.2.2.2.1, by rw [hlen]; exact hH.2.2.2.2.2.1, hH.2.2.2.2.2.2⟩
  rw [hlen, hT']
  refine List.all_eq_true.mpr fun z hz => ?_
  rcases List.mem_or_eq_of_mem_set hz with h | h
  · exact List.all_eq_true.mp hH.2.2.2.1 z h
  · rw [h]; exact hk
theorem sm_putW {idx ci j k : Nat} {ty : FieldType} {fs fs' : List Value} {v : Value} {I' : sm_MI} {L' : sm_ML} (hx : sm_Ok x md n K) (hd : decode md.2.1 pc = .ok (.putfield idx, 3)) (lk : sm_FLk md.1.cls idx ci j ty false) (hT : T[k]? = some (.inr (ci, fs))) (hj : j < fs.length)
    (hnar : ∀ σ, narrow ty (sm_tr σ v) = sm_tr σ v) (hfit : ∀ σ, fits ty (sm_tr σ v) = true) (hfs : ∀ σ, fs'.mapIdx (fun i w => sm_fv σ I' L' k i w) = (fs.mapIdx (fun i w => sm_fv σ I L k i w)).set j (sm_tr σ v)) (hI : ∀ i, i ≠ k → I' i = I i) (hL : ∀ i, i ≠ k → L' i = L i) (hok : ∀ m, fs.all (sm_ok m) = true → sm_ok m v = true → fs'.all (sm_ok m) = true)
    (kk : sm_V x bc bs (T.set k (.inr (ci, fs'))) I' L' (pc + 3) ls st) : sm_V x bc bs T I L pc ls (v :: .ref k :: st) := by
  intro σ H locs cells slots la hH hP hls hst hc hs
  obtain ⟨C, Tt, N, ty0, ref, hC, hjN, hl, hsm, hty, hf0⟩ := lk
  have hTB := hx.2.2.2.2.2.1
  have hsame := sm_same hTB hsm
  have he := sm_cn_at (cA := sm_xC x) (σ := σ) (I := I) (L := L) hT
  have hlen : j < (fs.mapIdx (fun i w => sm_fv σ I L k i w)).length := by rw [List.length_mapIdx]; exact hj
  rw [List.all_cons, Bool.and_eq_true, List.all_cons, Bool.and_eq_true] at hst
  have hshk : sm_okS T.length (.inr (ci, fs)) = true := List.all_eq_true.mp hH.2.2.2.1 _ (List.mem_of_getElem? hT)
  have hok' : sm_okS T.length (.inr (ci, fs')) = true := hok _ hshk hst.1
  have e := sm_cn_set (cA := sm_xC x) (σ := σ) (sh' := .inr (ci, fs')) hT (I' := I') (L' := L') (fun i s hi _ => sm_ce_mem (hI i hi) (hL i hi))
  have hce : sm_ce (sm_xC x) σ I' L' k (.inr (ci, fs')) = .inr (ci, (fs.mapIdx (fun i w => sm_fv σ I L k i w)).set j (sm_tr σ v)) := by
    show Sum.inr (ci, fs'.mapIdx (fun i w => sm_fv σ I' L' k i w)) = _
    rw [hfs σ]
  have go : ∀ (H1 : Heap) (locs1 : List Loc), va_P (sm_xD x) vwCl ((sm_cn (sm_xC x) σ I L 0 T).set k (σ k, .inr (ci, (fs.mapIdx (fun i w => sm_fv σ I L k i w)).set j (sm_tr σ v)))) H1 → va_D (sm_xA x) ((sm_cn (sm_xC x) σ I L 0 T).set k (σ k, .inr (ci, (fs.mapIdx (fun i w => sm_fv σ I L k i w)).set j (sm_tr σ v)))) → va_S (sm_xA x) (sm_xs x).heap H1 locs1 → sm_W x H1 locs1 cells slots (F0 (sm_xm x) (pc + 3) la (st.map (sm_tr σ))) := by
    intro H1 locs1 h1 h2 h3
    rw [← hce] at h1 h2
    have hlenT : (T.set k (.inr (ci, fs'))).length = T.length := List.length_set
    exact kk σ H1 locs1 cells slots la (sm_H.put hH rfl hok' e h1 h2 h3) hP (by rw [hlenT]; exact hls) (by rw [hlenT]; exact hst.2.2) hc hs
  rcases hl with hl | ⟨host, hl⟩
  · exact va_put (D := sm_xD x) (ci := ci) (v := sm_tr σ v) (ty := ty) (C := C) (T := Tt) (N := N) hx.1 hx.2.1 (hC.hts hTB) (fun _ h => h) ty0 hC.2.1 hC.2.2.1 hx.2.2.2.1 hx.2.2.2.2.2.2.1 hH.1 hH.2.1 hH.2.2.1 k he hC.1 j hjN (hTB _ hl rfl) hsame hf0 hty (hnar σ) (hfit σ) hlen hd go
  · exact va_putN (D := sm_xD x) (ci := ci) (v := sm_tr σ v) (ty := ty) (C := C) (T := Tt) (N := N) hx.1 hx.2.1 (hC.hts hTB) (fun _ h => h) ty0 hC.2.1 hC.2.2.1 hx.2.2.2.1 hx.2.2.2.2.2.2.1 hH.1 hH.2.1 hH.2.2.1 k he hC.1 j hjN (hTB _ hl rfl) hsame hf0 hty (hnar σ) (hfit σ) hlen hd go
theorem sm_putFW {idx ci j k : Nat} {ty : FieldType} {fs fs' : List Value} {v : Value} {I' : sm_MI} {L' : sm_ML} (hx : sm_Ok x md n K) (hd : decode md.2.1 pc = .ok (.putfield idx, 3)) (lk : sm_FLf md.1.cls idx ci j ty) (hini : md.1.name = "<init>") (hT : T[k]? = some (.inr (ci, fs))) (hj : j < fs.length)
    (hnar : ∀ σ, narrow ty (sm_tr σ v) = sm_tr σ v) (hfit : ∀ σ, fits ty (sm_tr σ v) = true) (hfs : ∀ σ, fs'.mapIdx (fun i w => sm_fv σ I' L' k i w) = (fs.mapIdx (fun i w => sm_fv σ I L k i w)).set j (sm_tr σ v)) (hI : ∀ i, i ≠ k → I' i = I i) (hL : ∀ i, i ≠ k → L' i = L i) (hok : ∀ m, fs.all (sm_ok m) = true → sm_ok m v = true → fs'.all (sm_ok m) = true)
    (kk : sm_V x bc bs (T.set k (.inr (ci, fs'))) I' L' (pc + 3) ls st) : sm_V x bc bs T I L pc ls (v :: .ref k :: st) := by
  intro σ H locs cells slots la hH hP hls hst hc hs
  obtain ⟨C, Tt, N, ty0, hC, hjN, hl, hown, hty, hf0⟩ := lk
  have hTB := hx.2.2.2.2.2.1
  have he := sm_cn_at (cA := sm_xC x) (σ := σ) (I := I) (L := L) hT
  have hlen : j < (fs.mapIdx (fun i w => sm_fv σ I L k i w)).length := by rw [List.length_mapIdx]; exact hj
  rw [List.all_cons, Bool.and_eq_true, List.all_cons, Bool.and_eq_true] at hst
  have hshk : sm_okS T.length (.inr (ci, fs)) = true := List.all_eq_true.mp hH.2.2.2.1 _ (List.mem_of_getElem? hT)
  have hok' : sm_okS T.length (.inr (ci, fs')) = true := hok _ hshk hst.1
  have e := sm_cn_set (cA := sm_xC x) (σ := σ) (sh' := .inr (ci, fs')) hT (I' := I') (L' := L') (fun i s hi _ => sm_ce_mem (hI i hi) (hL i hi))
  have hce : sm_ce (sm_xC x) σ I' L' k (.inr (ci, fs')) = .inr (ci, (fs.mapIdx (fun i w => sm_fv σ I L k i w)).set j (sm_tr σ v)) := by
    show Sum.inr (ci, fs'.mapIdx (fun i w => sm_fv σ I' L' k i w)) = _
    rw [hfs σ]
  have go : ∀ (H1 : Heap) (locs1 : List Loc), va_P (sm_xD x) vwCl ((sm_cn (sm_xC x) σ I L 0 T).set k (σ k, .inr (ci, (fs.mapIdx (fun i w => sm_fv σ I L k i w)).set j (sm_tr σ v)))) H1 → va_D (sm_xA x) ((sm_cn (sm_xC x) σ I L 0 T).set k (σ k, .inr (ci, (fs.mapIdx (fun i w => sm_fv σ I L k i w)).set j (sm_tr σ v)))) → va_S (sm_xA x) (sm_xs x).heap H1 locs1 → sm_W x H1 locs1 cells slots (F0 (sm_xm x) (pc + 3) la (st.map (sm_tr σ))) := by
    intro H1 locs1 h1 h2 h3
    rw [← hce] at h1 h2
    have hlenT : (T.set k (.inr (ci, fs'))).length = T.length := List.length_set
    exact kk σ H1 locs1 cells slots la (sm_H.put hH rfl hok' e h1 h2 h3) hP (by rw [hlenT]; exact hls) (by rw [hlenT]; exact hst.2.2) hc hs
  exact va_putF (D := sm_xD x) (ci := ci) (v := sm_tr σ v) (ty := ty) (C := C) (T := Tt) (N := N) hx.1 hx.2.1 (hC.hts hTB) (fun _ h => h) ty0 hC.2.1 hC.2.2.1 hx.2.2.2.1 hx.2.2.2.2.2.2.1 hH.1 hH.2.1 hH.2.2.1 k he hC.1 j hjN (ref := md.1.cls) (hTB _ hl rfl) (fun _ h => by rw [← hown]; exact h) hf0 (by rw [hx.2.2.2.2.1]; exact hini) hown hty (hnar σ) (hfit σ) hlen hd go
/-- an int field (or a truth) is written -/
theorem sm_putI {idx ci j k : Nat} {fs : List Value} {z v : Int32} (hx : sm_Ok x md n K) (hd : decode md.2.1 pc = .ok (.putfield idx, 3)) (lk : sm_FLk md.1.cls idx ci j .int false) (hT : T[k]? = some (.inr (ci, fs))) (hf : fs[j]? = some (.int z)) (kk : sm_V x bc bs T (sm_uI I k j v) L (pc + 3) ls st) : sm_V x bc bs T I L pc ls (.int v :: .ref k :: st) :=
  sm_putW hx hd lk hT (List.getElem?_eq_some_iff.mp hf).1 (fun _ => vp_nar_int v) (fun _ => rfl) (fun σ => sm_fs_int hf) (fun i hi => sm_uI_ne hi) (fun _ _ => rfl) (fun _ h _ => h) (by rw [sm_set_self hT]; exact kk)
theorem sm_putZ {idx ci j k : Nat} {fs : List Value} {z : Int32} {b : Bool} (hx : sm_Ok x md n K) (hd : decode md.2.1 pc = .ok (.putfield idx, 3)) (lk : sm_FLk md.1.cls idx ci j .boolean false) (hT : T[k]? = some (.inr (ci, fs))) (hf : fs[j]? = some (.int z)) (kk : sm_V x bc bs T (sm_uI I k j (sm_z b)) L (pc + 3) ls st) : sm_V x bc bs T I L pc ls (.int (sm_z b) :: .ref k :: st) :=
  sm_putW hx hd lk hT (List.getElem?_eq_some_iff.mp hf).1 (fun _ => by cases b <;> rfl) (fun _ => by cases b <;> rfl) (fun σ => sm_fs_int hf) (fun i hi => sm_uI_ne hi) (fun _ _ => rfl) (fun _ h _ => h) (by rw [sm_set_self hT]; exact kk)
theorem sm_putL {idx ci j k : Nat} {fs : List Value} {z v : Int64} (hx : sm_Ok x md n K) (hd : decode md.2.1 pc = .ok (.putfield idx, 3)) (lk : sm_FLk md.1.cls idx ci j .long false) (hT : T[k]? = some (.inr (ci, fs))) (hf : fs[j]? = some (.long z)) (kk : sm_V x bc bs T I (sm_uL L k j v) (pc + 3) ls st) : sm_V x bc bs T I L pc ls (.long v :: .ref k :: st) :=
  sm_putW hx hd lk hT (List.getElem?_eq_some_iff.mp hf).1 (fun _ => rfl) (fun _ => rfl) (fun σ => sm_fs_long hf) (fun _ _ => rfl) (fun i hi => sm_uL_ne hi) (fun _ h _ => h) (by rw [sm_set_self hT]; exact kk)
theorem sm_ok_fs {m j : Nat} {fs : List Value} {v : Value} (h : fs.all (sm_ok m) = true) (hv : sm_ok m v = true) : (fs.set j v).all (sm_ok m) = true := by
  refine List.all_eq_true.mpr fun z hz => ?_
  rcases List.mem_or_eq_of_mem_set hz with h1 | h1
  · exact List.all_eq_true.mp h _ h1
  · rw [h1]; exact hv
/-- a field that holds a cell is written -/
theorem sm_putR {idx ci j k r : Nat} {ty : FieldType} {fs : List Value} (hx : sm_Ok x md n K) (hd : decode md.2.1 pc = .ok (.putfield idx, 3)) (lk : sm_FLk md.1.cls idx ci j ty false) (ht : ty.isReference = true) (hT : T[k]? = some (.inr (ci, fs))) (hj : j < fs.length) (kk : sm_V x bc bs (T.set k (.inr (ci, fs.set j (.ref r)))) I L (pc + 3) ls st) : sm_V x bc bs T I L pc ls (.ref r :: .ref k :: st) :=
  sm_putW (fs' := fs.set j (.ref r)) (I' := I) (L' := L) hx hd lk hT hj (fun _ => by cases ty <;> first | rfl | cases ht) (fun _ => by cases ty <;> first | rfl | cases ht) (fun σ => sm_fs_ref) (fun _ _ => rfl) (fun _ _ => rfl) (fun _ h hv => sm_ok_fs h hv) kk
theorem sm_putFR {idx ci j k r : Nat} {ty : FieldType} {fs : List Value} (hx : sm_Ok x md n K) (hd : decode md.2.1 pc = .ok (.putfield idx, 3)) (lk : sm_FLf md.1.cls idx ci j ty) (hini : md.1.name = "<init>") (ht : ty.isReference = true) (hT : T[k]? = some (.inr (ci, fs))) (hj : j < fs.length) (kk : sm_V x bc bs (T.set k (.inr (ci, fs.set j (.ref r)))) I L (pc + 3) ls st) : sm_V x bc bs T I L pc ls (.ref r :: .ref k :: st) :=
  sm_putFW (fs' := fs.set j (.ref r)) (I' := I) (L' := L) hx hd lk hini hT hj (fun _ => by cases ty <;> first | rfl | cases ht) (fun _ => by cases ty <;> first | rfl | cases ht) (fun σ => sm_fs_ref) (fun _ _ => rfl) (fun _ _ => rfl) (fun _ h hv => sm_ok_fs h hv) kk
/-! arrays -/
theorem sm_iald {k m : Nat} {r : List (Option Nat)} {i : Int32} (hx : sm_Ok x md n K) (hd : decode md.2.1 pc = .ok (.iaload, 1)) (hT : T[k]? = some (.inl (.int, m, r))) (hi : vp_in i m) (kk : sm_V x bc bs T I L (pc + 1) ls (.int (I k i.toNatClampNeg) :: st)) : sm_V x bc bs T I L pc ls (.int i :: .ref k :: st) := by
  intro σ H locs cells slots la hH hP hls hst hc hs
  rw [List.all_cons, Bool.and_eq_true, List.all_cons, Bool.and_eq_true] at hst
  exact va_iald hx.1 hx.2.1 hx.2.2.2.2.2.2.1 hH.1 k 0 (sm_cn_at (cA := sm_xC x) (σ := σ) (I := I) (L := L) hT) rfl hi hd (kk σ H locs cells slots la hH hP hls hst.2.2 hc hs)
theorem sm_bald {k m : Nat} {r : List (Option Nat)} {i : Int32} (hx : sm_Ok x md n K) (hd : decode md.2.1 pc = .ok (.baload, 1)) (hT : T[k]? = some (.inl (.boolean, m, r))) (hi : vp_in i m) (kk : sm_V x bc bs T I L (pc + 1) ls (.int (I k i.toNatClampNeg) :: st)) : sm_V x bc bs T I L pc ls (.int i :: .ref k :: st) := by
  intro σ H locs cells slots la hH hP hls hst hc hs
  rw [List.all_cons, Bool.and_eq_true, List.all_cons, Bool.and_eq_true] at hst
  exact va_zald hx.1 hx.2.1 hx.2.2.2.2.2.2.1 hH.1 k 2 (sm_cn_at (cA := sm_xC x) (σ := σ) (I := I) (L := L) hT) rfl hi hd (kk σ H locs cells slots la hH hP hls hst.2.2 hc hs)
theorem sm_lald {k m : Nat} {r : List (Option Nat)} {i : Int32} (hx : sm_Ok x md n K) (hd : decode md.2.1 pc = .ok (.laload, 1)) (hT : T[k]? = some (.inl (.long, m, r))) (hi : vp_in i m) (kk : sm_V x bc bs T I L (pc + 1) ls (.long (L k i.toNatClampNeg) :: st)) : sm_V x bc bs T I L pc ls (.int i :: .ref k :: st) := by
  intro σ H locs cells slots la hH hP hls hst hc hs
  rw [List.all_cons, Bool.and_eq_true, List.all_cons, Bool.and_eq_true] at hst
  exact va_lald hx.1 hx.2.1 hx.2.2.2.2.2.2.1 hH.1 k 1 (sm_cn_at (cA := sm_xC x) (σ := σ) (I := I) (L := L) hT) rfl hi hd (kk σ H locs cells slots la hH hP hls hst.2.2 hc hs)
/-- a cell by an option of its number -/
def sm_rf : Option Nat → Value
  | none => .null
  | some k => .ref k
theorem sm_rf_tr {σ : Nat → Nat} {o : Option Nat} : sm_tr σ (sm_rf o) = va_rf (o.map σ) := by cases o <;> rfl
theorem sm_aald {k m : Nat} {r : List (Option Nat)} {i : Int32} (hx : sm_Ok x md n K) (hd : decode md.2.1 pc = .ok (.aaload, 1)) (hT : T[k]? = some (.inl (.object "java/lang/Object", m, r))) (hi : vp_in i m) (kk : sm_V x bc bs T I L (pc + 1) ls (sm_rf (r.getD i.toNatClampNeg none) :: st)) : sm_V x bc bs T I L pc ls (.int i :: .ref k :: st) := by
  intro σ H locs cells slots la hH hP hls hst hc hs
  rw [List.all_cons, Bool.and_eq_true, List.all_cons, Bool.and_eq_true] at hst
  have hok : (sm_rf (r.getD i.toNatClampNeg none) :: st).all (sm_ok T.length) = true := by
    rw [List.all_cons, Bool.and_eq_true]
    refine ⟨?_, hst.2.2⟩
    have h1 : sm_okS T.length (.inl (.object "java/lang/Object", m, r)) = true := List.all_eq_true.mp hH.2.2.2.1 _ (List.mem_of_getElem? hT)
    rw [List.getD_eq_getElem?_getD]
    cases hr : r[i.toNatClampNeg]? with
    | none => rfl
    | some o =>
      have := List.all_eq_true.mp h1 o (List.mem_of_getElem? hr)
      cases o with
      | none => rfl
      | some q => exact this
  have k0 := kk σ H locs cells slots la hH hP hls hok hc hs
  rw [List.map_cons, sm_rf_tr] at k0
  exact va_aldq hx.1 hx.2.1 hx.2.2.2.2.2.2.1 hH.1 k 3 (sm_cn_at (cA := sm_xC x) (σ := σ) (I := I) (L := L) hT) rfl hi hd k0
theorem sm_alen {k m : Nat} {ty : FieldType} {r : List (Option Nat)} (hx : sm_Ok x md n K) (hd : decode md.2.1 pc = .ok (.arraylength, 1)) (hT : T[k]? = some (.inl (ty, m, r))) (hty : ty = .int ∨ ty = .long ∨ ty = .boolean ∨ ty = .object "java/lang/Object") (kk : sm_V x bc bs T I L (pc + 1) ls (.int (nI m) :: st)) : sm_V x bc bs T I L pc ls (.ref k :: st) := by
  intro σ H locs cells slots la hH hP hls hst hc hs
  rw [List.all_cons, Bool.and_eq_true] at hst
  have hp : ∃ t0 : Nat, (sm_tys (sm_xC x))[t0]? = some (sm_xC x ty, ty) := by
    rcases hty with rfl | rfl | rfl | rfl
    · exact ⟨0, rfl⟩
    · exact ⟨1, rfl⟩
    · exact ⟨2, rfl⟩
    · exact ⟨3, rfl⟩
  obtain ⟨t0, ht⟩ := hp
  exact va_alen hx.1 hx.2.1 hx.2.2.2.2.2.2.1 hH.1 k t0 (sm_cn_at (cA := sm_xC x) (σ := σ) (I := I) (L := L) hT) ht rfl hd (kk σ H locs cells slots la hH hP hls hst.2 hc hs)
theorem sm_iast {k m : Nat} {r : List (Option Nat)} {i v : Int32} (hx : sm_Ok x md n K) (hd : decode md.2.1 pc = .ok (.iastore, 1)) (hT : T[k]? = some (.inl (.int, m, r))) (hi : vp_in i m) (kk : sm_V x bc bs T (sm_uI I k i.toNatClampNeg v) L (pc + 1) ls st) : sm_V x bc bs T I L pc ls (.int v :: .int i :: .ref k :: st) := by
  intro σ H locs cells slots la hH hP hls hst hc hs
  simp only [List.all_cons, Bool.and_eq_true] at hst
  have e := sm_cn_set (cA := sm_xC x) (σ := σ) (sh' := .inl (.int, m, r)) hT (I' := sm_uI I k i.toNatClampNeg v) (L' := L) (fun j s hj _ => sm_ce_mem (sm_uI_ne hj) rfl)
  have hce : sm_ce (sm_xC x) σ (sm_uI I k i.toNatClampNeg v) L k (.inl (.int, m, r)) = .inl (sm_xC x .int, m, .inl (upd (I k) i.toNatClampNeg v)) := by
    simp only [sm_ce, sm_ar, sm_uI_at]
  refine va_iast hx.1 hx.2.1 hx.2.2.2.2.2.2.1 hH.1 hH.2.1 hH.2.2.1 k 0 (sm_cn_at (cA := sm_xC x) (σ := σ) (I := I) (L := L) hT) rfl hi hd (fun H1 locs1 h1 h2 h3 => ?_)
  rw [← hce] at h1 h2
  exact kk σ H1 locs1 cells slots la (sm_H.put hH (sm_set_self hT).symm (List.all_eq_true.mp hH.2.2.2.1 _ (List.mem_of_getElem? hT)) (by rw [sm_set_self hT] at e; exact e) h1 h2 h3) hP hls hst.2.2.2 hc hs
theorem sm_bast {k m : Nat} {r : List (Option Nat)} {i : Int32} {b : Bool} (hx : sm_Ok x md n K) (hd : decode md.2.1 pc = .ok (.bastore, 1)) (hT : T[k]? = some (.inl (.boolean, m, r))) (hi : vp_in i m) (kk : sm_V x bc bs T (sm_uI I k i.toNatClampNeg (sm_z b)) L (pc + 1) ls st) : sm_V x bc bs T I L pc ls (.int (sm_z b) :: .int i :: .ref k :: st) := by
  intro σ H locs cells slots la hH hP hls hst hc hs
  simp only [List.all_cons, Bool.and_eq_true] at hst
  have e := sm_cn_set (cA := sm_xC x) (σ := σ) (sh' := .inl (.boolean, m, r)) hT (I' := sm_uI I k i.toNatClampNeg (sm_z b)) (L' := L) (fun j s hj _ => sm_ce_mem (sm_uI_ne hj) rfl)
  have hb : vp_nar .boolean (sm_z b) = sm_z b := by cases b <;> rfl
  have hce : sm_ce (sm_xC x) σ (sm_uI I k i.toNatClampNeg (sm_z b)) L k (.inl (.boolean, m, r)) = .inl (sm_xC x .boolean, m, .inl (upd (I k) i.toNatClampNeg (vp_nar .boolean (sm_z b)))) := by
    rw [hb]
    simp only [sm_ce, sm_ar, sm_uI_at]
  refine va_zast hx.1 hx.2.1 hx.2.2.2.2.2.2.1 hH.1 hH.2.1 hH.2.2.1 k 2 (sm_cn_at (cA := sm_xC x) (σ := σ) (I := I) (L := L) hT) rfl hi hd (fun H1 locs1 h1 h2 h3 => ?_)
  rw [← hce] at h1 h2
  exact kk σ H1 locs1 cells slots la (sm_H.put hH (sm_set_self hT).symm (List.all_eq_true.mp hH.2.2.2.1 _ (List.mem_of_getElem? hT)) (by rw [sm_set_self hT] at e; exact e) h1 h2 h3) hP hls hst.2.2.2 hc hs
theorem sm_last {k m : Nat} {r : List (Option Nat)} {i : Int32} {v : Int64} (hx : sm_Ok x md n K) (hd : decode md.2.1 pc = .ok (.lastore, 1)) (hT : T[k]? = some (.inl (.long, m, r))) (hi : vp_in i m) (kk : sm_V x bc bs T I (sm_uL L k i.toNatClampNeg v) (pc + 1) ls st) : sm_V x bc bs T I L pc ls (.long v :: .int i :: .ref k :: st) := by
  intro σ H locs cells slots la hH hP hls hst hc hs
  simp only [List.all_cons, Bool.and_eq_true] at hst
  have e := sm_cn_set (cA := sm_xC x) (σ := σ) (sh' := .inl (.long, m, r)) hT (I' := I) (L' := sm_uL L k i.toNatClampNeg v) (fun j s hj _ => sm_ce_mem rfl (sm_uL_ne hj))
  have hce : sm_ce (sm_xC x) σ I (sm_uL L k i.toNatClampNeg v) k (.inl (.long, m, r)) = .inl (sm_xC x .long, m, .inr (.inl (vp_updL (L k) i.toNatClampNeg v))) := by
    simp only [sm_ce, sm_ar, sm_uL_at]
  refine va_last hx.1 hx.2.1 hx.2.2.2.2.2.2.1 hH.1 hH.2.1 hH.2.2.1 k 1 (sm_cn_at (cA := sm_xC x) (σ := σ) (I := I) (L := L) hT) rfl hi hd (fun H1 locs1 h1 h2 h3 => ?_)
  rw [← hce] at h1 h2
  exact kk σ H1 locs1 cells slots la (sm_H.put hH (sm_set_self hT).symm (List.all_eq_true.mp hH.2.2.2.1 _ (List.mem_of_getElem? hT)) (by rw [sm_set_self hT] at e; exact e) h1 h2 h3) hP hls hst.2.2.2 hc hs
end SmHeap
