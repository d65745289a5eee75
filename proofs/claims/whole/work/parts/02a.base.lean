/-! BASE 1. A world with numbered cells: its shape (which object or array lies at a number), and what its int and long places hold; values speak of numbers, an address map says where each lies. -/
def sm_tr (σ : Nat → Nat) : Value → Value
  | .ref k => .ref (σ k)
  | v => v
theorem sm_tr_cat (σ : Nat → Nat) (v : Value) : (sm_tr σ v).category = v.category := by cases v <;> rfl
theorem sm_b2 {v : Value} (h : ¬ v.category = 2) : Nat.beq v.category 2 = false := by
  cases hb : Nat.beq v.category 2 with
  | false => rfl
  | true => exact absurd (Nat.eq_of_beq_eq_true hb) h
abbrev sm_MI : Type := Nat → Nat → Int32
abbrev sm_ML : Type := Nat → Nat → Int64
/-- the shape of a cell: an array (its kind, length, and the cells that its places hold, where it holds cells), or an object (its class, and its fields: an int or a long stands for such a field, a ref or null is what the field holds) -/
abbrev sm_Sh : Type := (FieldType × Nat × List (Option Nat)) ⊕ (Nat × List Value)
def sm_fv (σ : Nat → Nat) (I : sm_MI) (L : sm_ML) (k j : Nat) : Value → Value
  | .int _ => .int (I k j)
  | .long _ => .long (L k j)
  | v => sm_tr σ v
def sm_ar (σ : Nat → Nat) (I : sm_MI) (L : sm_ML) (k : Nat) (ty : FieldType) (r : List (Option Nat)) : (Nat → Int32) ⊕ (Nat → Int64) ⊕ (Nat → UInt32) ⊕ (Nat → UInt64) ⊕ (Nat → Option Nat) := match ty with
  | .long => .inr (.inl (L k))
  | .object _ => .inr (.inr (.inr (.inr (fun i => (r.getD i none).map σ))))
  | _ => .inl (I k)
def sm_ce (cA : FieldType → ClassId) (σ : Nat → Nat) (I : sm_MI) (L : sm_ML) (k : Nat) : sm_Sh → va_E
  | .inl q => .inl (cA q.1, q.2.1, sm_ar σ I L k q.1 q.2.2)
  | .inr o => .inr (o.1, o.2.mapIdx (fun j v => sm_fv σ I L k j v))
def sm_cn (cA : FieldType → ClassId) (σ : Nat → Nat) (I : sm_MI) (L : sm_ML) : Nat → List sm_Sh → va_W
  | _, [] => []
  | k, sh :: T => (σ k, sm_ce cA σ I L k sh) :: sm_cn cA σ I L (k + 1) T
theorem sm_cn_get (cA : FieldType → ClassId) (σ : Nat → Nat) (I : sm_MI) (L : sm_ML) : ∀ (T : List sm_Sh) (b k : Nat), (sm_cn cA σ I L b T)[k]? = (T[k]?).map (fun sh => (σ (b + k), sm_ce cA σ I L (b + k) sh)) := by
  intro T
  induction T with
  | nil => intro b k; simp [sm_cn]
  | cons sh T ih =>
    intro b k
    cases k with
    | zero => simp [sm_cn]
    | succ k =>
      have e : b + (k + 1) = b + 1 + k := by omega
      simp only [sm_cn, List.getElem?_cons_succ, ih, e]
theorem sm_cn_at {cA : FieldType → ClassId} {σ : Nat → Nat} {I : sm_MI} {L : sm_ML} {T : List sm_Sh} {k : Nat} {sh : sm_Sh} (h : T[k]? = some sh) : (sm_cn cA σ I L 0 T)[k]? = some (σ k, sm_ce cA σ I L k sh) := by
  rw [sm_cn_get, h]; simp
theorem sm_cn_len (cA : FieldType → ClassId) (σ : Nat → Nat) (I : sm_MI) (L : sm_ML) : ∀ (T : List sm_Sh) (b : Nat), (sm_cn cA σ I L b T).length = T.length := by
  intro T
  induction T with
  | nil => intro b; rfl
  | cons sh T ih => intro b; simp [sm_cn, ih]
theorem sm_cn_snoc (cA : FieldType → ClassId) (σ : Nat → Nat) (I : sm_MI) (L : sm_ML) (sh : sm_Sh) : ∀ (T : List sm_Sh) (b : Nat), sm_cn cA σ I L b (T ++ [sh]) = sm_cn cA σ I L b T ++ [(σ (b + T.length), sm_ce cA σ I L (b + T.length) sh)] := by
  intro T
  induction T with
  | nil => intro b; simp [sm_cn]
  | cons s0 T ih =>
    intro b
    have e : b + (T.length + 1) = b + 1 + T.length := by omega
    simp [sm_cn, ih, e]
theorem sm_cn_congr {cA : FieldType → ClassId} {σ σ' : Nat → Nat} {I I' : sm_MI} {L L' : sm_ML} {T : List sm_Sh} (hs : ∀ k, k < T.length → σ' k = σ k) (he : ∀ k sh, T[k]? = some sh → sm_ce cA σ' I' L' k sh = sm_ce cA σ I L k sh) : sm_cn cA σ' I' L' 0 T = sm_cn cA σ I L 0 T := by
  apply List.ext_getElem?
  intro k
  rw [sm_cn_get, sm_cn_get]
  cases h : T[k]? with
  | none => rfl
  | some sh =>
    have hk : k < T.length := (List.getElem?_eq_some_iff.mp h).1
    simp [hs k hk, he k sh h]
/-- one cell anew -/
theorem sm_cn_set {cA : FieldType → ClassId} {σ : Nat → Nat} {I I' : sm_MI} {L L' : sm_ML} {T : List sm_Sh} {k : Nat} {sh sh' : sm_Sh} (h : T[k]? = some sh) (ho : ∀ j s, j ≠ k → T[j]? = some s → sm_ce cA σ I' L' j s = sm_ce cA σ I L j s) : sm_cn cA σ I' L' 0 (T.set k sh') = (sm_cn cA σ I L 0 T).set k (σ k, sm_ce cA σ I' L' k sh') := by
  have hk : k < T.length := (List.getElem?_eq_some_iff.mp h).1
  apply List.ext_getElem?
  intro j
  rw [sm_cn_get, List.getElem?_set, List.getElem?_set, sm_cn_get, sm_cn_len]
  by_cases hj : k = j
  · subst hj
    simp [hk]
  · simp only [if_neg hj]
    cases h2 : T[j]? with
    | none => rfl
    | some s => simp [ho j s (Ne.symm hj) h2]
theorem sm_set_self {T : List sm_Sh} {k : Nat} {sh : sm_Sh} (h : T[k]? = some sh) : T.set k sh = T := by
  apply List.ext_getElem?
  intro j
  rw [List.getElem?_set]
  by_cases hj : k = j
  · subst hj
    rw [if_pos rfl, if_pos (List.getElem?_eq_some_iff.mp h).1, h]
  · rw [if_neg hj]
/-- what is written -/
def sm_uI (I : sm_MI) (k j : Nat) (v : Int32) : sm_MI := fun a b => if a = k then (if b = j then v else I a b) else I a b
def sm_uL (L : sm_ML) (k j : Nat) (v : Int64) : sm_ML := fun a b => if a = k then (if b = j then v else L a b) else L a b
def sm_zI (I : sm_MI) (k : Nat) : sm_MI := fun a b => if a = k then 0 else I a b
def sm_zL (L : sm_ML) (k : Nat) : sm_ML := fun a b => if a = k then 0 else L a b
theorem sm_uI_ne {I : sm_MI} {k j : Nat} {v : Int32} {a : Nat} (h : a ≠ k) : sm_uI I k j v a = I a := by funext b; simp [sm_uI, h]
theorem sm_uL_ne {L : sm_ML} {k j : Nat} {v : Int64} {a : Nat} (h : a ≠ k) : sm_uL L k j v a = L a := by funext b; simp [sm_uL, h]
theorem sm_zI_ne {I : sm_MI} {k a : Nat} (h : a ≠ k) : sm_zI I k a = I a := by funext b; simp [sm_zI, h]
theorem sm_zL_ne {L : sm_ML} {k a : Nat} (h : a ≠ k) : sm_zL L k a = L a := by funext b; simp [sm_zL, h]
theorem sm_uI_at (I : sm_MI) (k j : Nat) (v : Int32) : sm_uI I k j v k = upd (I k) j v := by funext b; simp [sm_uI, upd]
theorem sm_uL_at (L : sm_ML) (k j : Nat) (v : Int64) : sm_uL L k j v k = vp_updL (L k) j v := by funext b; simp [sm_uL, vp_updL]
/-- a cell says the same where its places and its cells' addresses are the same -/
theorem sm_ce_mem {cA : FieldType → ClassId} {σ : Nat → Nat} {I I' : sm_MI} {L L' : sm_ML} {k : Nat} {sh : sm_Sh} (hI : I' k = I k) (hL : L' k = L k) : sm_ce cA σ I' L' k sh = sm_ce cA σ I L k sh := by
  cases sh with
  | inl q => obtain ⟨ty, n, r⟩ := q; cases ty <;> simp [sm_ce, sm_ar, hI, hL]
  | inr o =>
    have h : ∀ (j : Nat) (v : Value), sm_fv σ I' L' k j v = sm_fv σ I L k j v := fun j v => by cases v <;> simp [sm_fv, hI, hL]
    simp only [sm_ce, h]
/-- the numbers that a value, a shape speaks of are there, or outside -/
def sm_ok (n : Nat) : Value → Bool
  | .ref k => Nat.blt k n || Nat.ble 1000000 k
  | _ => true
def sm_okN (n : Nat) : Option Nat → Bool
  | some k => Nat.blt k n || Nat.ble 1000000 k
  | none => true
def sm_okS (n : Nat) : sm_Sh → Bool
  | .inl q => q.2.2.all (sm_okN n)
  | .inr o => o.2.all (sm_ok n)
def sm_okT (n : Nat) (T : List sm_Sh) : Bool := T.all (sm_okS n)
def sm_okO (n : Nat) : Option Value → Bool
  | some v => sm_ok n v
  | none => true
def sm_agr (n : Nat) (σ' σ : Nat → Nat) : Prop := ∀ k, (k < n ∨ 1000000 ≤ k) → σ' k = σ k
theorem sm_agr.rf {n : Nat} {σ : Nat → Nat} : sm_agr n σ σ := fun _ _ => rfl
theorem sm_agr.trans {n n' : Nat} {a b c : Nat → Nat} (h1 : sm_agr n' a b) (h2 : sm_agr n b c) (h : n ≤ n') : sm_agr n a c := fun k hk => (h1 k (hk.imp (fun q => Nat.lt_of_lt_of_le q h) id)).trans (h2 k hk)
theorem sm_blt {k n : Nat} (h : (Nat.blt k n || Nat.ble 1000000 k) = true) : k < n ∨ 1000000 ≤ k := by
  rcases Bool.or_eq_true_iff.mp h with h | h
  · exact Or.inl (Nat.le_of_ble_eq_true h)
  · exact Or.inr (Nat.le_of_ble_eq_true h)
theorem sm_blt' {k n : Nat} (h : k < n ∨ 1000000 ≤ k) : (Nat.blt k n || Nat.ble 1000000 k) = true := by
  rcases h with h | h
  · rw [show Nat.blt k n = true from Nat.ble_eq_true_of_le h]; rfl
  · rw [Nat.ble_eq_true_of_le h, Bool.or_true]
theorem sm_ok_mono {n n' : Nat} (h : n ≤ n') {v : Value} (hv : sm_ok n v = true) : sm_ok n' v = true := by
  cases v <;> first | rfl | exact sm_blt' ((sm_blt hv).imp (fun q => Nat.lt_of_lt_of_le q h) id)
theorem sm_okN_mono {n n' : Nat} (h : n ≤ n') {v : Option Nat} (hv : sm_okN n v = true) : sm_okN n' v = true := by
  cases v <;> first | rfl | exact sm_blt' ((sm_blt hv).imp (fun q => Nat.lt_of_lt_of_le q h) id)
theorem sm_okS_mono {n n' : Nat} (h : n ≤ n') {v : sm_Sh} (hv : sm_okS n v = true) : sm_okS n' v = true := by
  cases v with
  | inl q => exact List.all_eq_true.mpr fun z hz => sm_okN_mono h (List.all_eq_true.mp hv z hz)
  | inr o => exact List.all_eq_true.mpr fun z hz => sm_ok_mono h (List.all_eq_true.mp hv z hz)
theorem sm_okT_mono {n n' : Nat} (h : n ≤ n') {T : List sm_Sh} (hv : sm_okT n T = true) : sm_okT n' T = true := List.all_eq_true.mpr fun z hz => sm_okS_mono h (List.all_eq_true.mp hv z hz)
theorem sm_okO_mono {n n' : Nat} (h : n ≤ n') {v : Option Value} (hv : sm_okO n v = true) : sm_okO n' v = true := by
  cases v with
  | none => rfl
  | some v => exact sm_ok_mono (v := v) h hv
theorem sm_okL_mono {n n' : Nat} (h : n ≤ n') {l : List Value} (hv : l.all (sm_ok n) = true) : l.all (sm_ok n') = true := List.all_eq_true.mpr fun z hz => sm_ok_mono h (List.all_eq_true.mp hv z hz)
theorem sm_okLO_mono {n n' : Nat} (h : n ≤ n') {l : List (Option Value)} (hv : l.all (sm_okO n) = true) : l.all (sm_okO n') = true := List.all_eq_true.mpr fun z hz => sm_okO_mono h (List.all_eq_true.mp hv z hz)
theorem sm_tr_agr {n : Nat} {σ' σ : Nat → Nat} (h : sm_agr n σ' σ) {v : Value} (hv : sm_ok n v = true) : sm_tr σ' v = sm_tr σ v := by
  cases v <;> first | rfl | (simp only [sm_tr]; rw [h _ (sm_blt hv)])
theorem sm_trL_agr {n : Nat} {σ' σ : Nat → Nat} (h : sm_agr n σ' σ) {l : List Value} (hl : l.all (sm_ok n) = true) : l.map (sm_tr σ') = l.map (sm_tr σ) := List.map_congr_left fun v hv => sm_tr_agr h (List.all_eq_true.mp hl v hv)
theorem sm_ce_agr {cA : FieldType → ClassId} {n : Nat} {σ' σ : Nat → Nat} (h : sm_agr n σ' σ) {I : sm_MI} {L : sm_ML} {k : Nat} {sh : sm_Sh} (hs : sm_okS n sh = true) : sm_ce cA σ' I L k sh = sm_ce cA σ I L k sh := by
  cases sh with
  | inl q =>
    obtain ⟨ty, m, r⟩ := q
    cases ty with
    | object C =>
      have hf : (fun i => (r.getD i none).map σ') = (fun i => (r.getD i none).map σ) := by
        funext i
        cases hr : r[i]? with
        | none => simp [List.getD_eq_getElem?_getD, hr]
        | some o =>
          have ho : sm_okN n o = true := List.all_eq_true.mp hs o (List.mem_of_getElem? hr)
          cases o with
          | none => simp [List.getD_eq_getElem?_getD, hr]
          | some z => simp [List.getD_eq_getElem?_getD, hr, h z (sm_blt ho)]
      simp only [sm_ce, sm_ar, hf]
    | _ => rfl
  | inr o =>
    obtain ⟨ci, fs⟩ := o
    have hm : fs.mapIdx (fun j v => sm_fv σ' I L k j v) = fs.mapIdx (fun j v => sm_fv σ I L k j v) := by
      apply List.ext_getElem?
      intro j
      rw [List.getElem?_mapIdx, List.getElem?_mapIdx]
      cases hj : fs[j]? with
      | none => rfl
      | some v =>
        have hv : sm_ok n v = true := List.all_eq_true.mp hs v (List.mem_of_getElem? hj)
        have := sm_tr_agr h hv
        cases v <;> simp_all [sm_fv]
    simp only [sm_ce, hm]
theorem sm_cn_agr {cA : FieldType → ClassId} {σ' σ : Nat → Nat} {I : sm_MI} {L : sm_ML} {T : List sm_Sh} (h : sm_agr T.length σ' σ) (hT : sm_okT T.length T = true) : sm_cn cA σ' I L 0 T = sm_cn cA σ I L 0 T :=
  sm_cn_congr (fun k hk => h k (Or.inl hk)) fun k sh hk => sm_ce_agr h (List.all_eq_true.mp hT sh (List.mem_of_getElem? hk))
/-! the locals by their places -/
def sm_as (σ : Nat → Nat) : Nat → List (Option Value) → List (Nat × Value)
  | _, [] => []
  | i, none :: t => sm_as σ (i + 1) t
  | i, some v :: t => (i, sm_tr σ v) :: sm_as σ (i + 1) t
theorem sm_as_mem {σ : Nat → Nat} {q : Nat × Value} : ∀ (ls : List (Option Value)) (b : Nat), q ∈ sm_as σ b ls ↔ ∃ (j : Nat) (v : Value), ls[j]? = some (some v) ∧ q = (b + j, sm_tr σ v) := by
  intro ls
  induction ls with
  | nil => intro b; simp [sm_as]
  | cons o t ih =>
    intro b
    have key : (∃ (j : Nat) (v : Value), t[j]? = some (some v) ∧ q = (b + 1 + j, sm_tr σ v)) ↔ ∃ (j : Nat) (v : Value), (o :: t)[j + 1]? = some (some v) ∧ q = (b + (j + 1), sm_tr σ v) := by
      constructor
      · rintro ⟨j, v, h1, h2⟩; exact ⟨j, v, h1, by rw [h2]; congr 1; omega⟩
      · rintro ⟨j, v, h1, h2⟩; exact ⟨j, v, h1, by rw [h2]; congr 1; omega⟩
    cases o with
    | none =>
      rw [sm_as, ih, key]
      constructor
      · rintro ⟨j, v, h⟩; exact ⟨j + 1, v, h⟩
      · rintro ⟨j, v, h1, h2⟩
        cases j with
        | zero => simp at h1
        | succ j => exact ⟨j, v, h1, h2⟩
    | some w =>
      rw [sm_as, List.mem_cons, ih, key]
      constructor
      · rintro (h | ⟨j, v, h⟩)
        · exact ⟨0, w, rfl, h⟩
        · exact ⟨j + 1, v, h⟩
      · rintro ⟨j, v, h1, h2⟩
        cases j with
        | zero =>
          left
          simp only [List.getElem?_cons_zero, Option.some.injEq] at h1
          rw [h2, h1]; rfl
        | succ j => exact Or.inr ⟨j, v, h1, h2⟩
def sm_PL (σ : Nat → Nat) (la : Array Slot) (nL : Nat) (ls : List (Option Value)) : Prop := lv_has la nL (sm_as σ 0 ls)
theorem sm_PL.at {σ : Nat → Nat} {la : Array Slot} {nL : Nat} {ls : List (Option Value)} (h : sm_PL σ la nL ls) {i : Nat} {v : Value} (hi : ls[i]? = some (some v)) : la[i]? = some (.val (sm_tr σ v)) :=
  h.2.2 (i, sm_tr σ v) ((sm_as_mem ls 0).mpr ⟨i, v, hi, by simp⟩)
theorem sm_PL.agr {σ σ' : Nat → Nat} {la : Array Slot} {nL n : Nat} {ls : List (Option Value)} (h : sm_PL σ la nL ls) (ha : sm_agr n σ' σ) (hl : ls.all (sm_okO n) = true) : sm_PL σ' la nL ls := by
  refine ⟨h.1, h.2.1, fun q hq => ?_⟩
  obtain ⟨j, v, h1, rfl⟩ := (sm_as_mem ls 0).mp hq
  have hv : sm_ok n v = true := List.all_eq_true.mp hl (some v) (List.mem_of_getElem? h1)
  refine h.2.2 _ ((sm_as_mem ls 0).mpr ⟨j, v, h1, ?_⟩)
  rw [sm_tr_agr ha hv]
def sm_dr (ls : List (Option Value)) : Nat → List (Option Value)
  | 0 => ls
  | k + 1 => match ls[k]? with
    | some (some w) => bif Nat.beq w.category 2 then ls.set k none else ls
    | _ => ls
def sm_st1 (ls : List (Option Value)) (i : Nat) (v : Value) : List (Option Value) := (sm_dr ls i).set i (some v)
def sm_st2 (ls : List (Option Value)) (i : Nat) (v : Value) : List (Option Value) := ((sm_dr ls i).set (i + 1) none).set i (some v)
theorem sm_dr_get {ls : List (Option Value)} {i j : Nat} {v : Value} (h : (sm_dr ls i)[j]? = some (some v)) : ls[j]? = some (some v) ∧ ¬ (j + 1 = i ∧ v.category = 2) := by
  cases i with
  | zero => exact ⟨h, fun q => by omega⟩
  | succ k =>
    cases hk : ls[k]? with
    | none =>
      simp only [sm_dr, hk] at h
      refine ⟨h, fun q => ?_⟩
      have : j = k := by omega
      subst this
      rw [hk] at h; cases h
    | some o =>
      cases o with
      | none =>
        simp only [sm_dr, hk] at h
        refine ⟨h, fun q => ?_⟩
        have : j = k := by omega
        subst this
        rw [hk] at h; cases h
      | some w =>
        simp only [sm_dr, hk] at h
        by_cases hc : w.category = 2
        · rw [show Nat.beq w.category 2 = true by rw [hc]; rfl, cond_true, List.getElem?_set] at h
          by_cases hj : k = j
          · subst hj
            rw [if_pos rfl] at h
            split at h <;> cases h
          · rw [if_neg hj] at h
            exact ⟨h, fun q => hj (by omega)⟩
        · rw [sm_b2 hc, cond_false] at h
          refine ⟨h, fun q => ?_⟩
          have : j = k := by omega
          subst this
          rw [hk] at h; cases h
          exact hc q.2
theorem sm_PL.st1 {σ : Nat → Nat} {la : Array Slot} {nL : Nat} {ls : List (Option Value)} (h : sm_PL σ la nL ls) {i : Nat} {v : Value} : ∀ q ∈ sm_as σ 0 (sm_st1 ls i v), q ∈ (i, sm_tr σ v) :: (sm_as σ 0 ls).filter (fun q => !(q.1 == i) && !(q.1 + 1 == i && q.2.category == 2)) := by
  intro q hq
  obtain ⟨j, w, h1, rfl⟩ := (sm_as_mem _ 0).mp hq
  rw [sm_st1, List.getElem?_set] at h1
  by_cases hj : i = j
  · subst hj
    rw [if_pos rfl] at h1
    split at h1
    · simp only [Option.some.injEq] at h1
      subst h1
      simp
    · cases h1
  · rw [if_neg hj] at h1
    obtain ⟨h2, h3⟩ := sm_dr_get h1
    refine List.mem_cons_of_mem _ (List.mem_filter.mpr ⟨(sm_as_mem ls 0).mpr ⟨j, w, h2, rfl⟩, ?_⟩)
    have hj' : ¬ j = i := fun e => hj e.symm
    simp only [Nat.zero_add, sm_tr_cat]
    by_cases hc : w.category = 2
    · have : ¬ j + 1 = i := fun e => h3 ⟨e, hc⟩
      simp [hj', this]
    · simp [hj', hc]
theorem sm_PL.st2 {σ : Nat → Nat} {la : Array Slot} {nL : Nat} {ls : List (Option Value)} (h : sm_PL σ la nL ls) {i : Nat} {v : Value} : ∀ q ∈ sm_as σ 0 (sm_st2 ls i v), q ∈ (i, sm_tr σ v) :: (sm_as σ 0 ls).filter (fun q => !(q.1 == i) && (!(q.1 == i + 1) && !(q.1 + 1 == i && q.2.category == 2))) := by
  intro q hq
  obtain ⟨j, w, h1, rfl⟩ := (sm_as_mem _ 0).mp hq
  rw [sm_st2, List.getElem?_set] at h1
  by_cases hj : i = j
  · subst hj
    rw [if_pos rfl] at h1
    split at h1
    · simp only [Option.some.injEq] at h1
      subst h1
      simp
    · cases h1
  · rw [if_neg hj, List.getElem?_set] at h1
    by_cases hj1 : i + 1 = j
    · rw [if_pos hj1] at h1
      split at h1 <;> cases h1
    · rw [if_neg hj1] at h1
      obtain ⟨h2, h3⟩ := sm_dr_get h1
      refine List.mem_cons_of_mem _ (List.mem_filter.mpr ⟨(sm_as_mem ls 0).mpr ⟨j, w, h2, rfl⟩, ?_⟩)
      have hj' : ¬ j = i := fun e => hj e.symm
      have hj1' : ¬ j = i + 1 := fun e => hj1 e.symm
      simp only [Nat.zero_add, sm_tr_cat]
      by_cases hc : w.category = 2
      · have : ¬ j + 1 = i := fun e => h3 ⟨e, hc⟩
        simp [hj', hj1', this]
      · simp [hj', hj1', hc]
theorem sm_PL.of {σ : Nat → Nat} {la : Array Slot} {nL : Nat} {ls : List (Option Value)} {l : List (Nat × Value)} (h : lv_has la nL l) (hs : ∀ q ∈ sm_as σ 0 ls, q ∈ l) : sm_PL σ la nL ls := ⟨h.1, h.2.1, fun q hq => h.2.2 q (hs q hq)⟩
theorem sm_ok_dr {n i : Nat} {ls : List (Option Value)} (h : ls.all (sm_okO n) = true) : (sm_dr ls i).all (sm_okO n) = true := by
  refine List.all_eq_true.mpr fun z hz => ?_
  obtain ⟨j, hj⟩ := List.getElem?_of_mem hz
  cases z with
  | none => rfl
  | some v => exact List.all_eq_true.mp h _ (List.mem_of_getElem? (sm_dr_get hj).1)
theorem sm_ok_set {n i : Nat} {ls : List (Option Value)} {o : Option Value} (h : ls.all (sm_okO n) = true) (ho : sm_okO n o = true) : (ls.set i o).all (sm_okO n) = true := by
  refine List.all_eq_true.mpr fun z hz => ?_
  rcases List.mem_or_eq_of_mem_set hz with h1 | h1
  · exact List.all_eq_true.mp h _ h1
  · rw [h1]; exact ho
theorem sm_ok_st1 {n i : Nat} {ls : List (Option Value)} {v : Value} (h : ls.all (sm_okO n) = true) (hv : sm_ok n v = true) : (sm_st1 ls i v).all (sm_okO n) = true := sm_ok_set (sm_ok_dr h) hv
theorem sm_ok_st2 {n i : Nat} {ls : List (Option Value)} {v : Value} (h : ls.all (sm_okO n) = true) (hv : sm_ok n v = true) : (sm_st2 ls i v).all (sm_okO n) = true := sm_ok_set (sm_ok_set (sm_ok_dr h) rfl) hv
theorem sm_ok_at {n i : Nat} {ls : List (Option Value)} {v : Value} (h : ls.all (sm_okO n) = true) (hi : ls[i]? = some (some v)) : sm_ok n v = true := List.all_eq_true.mp h (some v) (List.mem_of_getElem? hi)
/-- the locals at a method's start -/
def sm_exp : List Value → List (Option Value)
  | [] => []
  | v :: vs => bif Nat.beq v.category 2 then some v :: none :: sm_exp vs else some v :: sm_exp vs
def sm_ent (nL : Nat) (args : List Value) : List (Option Value) := sm_exp args ++ List.replicate (nL - (sm_exp args).length) none
theorem sm_exp_mem {σ : Nat → Nat} : ∀ (vs : List Value) (b : Nat), ∀ q ∈ sm_as σ b (sm_exp vs), q ∈ lv_args b (vs.map (sm_tr σ)) := by
  intro vs
  induction vs with
  | nil => intro b q hq; simp [sm_exp, sm_as] at hq
  | cons v vs ih =>
    intro b q hq
    rw [List.map_cons, lv_args, sm_tr_cat]
    by_cases hc : v.category = 2
    · rw [sm_exp, show Nat.beq v.category 2 = true by rw [hc]; rfl, cond_true, sm_as, sm_as] at hq
      rw [if_pos hc]
      rcases List.mem_cons.mp hq with h | h
      · exact List.mem_cons.mpr (Or.inl h)
      · exact List.mem_cons_of_mem _ (ih _ q h)
    · rw [sm_exp, sm_b2 hc, cond_false, sm_as] at hq
      rw [if_neg hc]
      rcases List.mem_cons.mp hq with h | h
      · exact List.mem_cons.mpr (Or.inl h)
      · exact List.mem_cons_of_mem _ (ih _ q h)
theorem sm_as_rep {σ : Nat → Nat} : ∀ (n b : Nat), sm_as σ b (List.replicate n none) = [] := by
  intro n
  induction n with
  | zero => intro b; rfl
  | succ n ih => intro b; rw [List.replicate_succ, sm_as, ih]
theorem sm_as_app {σ : Nat → Nat} : ∀ (l1 l2 : List (Option Value)) (b : Nat), sm_as σ b (l1 ++ l2) = sm_as σ b l1 ++ sm_as σ (b + l1.length) l2 := by
  intro l1
  induction l1 with
  | nil => intro l2 b; simp [sm_as]
  | cons o t ih =>
    intro l2 b
    have e : b + (t.length + 1) = b + 1 + t.length := by omega
    cases o <;> simp [sm_as, ih, e]
theorem sm_PL.ent {σ : Nat → Nat} {args : List Value} {nL : Nat} (h : (lg_sl (args.map (sm_tr σ))).length ≤ nL) : sm_PL σ ((lg_sl (args.map (sm_tr σ)) ++ List.replicate (nL - (lg_sl (args.map (sm_tr σ))).length) Slot.unset).toArray) nL (sm_ent nL args) := by
  refine sm_PL.of (lv_entry _ h) fun q hq => ?_
  rw [sm_ent, sm_as_app, sm_as_rep, List.append_nil] at hq
  exact sm_exp_mem args 0 q hq
theorem sm_sl_len {σ : Nat → Nat} : ∀ (args : List Value), (lg_sl (args.map (sm_tr σ))).length = (sm_exp args).length := by
  intro args
  induction args with
  | nil => rfl
  | cons v vs ih =>
    have e : lg_sl ((v :: vs).map (sm_tr σ)) = (if (sm_tr σ v).category = 2 then [.val (sm_tr σ v), .second] else [.val (sm_tr σ v)]) ++ lg_sl (vs.map (sm_tr σ)) := by simp [lg_sl]
    rw [e, sm_tr_cat, List.length_append, ih]
    by_cases hc : v.category = 2
    · rw [if_pos hc, sm_exp, show Nat.beq v.category 2 = true by rw [hc]; rfl, cond_true]
      simp only [List.length_cons, List.length_nil]; omega
    · rw [if_neg hc, sm_exp, sm_b2 hc, cond_false]
      simp only [List.length_cons, List.length_nil]; omega
theorem sm_ok_ent {n nL : Nat} {args : List Value} (h : args.all (sm_ok n) = true) : (sm_ent nL args).all (sm_okO n) = true := by
  refine List.all_eq_true.mpr fun z hz => ?_
  rcases List.mem_append.mp hz with h1 | h1
  · have key : ∀ (vs : List Value), vs.all (sm_ok n) = true → ∀ z ∈ sm_exp vs, sm_okO n z = true := by
      intro vs
      induction vs with
      | nil => intro _ z hz; cases hz
      | cons v vs ih =>
        intro hv z hz
        rw [List.all_cons, Bool.and_eq_true] at hv
        rw [sm_exp] at hz
        cases hb : Nat.beq v.category 2 with
        | true =>
          rw [hb, cond_true] at hz
          rcases List.mem_cons.mp hz with e | hz
          · rw [e]; exact hv.1
          · rcases List.mem_cons.mp hz with e | hz
            · rw [e]; rfl
            · exact ih hv.2 z hz
        | false =>
          rw [hb, cond_false] at hz
          rcases List.mem_cons.mp hz with e | hz
          · rw [e]; exact hv.1
          · exact ih hv.2 z hz
    exact key args h z h1
  · rw [(List.mem_replicate.mp h1).2]; rfl
