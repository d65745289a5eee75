/-! BASE 7. Branches on truths, answers that are a cell or none, switches. -/
section SmMore
variable {x : sm_Cx} {md md' : sm_MD} {n : Nat} {K : sm_K} {bc bs : Nat} {T : List sm_Sh} {I : sm_MI} {L : sm_ML} {pc : Nat} {ls : List (Option Value)} {st stk args : List Value} {idx na : Nat}
theorem sm_z0 {b : Bool} : sm_z b = 0 ↔ b = false := by cases b <;> decide
theorem sm_ifeqZ {b : Bool} {off : Int} {tgt : Nat} (hx : sm_Ok x md n K) (hd : decode md.2.1 pc = .ok (.ifCond .eq off, 3)) (ht : (pc : Int) + off = (tgt : Int)) (kt : b = false → sm_V x bc bs T I L tgt ls st) (kf : b = true → sm_V x bc bs T I L (pc + 3) ls st) : sm_V x bc bs T I L pc ls (.int (sm_z b) :: st) :=
  sm_ifeq hx hd ht (fun q => kt (sm_z0.mp q)) (fun q => kf (by cases b with | false => exact absurd rfl q | true => rfl))
theorem sm_ifneZ {b : Bool} {off : Int} {tgt : Nat} (hx : sm_Ok x md n K) (hd : decode md.2.1 pc = .ok (.ifCond .ne off, 3)) (ht : (pc : Int) + off = (tgt : Int)) (kt : b = true → sm_V x bc bs T I L tgt ls st) (kf : b = false → sm_V x bc bs T I L (pc + 3) ls st) : sm_V x bc bs T I L pc ls (.int (sm_z b) :: st) :=
  sm_ifne hx hd ht (fun q => kt (by cases b with | false => exact absurd rfl q | true => rfl)) (fun q => kf (sm_z0.mp q))
theorem sm_rfc (r : Option Nat) (h0 : r = none → sm_V x bc bs T I L pc ls (.null :: st)) (h1 : ∀ k : Nat, r = some k → sm_V x bc bs T I L pc ls (.ref k :: st)) : sm_V x bc bs T I L pc ls (sm_rf r :: st) := by
  cases r with
  | none => exact h0 rfl
  | some k => exact h1 k rfl
theorem sm_aald2 {k m : Nat} {r : List (Option Nat)} {i : Int32} (hx : sm_Ok x md n K) (hd : decode md.2.1 pc = .ok (.aaload, 1)) (hT : T[k]? = some (.inl (.object "java/lang/Object", m, r))) (hi : vp_in i m) (h0 : r.getD i.toNatClampNeg none = none → sm_V x bc bs T I L (pc + 1) ls (.null :: st)) (h1 : ∀ q : Nat, r.getD i.toNatClampNeg none = some q → sm_V x bc bs T I L (pc + 1) ls (.ref q :: st)) : sm_V x bc bs T I L pc ls (.int i :: .ref k :: st) :=
  sm_aald hx hd hT hi (sm_rfc _ h0 h1)
theorem sm_ti {a k : Int32} {z : Int} (q : a.toInt = z) (h : k.toInt = z) : a = k := Int32.toInt_inj.mp (q.trans h.symm)
theorem sm_tsw {dflt lo hi : Int} {offs : Array Int} {len : Nat} {a : Int32} (hx : sm_Ok x md n K) (hd : decode md.2.1 pc = .ok (.tableswitch dflt lo hi offs, len)) (hsz : (offs.size : Int) = hi - lo + 1) (hin : ∀ i : Nat, i < offs.size → a.toInt = lo + (i : Int) → ∃ (off : Int) (tgt : Nat), offs[i]? = some off ∧ (pc : Int) + off = (tgt : Int) ∧ sm_V x bc bs T I L tgt ls st) (hout : (∀ i : Nat, i < offs.size → ¬ a.toInt = lo + (i : Int)) → ∃ tgt : Nat, (pc : Int) + dflt = (tgt : Int) ∧ sm_V x bc bs T I L tgt ls st) : sm_V x bc bs T I L pc ls (.int a :: st) := by
  by_cases h1 : a.toInt < lo
  · obtain ⟨tgt, h2, h3⟩ := hout (fun i _ => by omega)
    exact sm_tableOut hx hd (Or.inl h1) h2 h3
  · by_cases h2 : hi < a.toInt
    · obtain ⟨tgt, h3, h4⟩ := hout (fun i hi' => by omega)
      exact sm_tableOut hx hd (Or.inr h2) h3 h4
    · obtain ⟨off, tgt, h3, h4, h5⟩ := hin (a.toInt - lo).toNat (by omega) (by omega)
      exact sm_tableIn hx hd h1 h2 h3 h4 h5
end SmMore
/-- a table's word by its place -/
theorem sm_t {w : Cond} (i : Nat) (h : tables_1[i]? = some w) : w ∈ lw_tbl := List.mem_append_right _ (List.mem_of_getElem? h)
theorem sm_p {w : Cond} (i : Nat) (h : (k2_sels lw_privs)[i]? = some w) : w ∈ lw_tbl := List.mem_append_left _ (List.mem_of_getElem? h)
theorem sm_t1 {w : Cond} (i : Nat) (h : tables_1_1[i]? = some w) : w ∈ lw_tbl := List.mem_append_right _ (show w ∈ tables_1 from List.mem_append_left _ (List.mem_of_getElem? h))
theorem sm_t2 {w : Cond} (i : Nat) (h : tables_1_2[i]? = some w) : w ∈ lw_tbl := List.mem_append_right _ (show w ∈ tables_1 from List.mem_append_right _ (List.mem_append_left _ (List.mem_of_getElem? h)))
theorem sm_t3 {w : Cond} (i : Nat) (h : tables_1_3[i]? = some w) : w ∈ lw_tbl := List.mem_append_right _ (show w ∈ tables_1 from List.mem_append_right _ (List.mem_append_right _ (List.mem_append_left _ (List.mem_of_getElem? h))))
theorem sm_t4 {w : Cond} (i : Nat) (h : tables_1_4[i]? = some w) : w ∈ lw_tbl := List.mem_append_right _ (show w ∈ tables_1 from List.mem_append_right _ (List.mem_append_right _ (List.mem_append_right _ (List.mem_append_left _ (List.mem_of_getElem? h)))))
theorem sm_t5 {w : Cond} (i : Nat) (h : tables_1_5[i]? = some w) : w ∈ lw_tbl := List.mem_append_right _ (show w ∈ tables_1 from List.mem_append_right _ (List.mem_append_right _ (List.mem_append_right _ (List.mem_append_right _ (List.mem_append_left _ (List.mem_of_getElem? h))))))
theorem sm_t6 {w : Cond} (i : Nat) (h : tables_1_6[i]? = some w) : w ∈ lw_tbl := List.mem_append_right _ (show w ∈ tables_1 from List.mem_append_right _ (List.mem_append_right _ (List.mem_append_right _ (List.mem_append_right _ (List.mem_append_right _ (List.mem_append_left _ (List.mem_of_getElem? h)))))))
theorem sm_t7 {w : Cond} (i : Nat) (h : tables_1_7[i]? = some w) : w ∈ lw_tbl := List.mem_append_right _ (show w ∈ tables_1 from List.mem_append_right _ (List.mem_append_right _ (List.mem_append_right _ (List.mem_append_right _ (List.mem_append_right _ (List.mem_append_right _ (List.mem_append_left _ (List.mem_of_getElem? h))))))))
theorem sm_t8 {w : Cond} (i : Nat) (h : tables_1_8[i]? = some w) : w ∈ lw_tbl := List.mem_append_right _ (show w ∈ tables_1 from List.mem_append_right _ (List.mem_append_right _ (List.mem_append_right _ (List.mem_append_right _ (List.mem_append_right _ (List.mem_append_right _ (List.mem_append_right _ (List.mem_append_left _ (List.mem_of_getElem? h)))))))))
theorem sm_t9 {w : Cond} (i : Nat) (h : tables_1_9[i]? = some w) : w ∈ lw_tbl := List.mem_append_right _ (show w ∈ tables_1 from List.mem_append_right _ (List.mem_append_right _ (List.mem_append_right _ (List.mem_append_right _ (List.mem_append_right _ (List.mem_append_right _ (List.mem_append_right _ (List.mem_append_right _ (List.mem_of_getElem? h)))))))))
