/-! ===== the law's entry ===== -/
theorem f4 {P : Nat → Prop} (h0 : P 0) (h1 : P 1) (h2 : P 2) (h3 : P 3) : ∀ i, i < 4 → P i := by
  intro i hi
  match i, hi with
  | 0, _ => exact h0
  | 1, _ => exact h1
  | 2, _ => exact h2
  | 3, _ => exact h3
  | i + 4, h => exact absurd h (Nat.not_lt.mpr (Nat.le_add_left 4 i))
def tmS : Nat → Term
  | 0 => .string RX9 22
  | 1 => .string RX9 99
  | 2 => .string RX9 104
  | _ => .string RX0 53
abbrev vT (i : Nat) : Term := .field (tmS i) "java/lang/String" "value" "[B"
abbrev tDE : Term := .static "java/util/ArrayList" "DEFAULTCAPACITY_EMPTY_ELEMENTDATA" "[Ljava/lang/Object;"
section
variable {args : Array Value} {s : State} {A : Nat → Prop}
theorem law_str {S : String} {k : Nat} {tx : String} (h1 : (Cond.stringRef S k tx).before args s = true) (h2 : (Cond.exactly (.string S k) "java/lang/String").before args s = true) : ∃ sa, vk_R S k tx sa s := by
  obtain ⟨a, c, cA, kA, q1, -⟩ := Cond.exactly_spec (args := args) (first := s) (o := none) (s := s) (idx := []) (t := .string S k) (cls := "java/lang/String") h2
  exact ⟨a, vk_R.of h1 q1⟩
theorem law_eqR {t u : Term} {a : Nat} (h : (Cond.eq t u).before args s = true) (ht : t.eval args s none [] s = some (.ref a)) : u.eval args s none [] s = some (.ref a) := by
  cases hu : u.eval args s none [] s with
  | none => simp [Cond.before, Cond.holds, Cond.value, ht, hu] at h
  | some w =>
    simp only [Cond.before, Cond.holds, Cond.value, ht, hu] at h
    cases w <;> simp_all
theorem law_XE (hts : ∀ w ∈ lw_tbl, w.before args s = true) (hgv : (Jvm.Cond.and given_1 narrow_1).before args s = true) (hA : ∀ a : Nat, a < s.heap.size → ¬ A a) : XE A s s.heap := by
  have hs := flat_of_before _ hgv
  exact ⟨vx_Zqof (hts _ (sm_t6 38 (by decide +kernel))) (hts _ (sm_t1 26 (by decide +kernel))) (hs _ (by decide +kernel)) hA, vx_Zqof (hts _ (sm_t6 40 (by decide +kernel))) (hts _ (sm_t1 26 (by decide +kernel))) (hs _ (by decide +kernel)) hA,
    law_str (hts _ (sm_t6 50 (by decide +kernel))) (hs _ (by decide +kernel)), law_str (hts _ (sm_t6 76 (by decide +kernel))) (hs _ (by decide +kernel)),
    List.forall_mem_cons.mpr ⟨va_Nw.of rfl (hts _ (sm_t6 15 (by decide +kernel))), List.forall_mem_cons.mpr ⟨va_Nw.of rfl (hts _ (sm_t6 17 (by decide +kernel))), List.forall_mem_cons.mpr ⟨va_Nw.of rfl (hts _ (sm_t6 19 (by decide +kernel))), fun _ h => nomatch h⟩⟩⟩⟩
end
