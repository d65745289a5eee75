section
variable {args : Array Value} {s : State} {A : Nat → Prop}
/-- the classes and the kinds of arrays -/
theorem law_K (hts : ∀ w ∈ lw_tbl, w.before args s = true) : ∃ (D : va_G) (cA : FieldType → ClassId), va_K D vwCl (sm_tys cA) s := by
  have kn : ∀ {ci N n : Nat} {C : String} {Tt : u_T} {ty : Nat → FieldType}, sm_CF ci C Tt N ty → Cond.instantiable C n ∈ lw_tbl → ∃ z : ClassId × (Nat → Nat), ∀ q, vwCl[ci]? = some q → u_Kn s q.1 q.2.1 q.2.2 z.1 z.2 := by
    intro ci N n C Tt ty hC hi
    obtain ⟨cC, iS, hK⟩ := u_known (C := C) (T := Tt) (N := N) (n := n) hts (fun w hw => (hC.2.2.2 w hw).1) (hts _ hi)
    exact ⟨(cC, iS), fun q hq => by rw [hC.1] at hq; cases hq; exact hK⟩
  have h0 : ∀ c : Nat, ∃ z : ClassId × (Nat → Nat), ∀ q, vwCl[c]? = some q → u_Kn s q.1 q.2.1 q.2.2 z.1 z.2 := by
    intro c
    match c with
    | 0 => exact kn cf_Jx4a65c in_Jx4a65c
    | 1 => exact kn cf_X0 in_X0
    | 2 => exact kn cf_X1 in_X1
    | 3 => exact kn cf_X3 in_X3
    | 4 => exact kn cf_X4 in_X4
    | 5 => exact kn cf_X5 in_X5
    | 6 => exact kn cf_X6 in_X6
    | 7 => exact kn cf_X7 in_X7
    | 8 => exact kn cf_X8 in_X8
    | 9 => exact kn cf_X9 in_X9
    | 10 => exact kn cf_X10 in_X10
    | 11 => exact kn cf_X11 in_X11
    | 12 => exact kn cf_X12 in_X12
    | c + 13 => exact ⟨(0, fun _ => 0), fun q hq => nomatch hq⟩
  obtain ⟨f, hf⟩ := Classical.axiomOfChoice h0
  have ar : ∀ {ty : FieldType}, Cond.arrayClass ty ∈ lw_tbl → ∃ cA, ArrOfT s cA ty ∧ s.vm.findClass ("[" ++ ty.toString) = some cA := by
    intro ty h
    obtain ⟨cA, kA, comp, h1, h2, h3⟩ := Cond.arrayClass_spec (args := args) (first := s) (o := none) (s := s) (idx := []) (hts _ h)
    exact ⟨cA, fun N z => ⟨(fun k h => by cases h), kA, h2, comp, h3⟩, h1⟩
  obtain ⟨cI, aI, nI'⟩ := ar aq_int
  obtain ⟨cJ, aJ, nJ⟩ := ar aq_long
  obtain ⟨cZ, aZ, nZ⟩ := ar aq_boolean
  obtain ⟨comp, cO, kO, o1, -, o2, o3, o4⟩ := Cond.arrayOver_spec (args := args) (first := s) (o := none) (s := s) (idx := []) (n := "java/lang/Object") (hts _ aq_o)
  have aO : ArrOfT s cO (.object "java/lang/Object") := fun N z => ⟨(fun k h => by cases h), kO, o2, comp, o3⟩
  refine ⟨(fun c => (f c).1, fun c => (f c).2), fun ty => match ty with | .int => cI | .long => cJ | .boolean => cZ | _ => cO, fun c q hq => hf c q hq, fun k q hk => ?_⟩
  match k, hk with
  | 0, hk => cases hk; exact ⟨aI, nI'⟩
  | 1, hk => cases hk; exact ⟨aJ, nJ⟩
  | 2, hk => cases hk; exact ⟨aZ, nZ⟩
  | 3, hk => cases hk; exact ⟨aO, kO, comp, o2, o3, o1, o4⟩
  | k + 4, hk => exact nomatch hk
end
