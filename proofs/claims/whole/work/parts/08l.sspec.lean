/-! ===== the texts of streets: what is read ===== -/
def dgV (c : Int32) : Nat := c.toNatClampNeg - 48
/-- a digit from lo to hi at place p -/
def dgP (h : Nat → Int32) (len lo hi p : Nat) : Nat ⊕ (Nat × Nat) := if isD (h (sk h len p)) = true ∧ lo ≤ dgV (h (sk h len p)) ∧ dgV (h (sk h len p)) ≤ hi then .inr (sk h len p + 1, dgV (h (sk h len p))) else .inl (sk h len p)
def hiO (H : Nat) : Nat → Nat
  | 0 => H - 1
  | 1 => 7
  | 2 => 4
  | _ => 1
def loO (_ : Nat) : Nat := 0
def hiA (H : Nat) (_ : Nat) : Nat := H - 1
def hiM (_ : Nat) : Nat := 9
def loM : Nat → Nat
  | 0 => 2
  | _ => 0
def updN (v : Nat → Nat) (j x : Nat) : Nat → Nat := fun i => if i = j then x else v i
/-- the items of a clause, those of the set m told -/
def itmP (h : Nat → Int32) (len : Nat) (it : Int32 → Option Nat) (lo hi : Nat → Nat) : Nat → Nat → Nat → (Nat → Nat) → Nat ⊕ (Nat × (Nat → Nat))
  | 0, p, _, v => .inr (sk h len p, v)
  | d + 1, p, m, v => (match it (h (sk h len p)) with
    | none => .inr (sk h len p, v)
    | some j => if m.testBit j = true then .inr (sk h len p, v) else (match dgP h len (lo j) (hi j) (sk h len p + 1) with
      | .inl e => .inl e
      | .inr q => itmP h len it lo hi d q.1 (m ||| 2 ^ j) (updN v j q.2)))
/-- sleepers, things, period, full -/
abbrev stT : Type := List (Nat → Nat) × List Nat × Nat × Nat
def dfO : Nat → Nat := fun j => if j = 1 then 1 else 0
def dfA : Nat → Nat := fun _ => 0
def dfM : Nat → Nat := fun j => if j = 0 then 7 else 0
def clsS (h : Nat → Int32) (len H : Nat) (st : stT) (p : Nat) : Nat ⊕ (Nat × stT) :=
  if h (sk h len p) = 119 then (if 5 ≤ st.1.length then .inl (sk h len p) else (match itmP h len itO loO (hiO H) len (sk h len p + 1) 0 dfO with
    | .inl e => .inl e
    | .inr q => .inr (q.1, st.1 ++ [q.2], st.2.1, st.2.2.1, st.2.2.2)))
  else if h (sk h len p) = 111 then (if 8 ≤ st.2.1.length then .inl (sk h len p) else (match itmP h len itA loO (hiA H) len (sk h len p + 1) 0 dfA with
    | .inl e => .inl e
    | .inr q => .inr (q.1, st.1, st.2.1 ++ [q.2 0], st.2.2.1, st.2.2.2)))
  else if h (sk h len p) = 109 then (if st.2.2.1 = 0 then (match itmP h len itM loM hiM len (sk h len p + 1) 0 dfM with
    | .inl e => .inl e
    | .inr q => .inr (q.1, st.1, st.2.1, q.2 0, q.2 1)) else .inl (sk h len p))
  else .inl (sk h len p)
def strL (h : Nat → Int32) (len H : Nat) : Nat → Nat → stT → Nat ⊕ stT
  | 0, p, _ => .inl (sk h len p)
  | d + 1, p, st => if h (sk h len p) = 59 then (match clsS h len H st (sk h len p + 1) with
      | .inl e => .inl e
      | .inr q => strL h len H d q.1 q.2)
    else if h (sk h len p) = -1 ∧ st.1.length ≠ 0 ∧ st.2.1.length ≠ 0 then .inr st else .inl (sk h len p)
/-- a street: its fault, or houses and all else -/
def strP (h : Nat → Int32) (len : Nat) : Nat ⊕ (Nat × stT) :=
  if h (sk h len 0) = 104 then (match dgP h len 2 8 (sk h len 0 + 1) with
    | .inl e => .inl e
    | .inr q => (match strL h len q.2 160 q.1 ([], [], 0, 0) with
      | .inl e => .inl e
      | .inr st => .inr (q.2, st)))
  else .inl (sk h len 0)
section
variable {h : Nat → Int32} {len : Nat}
theorem dg_lo : ∀ b, b < 48 → isD (nI b) = false ∧ ∀ lo, lo < 10 → nI b - 48 < nI lo := by decide +kernel
theorem dg_md : ∀ b, b < 10 → isD (nI (48 + b)) = true ∧ dgV (nI (48 + b)) = b ∧ nI (48 + b) - 48 = nI b := by decide +kernel
theorem dg_hi : ∀ b, b < 198 → isD (nI (58 + b)) = false ∧ ∀ hi, hi < 10 → nI hi < nI (58 + b) - 48 := by decide +kernel
theorem dg_no : isD (-1) = false ∧ ∀ lo, lo < 10 → (-1 : Int32) - 48 < nI lo := by decide +kernel
theorem dg_two (H : tpH h len) (q : Nat) : (isD (h q) = true ∧ dgV (h q) ≤ 9 ∧ h q - 48 = nI (dgV (h q))) ∨ (isD (h q) = false ∧ ((∀ lo, lo < 10 → h q - 48 < nI lo) ∨ ∀ hi, hi < 10 → nI hi < h q - 48)) := by
  rcases Nat.lt_or_ge q len with g | g
  · obtain ⟨b, _, h2, e⟩ := H.2.2 q g
    rw [e]
    rcases Nat.lt_or_ge b 48 with g1 | g1
    · obtain ⟨a1, a2⟩ := dg_lo b g1
      exact Or.inr ⟨a1, Or.inl a2⟩
    · rcases Nat.lt_or_ge b 58 with g2 | g2
      · obtain ⟨a1, a2, a3⟩ := dg_md (b - 48) (by omega)
        rw [show 48 + (b - 48) = b by omega] at a1 a2 a3
        exact Or.inl ⟨a1, by omega, by rw [a2]; exact a3⟩
      · obtain ⟨a1, a2⟩ := dg_hi (b - 58) (by omega)
        rw [show 58 + (b - 58) = b by omega] at a1 a2
        exact Or.inr ⟨a1, Or.inr a2⟩
  · rw [H.2.1 q g]
    exact Or.inr ⟨dg_no.1, Or.inl dg_no.2⟩
/-- the digit's test, as both make it -/
theorem dg_qW (H : tpH h len) {lo hi : Nat} (q : Nat) (hlo : lo ≤ 9) (hhi : hi ≤ 9) : qW (h q - 48) (nI lo) (nI hi) = true ↔ isD (h q) = true ∧ lo ≤ dgV (h q) ∧ dgV (h q) ≤ hi := by
  rw [qW_ok]
  rcases dg_two H q with ⟨a1, a2, a3⟩ | ⟨a1, a2 | a2⟩
  · rw [a3]
    constructor
    · intro ⟨b1, b2⟩
      refine ⟨a1, ?_, ?_⟩
      · rcases Nat.lt_or_ge (dgV (h q)) lo with g | g
        · exact absurd (nI_lt g (by omega)) b1
        · exact g
      · rcases Nat.lt_or_ge hi (dgV (h q)) with g | g
        · exact absurd (nI_lt g (by omega)) b2
        · exact g
    · intro ⟨_, b1, b2⟩
      exact ⟨nI_nlt b1 (by omega), nI_nlt b2 (by omega)⟩
  · constructor
    · intro b; exact absurd (a2 lo (by omega)) b.1
    · intro b; rw [a1] at b; exact absurd b.1 (by decide)
  · constructor
    · intro b; exact absurd (a2 hi (by omega)) b.2
    · intro b; rw [a1] at b; exact absurd b.1 (by decide)
/-- what a digit gives -/
theorem dgP_ok (H : tpH h len) {lo hi p : Nat} (hp : p ≤ len) : match dgP h len lo hi p with
    | .inl e => e ≤ len
    | .inr q => p < q.1 ∧ q.1 ≤ len ∧ lo ≤ q.2 ∧ q.2 ≤ hi ∧ q.2 ≤ 9 := by
  have s1 := sk_ge (h := h) (len := len) p
  have s2 := sk_le (h := h) (len := len) hp
  unfold dgP
  by_cases g : isD (h (sk h len p)) = true ∧ lo ≤ dgV (h (sk h len p)) ∧ dgV (h (sk h len p)) ≤ hi
  · rw [if_pos g]
    have hlt := H.lt (p := sk h len p) (fun e => by rw [e] at g; exact absurd g.1 (by decide))
    refine ⟨by show p < sk h len p + 1; omega, by show sk h len p + 1 ≤ len; omega, g.2.1, g.2.2, ?_⟩
    rcases dg_two H (sk h len p) with ⟨_, a2, _⟩ | ⟨a1, _⟩
    · exact a2
    · rw [a1] at g; exact absurd g.1 (by decide)
  · rw [if_neg g]; exact s2
theorem itmP_ok (H : tpH h len) {it : Int32 → Option Nat} {lo hi : Nat → Nat} (hit : it (-1) = none) : ∀ d p m v, p ≤ len → match itmP h len it lo hi d p m v with
    | .inl e => e ≤ len
    | .inr q => p ≤ q.1 ∧ q.1 ≤ len ∧ ∀ j, q.2 j = v j ∨ (lo j ≤ q.2 j ∧ q.2 j ≤ hi j ∧ q.2 j ≤ 9) := by
  intro d
  induction d with
  | zero =>
    intro p m v hp
    exact ⟨sk_ge p, sk_le hp, fun j => Or.inl rfl⟩
  | succ d ih =>
    intro p m v hp
    have s1 := sk_ge (h := h) (len := len) p
    have s2 := sk_le (h := h) (len := len) hp
    rw [itmP]
    cases hk : it (h (sk h len p)) with
    | none => exact ⟨s1, s2, fun j => Or.inl rfl⟩
    | some j =>
      have hlt := H.lt (p := sk h len p) (fun e => by rw [e, hit] at hk; cases hk)
      show match (if m.testBit j = true then (.inr (sk h len p, v) : Nat ⊕ (Nat × (Nat → Nat))) else (match dgP h len (lo j) (hi j) (sk h len p + 1) with
        | .inl e => .inl e
        | .inr q => itmP h len it lo hi d q.1 (m ||| 2 ^ j) (updN v j q.2))) with
        | .inl e => e ≤ len
        | .inr q => p ≤ q.1 ∧ q.1 ≤ len ∧ ∀ j, q.2 j = v j ∨ (lo j ≤ q.2 j ∧ q.2 j ≤ hi j ∧ q.2 j ≤ 9)
      by_cases g : m.testBit j = true
      · rw [if_pos g]; exact ⟨s1, s2, fun j => Or.inl rfl⟩
      · rw [if_neg g]
        have hd := dgP_ok H (lo := lo j) (hi := hi j) (p := sk h len p + 1) (by omega)
        cases hq : dgP h len (lo j) (hi j) (sk h len p + 1) with
        | inl e => rw [hq] at hd; exact hd
        | inr q =>
          rw [hq] at hd
          obtain ⟨d1, d2, d3, d4, d5⟩ := hd
          have := ih q.1 (m ||| 2 ^ j) (updN v j q.2) d2
          show match itmP h len it lo hi d q.1 (m ||| 2 ^ j) (updN v j q.2) with
            | .inl e => e ≤ len
            | .inr q => p ≤ q.1 ∧ q.1 ≤ len ∧ ∀ j, q.2 j = v j ∨ (lo j ≤ q.2 j ∧ q.2 j ≤ hi j ∧ q.2 j ≤ 9)
          cases hr : itmP h len it lo hi d q.1 (m ||| 2 ^ j) (updN v j q.2) with
          | inl e => rw [hr] at this; exact this
          | inr r =>
            rw [hr] at this
            obtain ⟨t1, t2, t3⟩ := this
            refine ⟨by omega, t2, fun i => ?_⟩
            rcases t3 i with z | z
            · rw [z]
              unfold updN
              by_cases e : i = j
              · subst e; rw [if_pos rfl]; exact Or.inr ⟨d3, d4, d5⟩
              · rw [if_neg e]; exact Or.inl rfl
            · exact Or.inr z
/-- all told: nothing more -/
theorem itm_full {it : Int32 → Option Nat} {lo hi : Nat → Nat} {d p m c : Nat} {v : Nat → Nat} (hit : ∀ x j, it x = some j → j < c) (hm : ∀ j, j < c → m.testBit j = true) : itmP h len it lo hi d p m v = .inr (sk h len p, v) := by
  cases d with
  | zero => rfl
  | succ d =>
    rw [itmP]
    cases hk : it (h (sk h len p)) with
    | none => rfl
    | some j => exact if_pos (hm j (hit _ _ hk))
/-- a digit stands where a sign is looked for: the items are at their end there -/
theorem itm_dig {it : Int32 → Option Nat} {lo hi : Nat → Nat} {d p m : Nat} {v : Nat → Nat} (hit : ∀ x, isD x = true → it x = none) (hd : isD (h p) = true) : itmP h len it lo hi d p m v = .inr (p, v) := by
  have hs : sk h len p = p := sk_stop (fun e => by rw [e] at hd; exact absurd hd (by decide))
  cases d with
  | zero => rw [itmP, hs]
  | succ d => rw [itmP, hs, hit _ hd]
def fL (H : Nat) (st : stT) : Prop := st.1.length ≤ 5 ∧ st.2.1.length ≤ 8 ∧ (∀ v ∈ st.1, v 0 < H) ∧ (∀ x ∈ st.2.1, x < H) ∧ st.2.2.1 < 10 ∧ st.2.2.2 < 10
theorem fL_nil {H : Nat} : fL H ([], [], 0, 0) := by
  refine ⟨by decide, by decide, ?_, ?_, by decide, by decide⟩
  · intro v hv
    exact absurd (show v ∈ ([] : List (Nat → Nat)) from hv) List.not_mem_nil
  · intro v hv
    exact absurd (show v ∈ ([] : List Nat) from hv) List.not_mem_nil
theorem clsS_ok (H : tpH h len) {HH : Nat} {st : stT} (h2 : 2 ≤ HH) (hf : fL HH st) {p : Nat} (hp : p ≤ len) : match clsS h len HH st p with
    | .inl e => e ≤ len
    | .inr q => p < q.1 ∧ q.1 ≤ len ∧ fL HH q.2 := by
  have s1 := sk_ge (h := h) (len := len) p
  have s2 := sk_le (h := h) (len := len) hp
  obtain ⟨f1, f2, f3, f4, f5, f6⟩ := hf
  unfold clsS
  by_cases g1 : h (sk h len p) = 119
  · rw [if_pos g1]
    have hlt := H.lt (p := sk h len p) (by rw [g1]; decide)
    by_cases g2 : 5 ≤ st.1.length
    · rw [if_pos g2]; exact s2
    · rw [if_neg g2]
      have hi := itmP_ok H (it := itO) (lo := loO) (hi := hiO HH) (by decide) len (sk h len p + 1) 0 dfO (by omega)
      cases hq : itmP h len itO loO (hiO HH) len (sk h len p + 1) 0 dfO with
      | inl e => rw [hq] at hi; exact hi
      | inr q =>
        rw [hq] at hi
        obtain ⟨i1, i2, i3⟩ := hi
        refine ⟨by show p < q.1; omega, i2, ?_, f2, fun v hv => ?_, f4, f5, f6⟩
        · show (st.1 ++ [q.2]).length ≤ 5
          rw [List.length_append, List.length_singleton]; omega
        · rcases List.mem_append.mp hv with z | z
          · exact f3 v z
          · rw [List.mem_singleton] at z
            subst z
            rcases i3 0 with y | y
            · rw [y]; show 0 < HH; omega
            · have : q.2 0 ≤ HH - 1 := y.2.1
              omega
  · rw [if_neg g1]
    by_cases g2 : h (sk h len p) = 111
    · rw [if_pos g2]
      have hlt := H.lt (p := sk h len p) (by rw [g2]; decide)
      by_cases g3 : 8 ≤ st.2.1.length
      · rw [if_pos g3]; exact s2
      · rw [if_neg g3]
        have hi := itmP_ok H (it := itA) (lo := loO) (hi := hiA HH) (by decide) len (sk h len p + 1) 0 dfA (by omega)
        cases hq : itmP h len itA loO (hiA HH) len (sk h len p + 1) 0 dfA with
        | inl e => rw [hq] at hi; exact hi
        | inr q =>
          rw [hq] at hi
          obtain ⟨i1, i2, i3⟩ := hi
          refine ⟨by show p < q.1; omega, i2, f1, ?_, f3, fun v hv => ?_, f5, f6⟩
          · show (st.2.1 ++ [q.2 0]).length ≤ 8
            rw [List.length_append, List.length_singleton]; omega
          · rcases List.mem_append.mp hv with z | z
            · exact f4 v z
            · rw [List.mem_singleton] at z
              subst z
              rcases i3 0 with y | y
              · rw [y]; show 0 < HH; omega
              · have : q.2 0 ≤ HH - 1 := y.2.1
                omega
    · rw [if_neg g2]
      by_cases g3 : h (sk h len p) = 109
      · rw [if_pos g3]
        have hlt := H.lt (p := sk h len p) (by rw [g3]; decide)
        by_cases g4 : st.2.2.1 = 0
        · rw [if_pos g4]
          have hi := itmP_ok H (it := itM) (lo := loM) (hi := hiM) (by decide) len (sk h len p + 1) 0 dfM (by omega)
          cases hq : itmP h len itM loM hiM len (sk h len p + 1) 0 dfM with
          | inl e => rw [hq] at hi; exact hi
          | inr q =>
            rw [hq] at hi
            obtain ⟨i1, i2, i3⟩ := hi
            refine ⟨by show p < q.1; omega, i2, f1, f2, f3, f4, ?_, ?_⟩
            · rcases i3 0 with y | y
              · show q.2 0 < 10
                rw [y]; decide
              · show q.2 0 < 10
                omega
            · rcases i3 1 with y | y
              · show q.2 1 < 10
                rw [y]; decide
              · show q.2 1 < 10
                omega
        · rw [if_neg g4]; exact s2
      · rw [if_neg g3]; exact s2
theorem strL_ok (H : tpH h len) {HH : Nat} (h2 : 2 ≤ HH) : ∀ d p st, p ≤ len → fL HH st → match strL h len HH d p st with
    | .inl e => e ≤ len
    | .inr s => fL HH s ∧ s.1.length ≠ 0 ∧ s.2.1.length ≠ 0 := by
  intro d
  induction d with
  | zero => intro p st hp hf; exact sk_le hp
  | succ d ih =>
    intro p st hp hf
    have s2 := sk_le (h := h) (len := len) hp
    rw [strL]
    by_cases g1 : h (sk h len p) = 59
    · rw [if_pos g1]
      have hlt := H.lt (p := sk h len p) (by rw [g1]; decide)
      have hc := clsS_ok H h2 hf (p := sk h len p + 1) (by omega)
      cases hq : clsS h len HH st (sk h len p + 1) with
      | inl e => rw [hq] at hc; exact hc
      | inr q => rw [hq] at hc; exact ih q.1 q.2 hc.2.1 hc.2.2
    · rw [if_neg g1]
      by_cases g2 : h (sk h len p) = -1 ∧ st.1.length ≠ 0 ∧ st.2.1.length ≠ 0
      · rw [if_pos g2]; exact ⟨hf, g2.2⟩
      · rw [if_neg g2]; exact s2
theorem strP_ok (H : tpH h len) : match strP h len with
    | .inl e => e ≤ len
    | .inr q => 2 ≤ q.1 ∧ q.1 ≤ 8 ∧ fL q.1 q.2 ∧ q.2.1.length ≠ 0 ∧ q.2.2.1.length ≠ 0 := by
  have s2 := sk_le (h := h) (len := len) (Nat.zero_le len)
  unfold strP
  by_cases g : h (sk h len 0) = 104
  · rw [if_pos g]
    have hlt := H.lt (p := sk h len 0) (by rw [g]; decide)
    have hd := dgP_ok H (lo := 2) (hi := 8) (p := sk h len 0 + 1) (by omega)
    cases hq : dgP h len 2 8 (sk h len 0 + 1) with
    | inl e => rw [hq] at hd; exact hd
    | inr q =>
      rw [hq] at hd
      have hs := strL_ok H (HH := q.2) hd.2.2.1 160 q.1 ([], [], 0, 0) hd.2.1 fL_nil
      show match (match strL h len q.2 160 q.1 ([], [], 0, 0) with
        | .inl e => (.inl e : Nat ⊕ (Nat × stT))
        | .inr st => .inr (q.2, st)) with
        | .inl e => e ≤ len
        | .inr q => 2 ≤ q.1 ∧ q.1 ≤ 8 ∧ fL q.1 q.2 ∧ q.2.1.length ≠ 0 ∧ q.2.2.1.length ≠ 0
      cases hr : strL h len q.2 160 q.1 ([], [], 0, 0) with
      | inl e => rw [hr] at hs; exact hs
      | inr st => rw [hr] at hs; exact ⟨hd.2.2.1, hd.2.2.2.1, hs.1, hs.2.1, hs.2.2⟩
  · rw [if_neg g]; exact s2
end
