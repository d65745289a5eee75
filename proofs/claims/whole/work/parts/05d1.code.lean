/-! ===== code of rules, as plain lists: (kind, value); what it works out ===== -/
abbrev cdL : Type := List (Nat × Nat)
abbrev vfn : Type := (Nat → Int32) → Int32
def clmp (x : Int64) : Int32 := Int64.toInt32 (if (if x < 1000000 then x else 1000000) < (-1000000) then (-1000000) else (if x < 1000000 then x else 1000000))
/-- sums and comparisons, alike in both -/
def opA (k : Nat) (a b : Int32) : Int32 :=
  if k = 2 then clmp (Int32.toInt64 a + Int32.toInt64 b) else if k = 3 then clmp (Int32.toInt64 a - Int32.toInt64 b) else if k = 4 then clmp (Int32.toInt64 a * Int32.toInt64 b) else
  if k = 5 then (if lg_cmp (Int32.toInt64 b) 0 = 0 then 0 else clmp (Int32.toInt64 a / Int32.toInt64 b)) else
  if k = 6 then (if lg_cmp (Int32.toInt64 a) (Int32.toInt64 b) = 0 then 1 else 0) else
  if k = 7 then (if 0 ≤ lg_cmp (Int32.toInt64 a) (Int32.toInt64 b) then 0 else 1) else
  (if lg_cmp (Int32.toInt64 a) (Int32.toInt64 b) ≤ 0 then 0 else 1)
/-- the class's -/
def opC (k : Nat) (a b : Int32) : Int32 := if k < 9 then opA k a b else if k = 10 then clmp (Int32.toInt64 a &&& Int32.toInt64 b) else clmp (Int32.toInt64 a ||| Int32.toInt64 b)
/-- the model's -/
def opM (k : Nat) (a b : Int32) : Int32 := if k < 9 then opA k a b else if k = 10 then (if lg_cmp (Int32.toInt64 a) 0 = 0 then 0 else if lg_cmp (Int32.toInt64 b) 0 = 0 then 0 else 1) else (if lg_cmp (Int32.toInt64 a) 0 = 0 then (if lg_cmp (Int32.toInt64 b) 0 = 0 then 0 else 1) else 1)
/-- code run on a stack (80 places); none if it would go beside it -/
def runX (op : Nat → Int32 → Int32 → Int32) (f : Nat → Int32) : cdL → (Nat → Int32) → Nat → Option ((Nat → Int32) × Nat)
  | [], S, t => some (S, t)
  | (k, v) :: cs, S, t =>
    if k = 0 then (if t < 80 then runX op f cs (upd S t (nI v)) (t + 1) else none)
    else if k = 1 then (if t < 80 ∧ v < 6 then runX op f cs (upd S t (f v)) (t + 1) else none)
    else if k = 9 then (if 1 ≤ t ∧ t ≤ 80 then runX op f cs (upd S (t - 1) (1 - S (t - 1))) t else none)
    else if k ≤ 11 then (if 2 ≤ t ∧ t ≤ 80 then runX op f cs (upd S (t - 2) (op k (S (t - 2)) (S (t - 1)))) (t - 1) else none)
    else none
/-- code that works out v, with m places of the stack -/
def SO (m : Nat) (cs : cdL) (v : vfn) : Prop :=
  (∀ f g : Nat → Int32, (∀ j, j < 6 → f j = g j) → v f = v g) ∧
  ∀ (f S : Nat → Int32) (t : Nat), t + m ≤ 80 → ∃ S' : Nat → Int32, runX opC f cs S t = some (S', t + 1) ∧ runX opM f cs S t = some (S', t + 1) ∧ S' t = v f ∧ ∀ j, j < t → S' j = S j
/-- a clause: its condition, its sum -/
abbrev clT : Type := Option (cdL × vfn) × (cdL × vfn)
def clC (c : clT) : cdL := match c.1 with
  | none => []
  | some d => d.1
def CLok (CL : List clT) : Prop := ∀ c ∈ CL, SO 40 c.2.1 c.2.2 ∧ ∀ d, c.1 = some d → SO 40 d.1 d.2 ∧ d.1 ≠ []
def wCL : List clT → vfn
  | [], _ => 0
  | c :: r, f => match c.1 with
    | none => c.2.2 f
    | some d => if d.2 f = 0 then wCL r f else c.2.2 f
/-- the class's sign of a kind -/
def sgC (k : Nat) : Int32 := if k = 0 then 48 else if k = 1 then 97 else if k = 2 then 43 else if k = 3 then 45 else if k = 4 then 42 else if k = 5 then 47 else if k = 6 then 61 else if k = 7 then 60 else if k = 8 then 62 else if k = 9 then 33 else if k = 10 then 38 else 124
def sgL (cs : cdL) : List (Int32 × Int32) := cs.map (fun q => (sgC q.1, nI q.2))
/-- the class's signs and numbers of a rule -/
def layC : Nat → List clT → List (Int32 × Int32)
  | _, [] => []
  | o, c :: r => match c.1 with
    | none => sgL c.2.1 ++ (59, 0) :: layC (o + (c.2.1.length + 1)) r
    | some d => sgL d.1 ++ (63, nI (o + (d.1.length + 1 + (c.2.1.length + 1)))) :: (sgL c.2.1 ++ (59, 0) :: layC (o + (d.1.length + 1 + (c.2.1.length + 1))) r)
def atP (l : List (Int32 × Int32)) (j : Nat) : Int32 × Int32 := l.getD j (0, 0)
/-- a rule as the class keeps it -/
def sRK (T : List sm_Sh) (w : vfn) (a b : Nat) (I0 : sm_MI) : Prop :=
  ∃ (pa pb m : Nat) (ra rb : List (Option Nat)) (CL : List clT), 110 ≤ pa ∧ 110 ≤ pb ∧ T[a]? = some (.inr (3, [.ref pa])) ∧ T[pa]? = some (.inl (.int, m, ra)) ∧ T[b]? = some (.inr (3, [.ref pb])) ∧ T[pb]? = some (.inl (.int, m, rb)) ∧
    (layC 0 CL).length = m ∧ m ≤ 160 ∧ (∀ j, j < m → I0 pa j = (atP (layC 0 CL) j).1 ∧ I0 pb j = (atP (layC 0 CL) j).2) ∧ CLok CL ∧ ∀ f, w f = wCL CL f
theorem sRK_up {T : List sm_Sh} {w : vfn} {a b : Nat} {I0 I' : sm_MI} (h : sRK T w a b I0) (e : ∀ k, 110 ≤ k → I' k = I0 k) : sRK T w a b I' := by
  obtain ⟨pa, pb, m, ra, rb, CL, h1, h2, h3, h4, h5, h6, h7, h8, h9, h10, h11⟩ := h
  exact ⟨pa, pb, m, ra, rb, CL, h1, h2, h3, h4, h5, h6, h7, h8, fun j hj => by rw [e pa h1, e pb h2]; exact h9 j hj, h10, h11⟩
/-- the model's code of a rule's clauses from clause c, place o -/
def mLay (I : sm_MI) (i : Nat) : Nat → Nat → List clT → Prop
  | _, o, [] => o ≤ 340
  | c, o, q :: r => I 82 (90 * i + c) = nI o ∧ I 83 (90 * i + c) = nI (o + (clC q).length) ∧ I 84 (90 * i + c) = nI (o + (clC q).length + q.2.1.length) ∧
    (∀ j, j < (clC q).length → I 78 (340 * i + (o + j)) = nI ((clC q).getD j (0, 0)).1 ∧ I 79 (340 * i + (o + j)) = nI ((clC q).getD j (0, 0)).2) ∧
    (∀ j, j < q.2.1.length → I 78 (340 * i + (o + (clC q).length + j)) = nI (q.2.1.getD j (0, 0)).1 ∧ I 79 (340 * i + (o + (clC q).length + j)) = nI (q.2.1.getD j (0, 0)).2) ∧
    mLay I i (c + 1) (o + (clC q).length + q.2.1.length) r
theorem mLay_up {I I' : sm_MI} {i : Nat} (e1 : ∀ j, j < 340 → I' 78 (340 * i + j) = I 78 (340 * i + j) ∧ I' 79 (340 * i + j) = I 79 (340 * i + j)) (e2 : ∀ j, j < 90 → I' 82 (90 * i + j) = I 82 (90 * i + j) ∧ I' 83 (90 * i + j) = I 83 (90 * i + j) ∧ I' 84 (90 * i + j) = I 84 (90 * i + j)) :
    ∀ (CL : List clT) (c o : Nat), c + CL.length ≤ 90 → mLay I i c o CL → mLay I' i c o CL ∧ o ≤ 340
  | [], c, o, _, h => ⟨h, h⟩
  | q :: r, c, o, hc, h => by
    obtain ⟨h1, h2, h3, h4, h5, h6⟩ := h
    have hc' : c + 1 + r.length ≤ 90 := by rw [List.length_cons] at hc; omega
    obtain ⟨g1, g2⟩ := mLay_up e1 e2 r (c + 1) _ hc' h6
    obtain ⟨f1, f2, f3⟩ := e2 c (by omega)
    refine ⟨⟨f1.trans h1, f2.trans h2, f3.trans h3, fun j hj => ?_, fun j hj => ?_, g1⟩, by omega⟩
    · obtain ⟨d1, d2⟩ := e1 (o + j) (by omega)
      exact ⟨d1.trans (h4 j hj).1, d2.trans (h4 j hj).2⟩
    · obtain ⟨d1, d2⟩ := e1 (o + (clC q).length + j) (by omega)
      exact ⟨d1.trans (h5 j hj).1, d2.trans (h5 j hj).2⟩
/-- a rule as the model keeps it -/
def mRK (w : vfn) (i : Nat) (I0 : sm_MI) : Prop := ∃ CL : List clT, CL.length ≤ 90 ∧ I0 81 i = nI CL.length ∧ mLay I0 i 0 0 CL ∧ CLok CL ∧ ∀ f, w f = wCL CL f
theorem mRK_up {w : vfn} {i : Nat} {I0 I' : sm_MI} (h : mRK w i I0) (e0 : I' 81 i = I0 81 i) (e1 : ∀ j, j < 340 → I' 78 (340 * i + j) = I0 78 (340 * i + j) ∧ I' 79 (340 * i + j) = I0 79 (340 * i + j)) (e2 : ∀ j, j < 90 → I' 82 (90 * i + j) = I0 82 (90 * i + j) ∧ I' 83 (90 * i + j) = I0 83 (90 * i + j) ∧ I' 84 (90 * i + j) = I0 84 (90 * i + j)) : mRK w i I' := by
  obtain ⟨CL, h1, h2, h3, h4, h5⟩ := h
  exact ⟨CL, h1, e0.trans h2, (mLay_up e1 e2 CL 0 0 (by omega) h3).1, h4, h5⟩
