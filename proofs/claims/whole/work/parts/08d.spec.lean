/-! ===== the texts of rules: what is read, as plain functions ===== -/
def skF (h : Nat → Int32) : Nat → Nat → Nat
  | 0, p => p
  | d + 1, p => if h p = 32 then skF h d (p + 1) else p
/-- behind blanks -/
def sk (h : Nat → Int32) (len p : Nat) : Nat := skF h (len - p) p
def isD (c : Int32) : Bool := if c < 48 then false else if 57 < c then false else true
def isR (c : Int32) : Bool := if c = 61 then true else if c = 60 then true else if c = 62 then true else false
def ltO (c : Int32) : Option Nat := if c = 110 then some 0 else if c = 104 then some 1 else if c = 115 then some 2 else if c = 113 then some 3 else if c = 109 then some 4 else if c = 119 then some 5 else none
abbrev PRt : Type := Nat ⊕ (Nat × cdL × vfn)
def nmF (h : Nat → Int32) : Nat → Nat → Nat → Nat × Nat
  | 0, p, v => (p, v)
  | d + 1, p, v => if isD (h p) = true then nmF h d (p + 1) (10 * v + (h p).toNatClampNeg - 48) else (p, v)
def numP (h : Nat → Int32) (p : Nat) : PRt := if isD (h (nmF h 4 p 0).1) = true then .inl (nmF h 4 p 0).1 else .inr ((nmF h 4 p 0).1, [(0, (nmF h 4 p 0).2)], fun _ => nI (nmF h 4 p 0).2)
/-- what stands within brackets, and its end -/
def clsP (h : Nat → Int32) (len : Nat) (e : Int32) : PRt → PRt
  | .inl f => .inl f
  | .inr q => if h (sk h len q.1) = e then .inr (sk h len q.1 + 1, q.2) else .inl (sk h len q.1)
def atomP (h : Nat → Int32) (len : Nat) (inner : Option (Nat → PRt)) (p : Nat) : PRt :=
  if h (sk h len p) = 91 then (match inner with
    | none => .inl (sk h len p)
    | some f => clsP h len 93 (f (sk h len p + 1)))
  else if isD (h (sk h len p)) = true then numP h (sk h len p)
  else (match ltO (h (sk h len p)) with
    | none => .inl (sk h len p)
    | some l => .inr (sk h len p + 1, [(1, l)], fun f => f l))
def joinP (k : Nat) (cs : cdL) (v : vfn) (cs' : cdL) (v' : vfn) : cdL × vfn := (cs ++ cs' ++ [(k, 0)], fun f => opM k (v f) (v' f))
/-- more of the like behind signs between -/
def loopP (h : Nat → Int32) (len : Nat) (el : Nat → PRt) (kd : Int32 → Option Nat) : Nat → Nat → cdL → vfn → PRt
  | 0, p, cs, v => .inr (p, cs, v)
  | d + 1, p, cs, v => (match kd (h (sk h len p)) with
    | none => .inr (sk h len p, cs, v)
    | some k => (match el (sk h len p + 1) with
      | .inl e => .inl e
      | .inr q => loopP h len el kd d q.1 (joinP k cs v q.2.1 q.2.2).1 (joinP k cs v q.2.1 q.2.2).2))
def goP (h : Nat → Int32) (len : Nat) (el : Nat → PRt) (kd : Int32 → Option Nat) : PRt → PRt
  | .inl e => .inl e
  | .inr q => loopP h len el kd (len - q.1) q.1 q.2.1 q.2.2
def kTm (c : Int32) : Option Nat := if c = 42 then some 4 else if c = 47 then some 5 else none
def kSg (c : Int32) : Option Nat := if c = 43 then some 2 else if c = 45 then some 3 else none
def kRl (c : Int32) : Option Nat := if c = 61 then some 6 else if c = 60 then some 7 else if c = 62 then some 8 else none
def kAn (c : Int32) : Option Nat := if c = 38 then some 10 else none
def kOr (c : Int32) : Option Nat := if c = 124 then some 11 else none
def termP (h : Nat → Int32) (len : Nat) (inner : Option (Nat → PRt)) (p : Nat) : PRt := goP h len (atomP h len inner) kTm (atomP h len inner p)
def sumP (h : Nat → Int32) (len : Nat) (inner : Option (Nat → PRt)) (p : Nat) : PRt := goP h len (termP h len inner) kSg (termP h len inner p)
/-- a sum with k brackets left -/
def inK (h : Nat → Int32) (len : Nat) : Nat → Option (Nat → PRt)
  | 0 => none
  | k + 1 => some (sumP h len (inK h len k))
def sumK (h : Nat → Int32) (len k : Nat) : Nat → PRt := sumP h len (inK h len k)
/-- a comparison, its left sum read -/
def cmpP (h : Nat → Int32) (len : Nat) (sm : Nat → PRt) : PRt → PRt
  | .inl e => .inl e
  | .inr q => (match kRl (h (sk h len q.1)) with
    | none => .inl (sk h len q.1)
    | some k => (match sm (sk h len q.1 + 1) with
      | .inl e => .inl e
      | .inr z => .inr (z.1, joinP k q.2.1 q.2.2 z.2.1 z.2.2)))
def notP : PRt → PRt
  | .inl e => .inl e
  | .inr q => .inr (q.1, q.2.1 ++ [(9, 0)], fun f => 1 - q.2.2 f)
def truthP (h : Nat → Int32) (len : Nat) (un : Nat → PRt) (p : Nat) : PRt := goP h len un kAn (un p)
/-- a condition, its first unit read -/
def cndF (h : Nat → Int32) (len : Nat) (un : Nat → PRt) (z : PRt) : PRt := goP h len (truthP h len un) kOr (goP h len un kAn z)
def condP (h : Nat → Int32) (len : Nat) (un : Nat → PRt) (p : Nat) : PRt := cndF h len un (un p)
def unitP (h : Nat → Int32) (len : Nat) (sm : Nat → PRt) (un : Option (Nat → PRt)) (p : Nat) : PRt :=
  if h (sk h len p) = 33 then (match un with
    | none => .inl (sk h len p)
    | some f => notP (f (sk h len p + 1)))
  else if h (sk h len p) = 40 then (match un with
    | none => .inl (sk h len p)
    | some f => clsP h len 41 (condP h len f (sk h len p + 1)))
  else cmpP h len sm (sm (sk h len p))
def unO (h : Nat → Int32) (len : Nat) : Nat → Option (Nat → PRt)
  | 0 => none
  | k + 1 => some (unitP h len (sumK h len k) (unO h len k))
def unK (h : Nat → Int32) (len k : Nat) : Nat → PRt := unitP h len (sumK h len k) (unO h len k)
/-- a condition, then its sum -/
def cl2P (h : Nat → Int32) (len : Nat) : PRt → Nat ⊕ (Nat × clT)
  | .inl e => .inl e
  | .inr q => if h (sk h len q.1) = 63 then (match sumK h len 6 (sk h len q.1 + 1) with
      | .inl e => .inl e
      | .inr z => .inr (z.1, (some q.2, z.2)))
    else .inl (sk h len q.1)
def cl1P (h : Nat → Int32) (len p : Nat) : Nat ⊕ (Nat × clT) :=
  if h (sk h len p) = 33 ∨ h (sk h len p) = 40 then cl2P h len (condP h len (unK h len 6) (sk h len p))
  else (match sumK h len 6 (sk h len p) with
    | .inl e => .inl e
    | .inr q => if isR (h (sk h len q.1)) = true then cl2P h len (cndF h len (unK h len 6) (cmpP h len (sumK h len 6) (.inr q))) else .inr (sk h len q.1, (none, q.2)))
def clauseP (h : Nat → Int32) (len p : Nat) : Nat ⊕ (Nat × clT) :=
  if h (sk h len p) = 121 then (if h (sk h len (sk h len p + 1)) = 58 then cl1P h len (sk h len (sk h len p + 1) + 1) else .inl (sk h len (sk h len p + 1))) else .inl (sk h len p)
/-- a rule from place p, the clauses acc read: its fault, or all its clauses -/
def lawP (h : Nat → Int32) (len : Nat) : Nat → Nat → List clT → Nat ⊕ List clT
  | 0, p, _ => .inl p
  | d + 1, p, acc => (match clauseP h len p with
    | .inl e => .inl e
    | .inr q => if h (sk h len q.1) = 59 then lawP h len d (sk h len q.1 + 1) (acc ++ [q.2]) else if h (sk h len q.1) = -1 then .inr (acc ++ [q.2]) else .inl (sk h len q.1))
/-! facts -/
/-- the tape: bytes up to len, none behind -/
def tpH (h : Nat → Int32) (len : Nat) : Prop := len ≤ 160 ∧ (∀ p, len ≤ p → h p = -1) ∧ ∀ p, p < len → ∃ c, 0 < c ∧ c < 256 ∧ h p = nI c
section
variable {h : Nat → Int32} {len : Nat}
theorem tpH.lt (H : tpH h len) {p : Nat} (q : h p ≠ -1) : p < len := by
  rcases Nat.lt_or_ge p len with g | g
  · exact g
  · exact absurd (H.2.1 p g) q
theorem tpH.in (H : tpH h len) {p : Nat} (q : p < len) : h p ≠ -1 := by
  obtain ⟨c, _, hc, e⟩ := H.2.2 p q
  rw [e]; exact nI_m1 (by omega)
theorem skF_ge : ∀ d p, p ≤ skF h d p
  | 0, p => Nat.le_refl _
  | d + 1, p => by
    unfold skF
    split
    · have := skF_ge d (p + 1); omega
    · exact Nat.le_refl _
theorem skF_le : ∀ d p, skF h d p ≤ p + d
  | 0, p => Nat.le_refl _
  | d + 1, p => by
    unfold skF
    split
    · have := skF_le d (p + 1); omega
    · omega
theorem sk_ge (p : Nat) : p ≤ sk h len p := skF_ge _ _
theorem sk_le {p : Nat} (hp : p ≤ len) : sk h len p ≤ len := by
  have := skF_le (h := h) (len - p) p
  unfold sk; omega
theorem sk_step {p : Nat} (H : tpH h len) (q : h p = 32) : sk h len p = sk h len (p + 1) := by
  have hp : p < len := H.lt (by rw [q]; decide)
  unfold sk
  rw [show len - p = (len - (p + 1)) + 1 by omega, skF, if_pos q]
theorem sk_stop {p : Nat} (q : h p ≠ 32) : sk h len p = p := by
  unfold sk
  cases len - p with
  | zero => rfl
  | succ d => rw [skF, if_neg q]
theorem sk_not (H : tpH h len) : ∀ d p, d + p = len → h (sk h len p) ≠ 32
  | 0, p, e => by
    have : h p = -1 := H.2.1 p (by omega)
    rw [sk_stop (by rw [this]; decide), this]; decide
  | d + 1, p, e => by
    by_cases q : h p = 32
    · rw [sk_step H q]; exact sk_not H d (p + 1) (by omega)
    · rw [sk_stop q]; exact q
theorem sk_ne (H : tpH h len) (p : Nat) : h (sk h len p) ≠ 32 := by
  rcases Nat.lt_or_ge len p with g | g
  · have : h p = -1 := H.2.1 p (by omega)
    rw [sk_stop (by rw [this]; decide), this]; decide
  · exact sk_not H (len - p) p (by omega)
theorem sk_sk (H : tpH h len) (p : Nat) : sk h len (sk h len p) = sk h len p := sk_stop (sk_ne H p)
theorem isD_iff {c : Int32} : isD c = true ↔ ¬ c < 48 ∧ ¬ 57 < c := by
  unfold isD
  split
  · rename_i g; simp [g]
  · split
    · rename_i g1 g2; simp [g1, g2]
    · rename_i g1 g2; simp [g1, g2]
/-- a stretch of code that follows another -/
theorem runX_app (op : Nat → Int32 → Int32 → Int32) (f : Nat → Int32) (b : cdL) : ∀ (a : cdL) (S : Nat → Int32) (t : Nat), runX op f (a ++ b) S t = (runX op f a S t).bind (fun q => runX op f b q.1 q.2)
  | [], S, t => rfl
  | (k, v) :: a, S, t => by
    rw [List.cons_append, runX, runX]
    split
    · split
      · exact runX_app op f b a _ _
      · rfl
    · split
      · split
        · exact runX_app op f b a _ _
        · rfl
      · split
        · split
          · exact runX_app op f b a _ _
          · rfl
        · split
          · split
            · exact runX_app op f b a _ _
            · rfl
          · rfl
theorem SO_mono {m m' : Nat} {cs : cdL} {v : vfn} (H : SO m cs v) (e : m ≤ m') : SO m' cs v := ⟨H.1, fun f S t ht => H.2 f S t (by omega)⟩
theorem SO_num (v : Nat) : SO 1 [(0, v)] (fun _ => nI v) := by
  refine ⟨fun _ _ _ => rfl, fun f S t ht => ⟨upd S t (nI v), ?_, ?_, pk_us, fun j hj => pk_un (by omega)⟩⟩
  · rw [runX, if_pos rfl, if_pos (by omega)]; rfl
  · rw [runX, if_pos rfl, if_pos (by omega)]; rfl
theorem SO_let {l : Nat} (hl : l < 6) : SO 1 [(1, l)] (fun f => f l) := by
  refine ⟨fun f g e => e l hl, fun f S t ht => ⟨upd S t (f l), ?_, ?_, pk_us, fun j hj => pk_un (by omega)⟩⟩
  · rw [runX, if_neg (by decide), if_pos rfl, if_pos ⟨by omega, hl⟩]; rfl
  · rw [runX, if_neg (by decide), if_pos rfl, if_pos ⟨by omega, hl⟩]; rfl
/-- two worked into one; z: both are truths -/
theorem SO_op {m m' m2 k : Nat} {cs cs' : cdL} {v v' : vfn} {z : Bool} (H : SO m cs v) (H' : SO m' cs' v') (e1 : m ≤ m2) (e2 : m' + 1 ≤ m2) (e3 : 1 ≤ m') (hk : (2 ≤ k ∧ k ≤ 8) ∨ ((k = 10 ∨ k = 11) ∧ (∀ f, v f = 0 ∨ v f = 1) ∧ ∀ f, v' f = 0 ∨ v' f = 1)) : SO m2 (joinP k cs v cs' v').1 (joinP k cs v cs' v').2 := by
  refine ⟨fun f g e => ?_, fun f S t ht => ?_⟩
  · show opM k (v f) (v' f) = opM k (v g) (v' g)
    rw [H.1 f g e, H'.1 f g e]
  · obtain ⟨S1, a1, a2, a3, a4⟩ := H.2 f S t (by omega)
    obtain ⟨S2, b1, b2, b3, b4⟩ := H'.2 f S1 (t + 1) (by omega)
    have hop : opC k (v f) (v' f) = opM k (v f) (v' f) := by
      rcases hk with hk | ⟨hk, hv, hv'⟩
      · unfold opC opM
        rw [if_pos (by omega), if_pos (by omega)]
      · rcases hk with rfl | rfl <;> rcases hv f with q | q <;> rcases hv' f with q' | q' <;> rw [q, q'] <;> decide +kernel
    have h2t : S2 t = v f := by rw [b4 t (by omega), a3]
    have k0 : ¬ k = 0 := by omega
    have k1 : ¬ k = 1 := by omega
    have k9 : ¬ k = 9 := by omega
    have k11 : k ≤ 11 := by omega
    refine ⟨upd S2 t (opM k (v f) (v' f)), ?_, ?_, pk_us, fun j hj => by rw [pk_un (by omega), b4 j (by omega), a4 j hj]⟩
    · show runX opC f (cs ++ cs' ++ [(k, 0)]) S t = _
      rw [runX_app, runX_app, a1]
      show ((runX opC f cs' S1 (t + 1)).bind fun q => runX opC f [(k, 0)] q.1 q.2) = _
      rw [b1]
      show runX opC f [(k, 0)] S2 (t + 1 + 1) = _
      rw [runX, if_neg k0, if_neg k1, if_neg k9, if_pos k11, if_pos (by omega), show t + 1 + 1 - 2 = t by omega, show t + 1 + 1 - 1 = t + 1 by omega, h2t, b3, hop]
      rfl
    · show runX opM f (cs ++ cs' ++ [(k, 0)]) S t = _
      rw [runX_app, runX_app, a2]
      show ((runX opM f cs' S1 (t + 1)).bind fun q => runX opM f [(k, 0)] q.1 q.2) = _
      rw [b2]
      show runX opM f [(k, 0)] S2 (t + 1 + 1) = _
      rw [runX, if_neg k0, if_neg k1, if_neg k9, if_pos k11, if_pos (by omega), show t + 1 + 1 - 2 = t by omega, show t + 1 + 1 - 1 = t + 1 by omega, h2t, b3]
      rfl
theorem SO_not {m : Nat} {cs : cdL} {v : vfn} (H : SO m cs v) (hm : 1 ≤ m) : SO m (cs ++ [(9, 0)]) (fun f => 1 - v f) := by
  refine ⟨fun f g e => by show 1 - v f = 1 - v g; rw [H.1 f g e], fun f S t ht => ?_⟩
  obtain ⟨S1, a1, a2, a3, a4⟩ := H.2 f S t ht
  refine ⟨upd S1 t (1 - v f), ?_, ?_, pk_us, fun j hj => by rw [pk_un (by omega), a4 j hj]⟩
  · rw [runX_app, a1]
    show runX opC f [(9, 0)] S1 (t + 1) = _
    rw [runX, if_neg (by decide), if_neg (by decide), if_pos rfl, if_pos (by omega), Nat.add_sub_cancel, a3]
    rfl
  · rw [runX_app, a2]
    show runX opM f [(9, 0)] S1 (t + 1) = _
    rw [runX, if_neg (by decide), if_neg (by decide), if_pos rfl, if_pos (by omega), Nat.add_sub_cancel, a3]
    rfl
/-- what was read is sound -/
def PK (len p m : Nat) (z : Bool) : PRt → Prop
  | .inl e => e ≤ len
  | .inr q => p < q.1 ∧ q.1 ≤ len ∧ p + q.2.1.length ≤ q.1 ∧ q.2.1 ≠ [] ∧ SO m q.2.1 q.2.2 ∧ (z = true → ∀ f, q.2.2 f = 0 ∨ q.2.2 f = 1)
theorem PK_up {p p' m m' : Nat} {z : Bool} {P : PRt} (H : PK len p m z P) (e : p' ≤ p) (e2 : m ≤ m') : PK len p' m' z P := by
  cases P with
  | inl f => exact H
  | inr q =>
    obtain ⟨h1, h2, h3, h4, h5, h6⟩ := H
    exact ⟨by omega, h2, by omega, h4, SO_mono h5 e2, h6⟩
def kdOK (z : Bool) (kd : Int32 → Option Nat) : Prop := ∀ c k, kd c = some k → c ≠ -1 ∧ ((2 ≤ k ∧ k ≤ 8 ∧ z = false) ∨ ((k = 10 ∨ k = 11) ∧ z = true))
theorem opM_z {k : Nat} {a b : Int32} (hk : k = 10 ∨ k = 11) : opM k a b = 0 ∨ opM k a b = 1 := by
  rcases hk with rfl | rfl
  · rw [opM_10]; split
    · exact Or.inl rfl
    · split
      · exact Or.inl rfl
      · exact Or.inr rfl
  · rw [opM_11]; split
    · split
      · exact Or.inl rfl
      · exact Or.inr rfl
    · exact Or.inr rfl
theorem PK_loop {m m' : Nat} {z : Bool} {el : Nat → PRt} {kd : Int32 → Option Nat} {p0 : Nat} (H : tpH h len) (hel : ∀ p, p ≤ len → PK len p m' z (el p)) (hkd : kdOK z kd) (e : m' + 1 ≤ m) (e1 : 1 ≤ m') :
    ∀ d p cs v, PK len p0 m z (.inr (p, cs, v)) → PK len p0 m z (loopP h len el kd d p cs v)
  | 0, p, cs, v, g => g
  | d + 1, p, cs, v, g => by
    obtain ⟨g1, g2, g3, g4, g5, g6⟩ := g
    have s1 := sk_ge (h := h) (len := len) p
    have s2 := sk_le (h := h) (len := len) g2
    rw [loopP]
    cases hk : kd (h (sk h len p)) with
    | none => exact ⟨by show p0 < sk h len p; have : p0 < p := g1; omega, s2, by show p0 + cs.length ≤ sk h len p; have : p0 + cs.length ≤ p := g3; omega, g4, g5, g6⟩
    | some k =>
      obtain ⟨c1, c2⟩ := hkd _ _ hk
      have hlt := H.lt c1
      have hE := hel (sk h len p + 1) (by omega)
      show PK len p0 m z (match el (sk h len p + 1) with
        | .inl e => .inl e
        | .inr q => loopP h len el kd d q.1 (joinP k cs v q.2.1 q.2.2).1 (joinP k cs v q.2.1 q.2.2).2)
      cases hq : el (sk h len p + 1) with
      | inl f => rw [hq] at hE; exact hE
      | inr q =>
        rw [hq] at hE
        obtain ⟨f1, f2, f3, f4, f5, f6⟩ := hE
        refine PK_loop H hel hkd e e1 d _ _ _ ⟨?_, f2, ?_, ?_, ?_, ?_⟩
        · show p0 < q.1
          have : p0 < p := g1
          omega
        · show p0 + (cs ++ q.2.1 ++ [(k, 0)]).length ≤ q.1
          rw [List.length_append, List.length_append, List.length_singleton]
          have : p0 + cs.length ≤ p := g3
          omega
        · show cs ++ q.2.1 ++ [(k, 0)] ≠ []
          simp
        · refine SO_op (z := z) g5 f5 (Nat.le_refl _) e e1 ?_
          rcases c2 with c2 | ⟨c2, c3⟩
          · exact Or.inl ⟨c2.1, c2.2.1⟩
          · exact Or.inr ⟨c2, g6 c3, f6 c3⟩
        · intro hz f
          rcases c2 with c2 | ⟨c2, c3⟩
          · rw [c2.2.2] at hz; exact absurd hz (by decide)
          · exact opM_z c2
theorem PK_go {p m m' : Nat} {z : Bool} {el : Nat → PRt} {kd : Int32 → Option Nat} {P : PRt} (H : tpH h len) (hel : ∀ p, p ≤ len → PK len p m' z (el p)) (hkd : kdOK z kd) (e : m' + 1 ≤ m) (e1 : 1 ≤ m') (hP : PK len p m z P) : PK len p m z (goP h len el kd P) := by
  cases P with
  | inl f => exact hP
  | inr q => exact PK_loop H hel hkd e e1 _ _ _ _ hP
theorem kTm_ok : kdOK false kTm := by
  intro c k e
  unfold kTm at e
  split at e
  · rename_i g; cases e; exact ⟨by rw [g]; decide, Or.inl ⟨by decide, by decide, rfl⟩⟩
  · split at e
    · rename_i g; cases e; exact ⟨by rw [g]; decide, Or.inl ⟨by decide, by decide, rfl⟩⟩
    · cases e
theorem kSg_ok : kdOK false kSg := by
  intro c k e
  unfold kSg at e
  split at e
  · rename_i g; cases e; exact ⟨by rw [g]; decide, Or.inl ⟨by decide, by decide, rfl⟩⟩
  · split at e
    · rename_i g; cases e; exact ⟨by rw [g]; decide, Or.inl ⟨by decide, by decide, rfl⟩⟩
    · cases e
theorem kRl_ok : kdOK false kRl := by
  intro c k e
  unfold kRl at e
  split at e
  · rename_i g; cases e; exact ⟨by rw [g]; decide, Or.inl ⟨by decide, by decide, rfl⟩⟩
  · split at e
    · rename_i g; cases e; exact ⟨by rw [g]; decide, Or.inl ⟨by decide, by decide, rfl⟩⟩
    · split at e
      · rename_i g; cases e; exact ⟨by rw [g]; decide, Or.inl ⟨by decide, by decide, rfl⟩⟩
      · cases e
theorem kAn_ok : kdOK true kAn := by
  intro c k e
  unfold kAn at e
  split at e
  · rename_i g; cases e; exact ⟨by rw [g]; decide, Or.inr ⟨Or.inl rfl, rfl⟩⟩
  · cases e
theorem kOr_ok : kdOK true kOr := by
  intro c k e
  unfold kOr at e
  split at e
  · rename_i g; cases e; exact ⟨by rw [g]; decide, Or.inr ⟨Or.inr rfl, rfl⟩⟩
  · cases e
theorem nmF_ge (H : tpH h len) : ∀ d p v, p ≤ len → p ≤ (nmF h d p v).1 ∧ (nmF h d p v).1 ≤ len
  | 0, p, v, hp => ⟨Nat.le_refl _, hp⟩
  | d + 1, p, v, hp => by
    unfold nmF
    split
    · rename_i g
      have hlt : p < len := H.lt (fun e => by rw [e] at g; exact absurd g (by decide))
      have := nmF_ge H d (p + 1) (10 * v + (h p).toNatClampNeg - 48) (by omega)
      omega
    · exact ⟨Nat.le_refl _, hp⟩
theorem nmF_lt (H : tpH h len) {p : Nat} (g : isD (h p) = true) : p < (nmF h 4 p 0).1 ∧ (nmF h 4 p 0).1 ≤ len := by
  have hlt : p < len := H.lt (fun e => by rw [e] at g; exact absurd g (by decide))
  have e : nmF h 4 p 0 = nmF h 3 (p + 1) (10 * 0 + (h p).toNatClampNeg - 48) := by rw [nmF, if_pos g]
  rw [e]
  have := nmF_ge H 3 (p + 1) (10 * 0 + (h p).toNatClampNeg - 48) (by omega)
  omega
theorem PK_num {p : Nat} (H : tpH h len) (g : isD (h p) = true) : PK len p 1 false (numP h p) := by
  obtain ⟨h1, h2⟩ := nmF_lt H g
  unfold numP
  split
  · exact h2
  · exact ⟨h1, h2, by show p + 1 ≤ _; omega, by simp, SO_num _, fun q => absurd q (by decide)⟩
theorem PK_cls {p m : Nat} {z : Bool} {e : Int32} {P : PRt} (H : tpH h len) (he : e ≠ -1) (hP : PK len p m z P) : PK len p m z (clsP h len e P) := by
  cases P with
  | inl f => exact hP
  | inr q =>
    obtain ⟨h1, h2, h3, h4, h5, h6⟩ := hP
    have s1 := sk_ge (h := h) (len := len) q.1
    have s2 := sk_le (h := h) (len := len) h2
    by_cases g : h (sk h len q.1) = e
    · rw [clsP, if_pos g]
      have := H.lt (p := sk h len q.1) (by rw [g]; exact he)
      exact ⟨by show p < sk h len q.1 + 1; omega, by show sk h len q.1 + 1 ≤ len; omega, by show p + q.2.1.length ≤ sk h len q.1 + 1; omega, h4, h5, h6⟩
    · rw [clsP, if_neg g]
      exact s2
theorem ltO_lt {c : Int32} {l : Nat} (g : ltO c = some l) : l < 6 ∧ c ≠ -1 := by
  unfold ltO at g
  split at g
  · rename_i e; cases g; exact ⟨by decide, by rw [e]; decide⟩
  · split at g
    · rename_i e; cases g; exact ⟨by decide, by rw [e]; decide⟩
    · split at g
      · rename_i e; cases g; exact ⟨by decide, by rw [e]; decide⟩
      · split at g
        · rename_i e; cases g; exact ⟨by decide, by rw [e]; decide⟩
        · split at g
          · rename_i e; cases g; exact ⟨by decide, by rw [e]; decide⟩
          · split at g
            · rename_i e; cases g; exact ⟨by decide, by rw [e]; decide⟩
            · cases g
/-- atoms, terms, sums with k brackets left -/
theorem PK_atom {k : Nat} (H : tpH h len) (hin : ∀ f, inK h len k = some f → ∀ p, p ≤ len → PK len p (1 + 2 * k) false (f p)) {p : Nat} (hp : p ≤ len) : PK len p (1 + 2 * k) false (atomP h len (inK h len k) p) := by
  have s1 := sk_ge (h := h) (len := len) p
  have s2 := sk_le (h := h) (len := len) hp
  unfold atomP
  split
  · rename_i g
    have hlt := H.lt (p := sk h len p) (by rw [g]; decide)
    cases hk : inK h len k with
    | none => exact s2
    | some f =>
      exact PK_cls H (by decide) (PK_up (hin f hk (sk h len p + 1) (by omega)) (by omega) (Nat.le_refl _))
  · split
    · rename_i g
      exact PK_up (PK_num H g) s1 (by omega)
    · cases hl : ltO (h (sk h len p)) with
      | none => exact s2
      | some l =>
        obtain ⟨l1, l2⟩ := ltO_lt hl
        have hlt := H.lt l2
        exact ⟨by show p < sk h len p + 1; omega, by show sk h len p + 1 ≤ len; omega, by show p + 1 ≤ sk h len p + 1; omega, by simp, SO_mono (SO_let l1) (by omega), fun q => absurd q (by decide)⟩
theorem PK_sum (H : tpH h len) : ∀ (k : Nat), (∀ f, inK h len k = some f → ∀ p, p ≤ len → PK len p (1 + 2 * k) false (f p)) ∧ (∀ p, p ≤ len → PK len p (2 + 2 * k) false (termP h len (inK h len k) p)) ∧ ∀ p, p ≤ len → PK len p (3 + 2 * k) false (sumK h len k p) := by
  have mk : ∀ k, (∀ f, inK h len k = some f → ∀ p, p ≤ len → PK len p (1 + 2 * k) false (f p)) → (∀ p, p ≤ len → PK len p (2 + 2 * k) false (termP h len (inK h len k) p)) ∧ ∀ p, p ≤ len → PK len p (3 + 2 * k) false (sumK h len k p) := by
    intro k hin
    have ht : ∀ p, p ≤ len → PK len p (2 + 2 * k) false (termP h len (inK h len k) p) := fun p hp => PK_go H (fun p hp => PK_atom H hin hp) kTm_ok (by omega) (by omega) (PK_up (PK_atom H hin hp) (Nat.le_refl _) (by omega))
    exact ⟨ht, fun p hp => PK_go H ht kSg_ok (by omega) (by omega) (PK_up (ht p hp) (Nat.le_refl _) (by omega))⟩
  intro k
  induction k with
  | zero =>
    have h0 : ∀ f, inK h len 0 = some f → ∀ p, p ≤ len → PK len p (1 + 2 * 0) false (f p) := fun f e => by cases e
    exact ⟨h0, mk 0 h0⟩
  | succ k ih =>
    have h1 : ∀ f, inK h len (k + 1) = some f → ∀ p, p ≤ len → PK len p (1 + 2 * (k + 1)) false (f p) := by
      intro f e p hp
      have e2 : sumP h len (inK h len k) = f := Option.some.inj e
      rw [← e2]
      exact PK_up (ih.2.2 p hp) (Nat.le_refl _) (by omega)
    exact ⟨h1, mk (k + 1) h1⟩
theorem opM_r {k : Nat} {a b : Int32} (hk : k = 6 ∨ k = 7 ∨ k = 8) : opM k a b = 0 ∨ opM k a b = 1 := by
  rcases hk with rfl | rfl | rfl
  · rw [opM_6]; split
    · exact Or.inr rfl
    · exact Or.inl rfl
  · rw [opM_7]; split
    · exact Or.inl rfl
    · exact Or.inr rfl
  · rw [opM_8]; split
    · exact Or.inl rfl
    · exact Or.inr rfl
theorem kRl_k {c : Int32} {k : Nat} (e : kRl c = some k) : k = 6 ∨ k = 7 ∨ k = 8 := by
  unfold kRl at e
  split at e
  · cases e; exact Or.inl rfl
  · split at e
    · cases e; exact Or.inr (Or.inl rfl)
    · split at e
      · cases e; exact Or.inr (Or.inr rfl)
      · cases e
theorem PK_cmp {p m : Nat} {sm : Nat → PRt} {P : PRt} (H : tpH h len) (hsm : ∀ p, p ≤ len → PK len p m false (sm p)) (hm : 1 ≤ m) (hP : PK len p m false P) : PK len p (m + 1) true (cmpP h len sm P) := by
  cases P with
  | inl f => exact hP
  | inr q =>
    obtain ⟨h1, h2, h3, h4, h5, h6⟩ := hP
    have s1 := sk_ge (h := h) (len := len) q.1
    have s2 := sk_le (h := h) (len := len) h2
    rw [cmpP]
    cases hk : kRl (h (sk h len q.1)) with
    | none => exact s2
    | some k =>
      obtain ⟨c1, c2⟩ := kRl_ok _ _ hk
      have hlt := H.lt c1
      have hE := hsm (sk h len q.1 + 1) (by omega)
      show PK len p (m + 1) true (match sm (sk h len q.1 + 1) with
        | .inl e => .inl e
        | .inr z => .inr (z.1, joinP k q.2.1 q.2.2 z.2.1 z.2.2))
      cases hq : sm (sk h len q.1 + 1) with
      | inl f => rw [hq] at hE; exact hE
      | inr z =>
        rw [hq] at hE
        obtain ⟨f1, f2, f3, f4, f5, f6⟩ := hE
        have hk3 := kRl_k hk
        refine ⟨by show p < z.1; omega, f2, ?_, ?_, SO_op (z := false) h5 f5 (by omega) (Nat.le_refl _) hm (Or.inl (by omega)), fun _ f => opM_r hk3⟩
        · show p + (q.2.1 ++ z.2.1 ++ [(k, 0)]).length ≤ z.1
          rw [List.length_append, List.length_append, List.length_singleton]
          omega
        · show q.2.1 ++ z.2.1 ++ [(k, 0)] ≠ []
          simp
theorem PK_not {p m : Nat} {P : PRt} (hm : 1 ≤ m) (hP : PK len (p + 1) m true P) : PK len p m true (notP P) := by
  cases P with
  | inl f => exact hP
  | inr q =>
    obtain ⟨h1, h2, h3, h4, h5, h6⟩ := hP
    refine ⟨by show p < q.1; omega, h2, ?_, ?_, SO_not h5 hm, fun _ f => ?_⟩
    · show p + (q.2.1 ++ [(9, 0)]).length ≤ q.1
      rw [List.length_append, List.length_singleton]; omega
    · show q.2.1 ++ [(9, 0)] ≠ []
      simp
    · show 1 - q.2.2 f = 0 ∨ 1 - q.2.2 f = 1
      rcases h6 rfl f with e | e <;> rw [e]
      · exact Or.inr rfl
      · exact Or.inl rfl
theorem PK_cndF {p m : Nat} {un : Nat → PRt} {P : PRt} (H : tpH h len) (hun : ∀ p, p ≤ len → PK len p m true (un p)) (hm : 1 ≤ m) (hP : PK len p m true P) : PK len p (m + 2) true (cndF h len un P) := by
  have ht : ∀ p, p ≤ len → PK len p (m + 1) true (truthP h len un p) := fun p hp => PK_go H hun kAn_ok (Nat.le_refl _) hm (PK_up (hun p hp) (Nat.le_refl _) (by omega))
  exact PK_go H ht kOr_ok (Nat.le_refl _) (by omega) (PK_up (PK_go H hun kAn_ok (Nat.le_refl _) hm (PK_up hP (Nat.le_refl _) (by omega))) (Nat.le_refl _) (by omega))
theorem PK_unit (H : tpH h len) : ∀ (k : Nat), (∀ f, unO h len k = some f → ∀ p, p ≤ len → PK len p (2 + 2 * k) true (f p)) ∧ ∀ p, p ≤ len → PK len p (4 + 2 * k) true (unK h len k p) := by
  have mk : ∀ k, (∀ f, unO h len k = some f → ∀ p, p ≤ len → PK len p (2 + 2 * k) true (f p)) → ∀ p, p ≤ len → PK len p (4 + 2 * k) true (unK h len k p) := by
    intro k hin p hp
    have s1 := sk_ge (h := h) (len := len) p
    have s2 := sk_le (h := h) (len := len) hp
    unfold unK unitP
    split
    · rename_i g
      have hlt := H.lt (p := sk h len p) (by rw [g]; decide)
      cases hk : unO h len k with
      | none => exact s2
      | some f => exact PK_up (PK_not (by omega) (hin f hk (sk h len p + 1) (by omega))) s1 (by omega)
    · split
      · rename_i g
        have hlt := H.lt (p := sk h len p) (by rw [g]; decide)
        cases hk : unO h len k with
        | none => exact s2
        | some f => exact PK_cls H (by decide) (PK_up (PK_cndF H (hin f hk) (by omega) (hin f hk (sk h len p + 1) (by omega))) (by omega) (by omega))
      · exact PK_up (PK_cmp H (fun p hp => (PK_sum H k).2.2 p hp) (by omega) ((PK_sum H k).2.2 (sk h len p) s2)) s1 (by omega)
  intro k
  induction k with
  | zero =>
    have h0 : ∀ f, unO h len 0 = some f → ∀ p, p ≤ len → PK len p (2 + 2 * 0) true (f p) := fun f e => by cases e
    exact ⟨h0, mk 0 h0⟩
  | succ k ih =>
    have h1 : ∀ f, unO h len (k + 1) = some f → ∀ p, p ≤ len → PK len p (2 + 2 * (k + 1)) true (f p) := by
      intro f e p hp
      have e2 : unitP h len (sumK h len k) (unO h len k) = f := Option.some.inj e
      rw [← e2]
      exact PK_up (ih.2 p hp) (Nat.le_refl _) (by omega)
    exact ⟨h1, mk (k + 1) h1⟩
end
