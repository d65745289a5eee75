/-! ===== frames ===== -/
def Fr (P : Nat → Nat → Bool) (I I' : sm_MI) : Prop := ∀ k j, P k j = false → I' k j = I k j
theorem Fr.rf {P : Nat → Nat → Bool} {I : sm_MI} : Fr P I I := fun _ _ _ => rfl
theorem Fr.tr {P : Nat → Nat → Bool} {I I' I'' : sm_MI} (h : Fr P I I') (h' : Fr P I' I'') : Fr P I I'' := fun k j q => (h' k j q).trans (h k j q)
theorem Fr.mono {P Q : Nat → Nat → Bool} {I I' : sm_MI} (h : Fr P I I') (hq : ∀ k j, Q k j = false → P k j = false) : Fr Q I I' := fun k j q => h k j (hq k j q)
theorem Fr.u {P : Nat → Nat → Bool} {I I' : sm_MI} (h : Fr P I I') {k j : Nat} {v : Int32} (hp : P k j = true) : Fr P I (sm_uI I' k j v) := by
  intro a b q
  unfold sm_uI
  by_cases ha : a = k
  · by_cases hb : b = j
    · subst ha hb; rw [hp] at q; exact absurd q (by decide)
    · rw [if_pos ha, if_neg hb]; exact h a b q
  · rw [if_neg ha]; exact h a b q
theorem Fr.f {P : Nat → Nat → Bool} {I I' : sm_MI} (h : Fr P I I') {p m : Nat} {f : Nat → Int32} (hp : ∀ j, P p j = true) : Fr P I (sm_fill I' p m f) := by
  intro a b q
  unfold sm_fill
  by_cases ha : a = p
  · subst ha; rw [hp] at q; exact absurd q (by decide)
  · rw [if_neg ha]; exact h a b q
theorem Fr.at {P : Nat → Nat → Bool} {I I' : sm_MI} (h : Fr P I I') (k : Nat) (hp : ∀ j, P k j = false) : I' k = I k := funext fun j => h k j (hp j)
/-- carry: places, counts, bits -/
def PC (k j : Nat) : Bool := (k == 53 && j == 0) || k == 57 || k == 59
/-- walk -/
def PW (k j : Nat) : Bool := (k == 53 && (j == 0 || j == 13)) || k == 57 || k == 59 || k == 61 || k == 63 || k == 65 || k == 67
/-- a night -/
def PN (k j : Nat) : Bool := (k == 53 && (j == 0 || j == 1 || j == 13)) || k == 57 || k == 59 || k == 61 || k == 63 || k == 65 || k == 67
theorem PC_PW (k j : Nat) (h : PW k j = false) : PC k j = false := by
  simp only [PW, PC, Bool.or_eq_false_iff, Bool.and_eq_false_iff] at h ⊢
  obtain ⟨⟨⟨⟨⟨⟨h1, h2⟩, h3⟩, h4⟩, h5⟩, h6⟩, h7⟩ := h
  refine ⟨⟨?_, h2⟩, h3⟩
  rcases h1 with h1 | h1
  · exact Or.inl h1
  · exact Or.inr h1.1
theorem PW_PN (k j : Nat) (h : PN k j = false) : PW k j = false := by
  simp only [PW, PN, Bool.or_eq_false_iff, Bool.and_eq_false_iff] at h ⊢
  obtain ⟨⟨⟨⟨⟨⟨h1, h2⟩, h3⟩, h4⟩, h5⟩, h6⟩, h7⟩ := h
  refine ⟨⟨⟨⟨⟨⟨?_, h2⟩, h3⟩, h4⟩, h5⟩, h6⟩, h7⟩
  rcases h1 with h1 | h1
  · exact Or.inl h1
  · exact Or.inr ⟨h1.1.1, h1.2⟩
/-! ===== a carry ===== -/
def thg (hi : Bool) (set : Nat) : Nat := if hi = true then (31 - qNL (nI set)).toNatClampNeg else (qNT (nI set)).toNatClampNeg
def crO (lk : Int32) (N : Nat) (hi : Bool) (a b : Int32) (u : Nat → Int32) : Option Nat := if thS u a N = 0 then none else if a = b then none else if qBo lk a = 1 then none else if qBo lk b = 1 then none else some (thg hi (thS u a N))
def crU (u : Nat → Int32) (o : Option Nat) (b : Int32) : Nat → Int32 := match o with
  | none => u
  | some t => upd u t b
def crC (o : Option Nat) (w : Nat) (c : Nat → Int32) : Nat → Int32 := match o with
  | none => c
  | some _ => upd c w (c w + 1)
def crD (o : Option Nat) (w : Nat) (d : Nat → Int32) : Nat → Int32 := match o with
  | none => d
  | some t => upd d t (d t ||| ((1 : Int32) <<< (nI w &&& 31)))
theorem thS_lt {u : Nat → Int32} {h : Int32} {N : Nat} (h8 : N ≤ 8) : thS u h N < 256 := Nat.lt_of_lt_of_le (bitsOf_lt _ N) (Nat.pow_le_pow_right (by decide) h8)
theorem thg_in {u : Nat → Int32} {h : Int32} {N : Nat} (h8 : N ≤ 8) (h0 : thS u h N ≠ 0) (hi : Bool) : thg hi (thS u h N) < N ∧ u (thg hi (thS u h N)) = h := by
  have hb : (thS u h N).testBit (thg hi (thS u h N)) = true := by
    unfold thg
    cases hi
    · exact (qNT_all _ (thS_lt h8) h0).2.2
    · exact (qNL_all _ (thS_lt h8) h0).2.2
  generalize thg hi (thS u h N) = t at hb ⊢
  unfold thS at hb
  rw [bitsOf_bit] at hb
  simpa using hb
theorem thg_lo {u : Nat → Int32} {h : Int32} {N : Nat} (h8 : N ≤ 8) (h0 : thS u h N ≠ 0) : qNT (nI (thS u h N)) = nI (thg false (thS u h N)) := (qNT_all _ (thS_lt h8) h0).2.1
theorem thg_hi {u : Nat → Int32} {h : Int32} {N : Nat} (h8 : N ≤ 8) (h0 : thS u h N ≠ 0) : 31 - qNL (nI (thS u h N)) = nI (thg true (thS u h N)) := (qNL_all _ (thS_lt h8) h0).2.1
theorem crO_none {lk : Int32} {N : Nat} {hi : Bool} {a b : Int32} {u : Nat → Int32} (h : thS u a N = 0 ∨ a = b ∨ qBo lk a = 1 ∨ qBo lk b = 1) : crO lk N hi a b u = none := by
  unfold crO
  by_cases h1 : thS u a N = 0
  · rw [if_pos h1]
  · rw [if_neg h1]
    by_cases h2 : a = b
    · rw [if_pos h2]
    · rw [if_neg h2]
      by_cases h3 : qBo lk a = 1
      · rw [if_pos h3]
      · rw [if_neg h3]
        by_cases h4 : qBo lk b = 1
        · rw [if_pos h4]
        · exact absurd h (by simp [h1, h2, h3, h4])
section
variable {n : Nat} {T : List sm_Sh} {I : sm_MI} {L : sm_ML}
theorem s_carry {F : sm_MI → sm_ML → Prop} {N w b : Nat} {a : Int32} {hi : Bool} (hB : sm_Bs T) (hN : I 24 2 = nI N) (h8 : N ≤ 8) (hw : w < 6) (hb : b < 8)
    (h : ∀ I' : sm_MI, Fr PC I I' → cU N (I' 53 0) = crU (cU N (I 53 0)) (crO (I 53 2) N hi a (nI b) (cU N (I 53 0))) (nI b) → I' 57 = crC (crO (I 53 2) N hi a (nI b) (cU N (I 53 0))) w (I 57) → I' 59 = crD (crO (I 53 2) N hi a (nI b) (cU N (I 53 0))) w (I 59) → F I' L) :
    sm_CV (n + 2) mX0_carry T I L [.ref 53, .int (nI w), .int a, .int (nI b), .int (sm_z hi)] F := by
  apply c_X0_carry hB
  apply s_thingsIn hB hN h8
  have hlt : thS (cU N (I 53 0)) a N < 256 := thS_lt h8
  have hnone : crO (I 53 2) N hi a (nI b) (cU N (I 53 0)) = none → F I L := fun e => h I Fr.rf (by rw [e]; rfl) (by rw [e]; rfl) (by rw [e]; rfl)
  refine ⟨fun q => hnone (crO_none (Or.inl ?_)), fun q => ⟨fun e => hnone (crO_none (Or.inr (Or.inl e))), fun e => s_bitOf hB ⟨fun z => hnone (crO_none (Or.inr (Or.inr (Or.inl z)))), fun z => s_bitOf hB ⟨fun y => s_NT ?_, fun y => hnone (crO_none (Or.inr (Or.inr (Or.inr y))))⟩⟩⟩⟩
  · rcases Nat.eq_zero_or_pos (thS (cU N (I 53 0)) a N) with g | g
    · exact g
    · exact absurd q (nI_ne0 g (by omega))
  · have h0 : thS (cU N (I 53 0)) a N ≠ 0 := fun g => q (by rw [g]; rfl)
    have hsome : crO (I 53 2) N hi a (nI b) (cU N (I 53 0)) = some (thg hi (thS (cU N (I 53 0)) a N)) := by
      unfold crO
      rw [if_neg h0, if_neg e, if_neg z, if_neg y]
    have ⟨ht, _⟩ := thg_in h8 h0 hi
    rw [hsome] at h
    have key : ∀ t, t < N → t = thg hi (thS (cU N (I 53 0)) a N) → F (sm_uI (sm_uI (sm_uI I 53 0 (qPd (I 53 0) (nI t) (nI b))) 57 w (I 57 w + 1)) 59 t (I 59 t ||| ((1 : Int32) <<< (nI w &&& 31)))) L := by
      intro t ht e
      subst e
      refine h _ (((Fr.rf.u rfl).u rfl).u rfl) ?_ ?_ ?_
      · have e3 : (sm_uI (sm_uI (sm_uI I 53 0 (qPd (I 53 0) (nI (thg hi (thS (cU N (I 53 0)) a N))) (nI b))) 57 w (I 57 w + 1)) 59 (thg hi (thS (cU N (I 53 0)) a N)) (I 59 (thg hi (thS (cU N (I 53 0)) a N)) ||| ((1 : Int32) <<< (nI w &&& 31)))) 53 0 = qPd (I 53 0) (nI (thg hi (thS (cU N (I 53 0)) a N))) (nI b) := by
          simp [sm_uI]
        rw [e3, cU_Pd _ h8 ht hb]
        rfl
      · rw [sm_uI_ne (by decide), sm_uI_at, sm_uI_ne (by decide)]
        rfl
      · rw [sm_uI_at, sm_uI_ne (by decide), sm_uI_ne (by decide)]
        rfl
    refine ⟨fun hb4 => ?_, fun hb4 => s_NL ?_⟩
    · subst hb4
      rw [thg_lo h8 h0]
      refine s_placed hB (s_at (t_56 hB) (t_57 hB) hw (by decide) (s_set (t_56 hB) (t_57 hB) hw (by decide) (s_at (t_58 hB) (t_59 hB) (by omega) (by decide) (s_set (t_58 hB) (t_59 hB) (by omega) (by decide) ?_))))
      have := key _ ht rfl
      simpa [sm_uI] using this
    · subst hb4
      rw [thg_hi h8 h0]
      refine s_placed hB (s_at (t_56 hB) (t_57 hB) hw (by decide) (s_set (t_56 hB) (t_57 hB) hw (by decide) (s_at (t_58 hB) (t_59 hB) (by omega) (by decide) (s_set (t_58 hB) (t_59 hB) (by omega) (by decide) ?_))))
      have := key _ ht rfl
      simpa [sm_uI] using this
end
