/-! ===== a sleeper's walk, a night, nights ===== -/
abbrev w_St : Type := (Nat → Int32) × Int32 × Int64 × (Nat → Int32) × (Nat → Int32)
def nxD (D : Int64) : Int64 := D * 6364136223846793005 + 1442695040888963407
def qDr (D : Int64) : Int64 := (Int64.toUInt64 D >>> ((Int32.toInt64 33).toUInt64 &&& Int64.toUInt64 63)).toInt64 - (Int64.toUInt64 D >>> ((Int32.toInt64 33).toUInt64 &&& Int64.toUInt64 63)).toInt64 / 100 * 100
def qFv (D : Int64) (r : Int32) : Bool := decide (¬ 0 ≤ lg_cmp (qDr D) (Int32.toInt64 r))
def fvC (E : Nat → Nat → Int32) (w : Nat) : Bool := decide (E 3 w = 3) && !decide (nI w = E 0 1) && !decide (E 0 2 = 0)
def fvB (E : Nat → Nat → Int32) (w : Nat) (D : Int64) : Bool := fvC E w && qFv (nxD D) (E 0 2)
def fvD (E : Nat → Nat → Int32) (w : Nat) (D : Int64) : Int64 := if fvC E w = true then nxD D else D
def strE (E : Nat → Nat → Int32) (W : Nat → (Nat → Int32) → Int32) (N ν w : Nat) (fv : Bool) (s : Int32) (u : Nat → Int32) : Int32 :=
  if nI w = E 0 1 then 0 else if fv = true then 0 else if E 3 w = 2 ∧ 0 < w then s else ownE E W N ν w u
def w_a (E : Nat → Nat → Int32) (H w : Nat) (st : Int32) : Int32 := if E 3 w = 4 then nI (fmN (E 1 w + st) H) else E 1 w
def w_b (E : Nat → Nat → Int32) (H w : Nat) (st : Int32) : Int32 := if E 3 w = 4 then E 1 w else nI (fmN (E 1 w + st) H)
def w_o (E : Nat → Nat → Int32) (H N w : Nat) (st : Int32) (u : Nat → Int32) : Option Nat := crO (E 0 0) N (decide (E 4 w = 1)) (w_a E H w st) (w_b E H w st) u
def wkS (E : Nat → Nat → Int32) (H N w : Nat) (st : Int32) (D : Int64) (z : w_St) : w_St :=
  (crU z.1 (w_o E H N w st z.1) (w_b E H w st), st, D, crC (w_o E H N w st z.1) w z.2.2.2.1, crD (w_o E H N w st z.1) w z.2.2.2.2)
def wst (E : Nat → Nat → Int32) (W : Nat → (Nat → Int32) → Int32) (H N ν w : Nat) (z : w_St) : w_St :=
  wkS E H N w (strE E W N ν w (fvB E w z.2.2.1) z.2.1 z.1) (fvD E w z.2.2.1) z
def nst (E : Nat → Nat → Int32) (W : Nat → (Nat → Int32) → Int32) (H N ν : Nat) : Nat → w_St → w_St
  | 0, z => z
  | w + 1, z => wst E W H N ν w (nst E W H N ν w z)
/-- the guest, who walks last -/
def gst (E : Nat → Nat → Int32) (H S N : Nat) (z : w_St) : w_St :=
  if E 0 5 = -1 then z else
    (crU z.1 (crO (E 0 0) N false (E 0 5) (nI (fmN (E 0 5 + E 0 6) H)) z.1) (nI (fmN (E 0 5 + E 0 6) H)), z.2.1, z.2.2.1, crC (crO (E 0 0) N false (E 0 5) (nI (fmN (E 0 5 + E 0 6) H)) z.1) S z.2.2.2.1, crD (crO (E 0 0) N false (E 0 5) (nI (fmN (E 0 5 + E 0 6) H)) z.1) S z.2.2.2.2)
def ngt (E : Nat → Nat → Int32) (W : Nat → (Nat → Int32) → Int32) (H S N ν : Nat) (z : w_St) : w_St := gst E H S N (nst E W H N ν S z)
def ngs (E : Nat → Nat → Int32) (W : Nat → (Nat → Int32) → Int32) (H S N ν : Nat) : Nat → w_St → w_St
  | 0, z => z
  | i + 1, z => ngt E W H S N (ν + i) (ngs E W H S N ν i z)
/-- the class's dream stands at z, in night ν -/
def cZ (N : Nat) (I : sm_MI) (L : sm_ML) (z : w_St) : Prop := cU N (I 53 0) = z.1 ∧ I 53 13 = z.2.1 ∧ L 53 3 = z.2.2.1 ∧ I 57 = z.2.2.2.1 ∧ I 59 = z.2.2.2.2
def cD (E : Nat → Nat → Int32) (W : Nat → (Nat → Int32) → Int32) (H S N R : Nat) (I0 : sm_MI) (ν : Nat) (I : sm_MI) : Prop :=
  cE E H S N I ∧ I 53 1 = nI ν ∧ Cok E W S I ∧ I 23 2 = nI R ∧ ∀ k, 110 ≤ k → I k = I0 k
theorem sm_uL_id {L : sm_ML} {k j : Nat} {v : Int64} (h : L k j = v) : sm_uL L k j v = L := by
  funext a b
  unfold sm_uL
  by_cases e : a = k
  · by_cases e2 : b = j
    · subst e e2; simp [h]
    · simp [e, e2]
  · simp [e]
theorem sm_uL_s {L : sm_ML} {k j : Nat} {v : Int64} : sm_uL L k j v k j = v := by simp [sm_uL]
theorem sm_uL_2 {L : sm_ML} {k j : Nat} {v v' : Int64} : sm_uL (sm_uL L k j v) k j v' = sm_uL L k j v' := by
  funext a b
  unfold sm_uL
  by_cases e : a = k
  · by_cases e2 : b = j
    · simp [e, e2]
    · simp [e, e2]
  · simp [e]
section
variable {n : Nat} {T : List sm_Sh} {I : sm_MI} {L : sm_ML} {E : Nat → Nat → Int32} {H S N R ν w : Nat} {W : Nat → (Nat → Int32) → Int32} {I0 : sm_MI}
theorem Cok_fr {I' : sm_MI} (h : Cok E W S I) (h65 : I' 65 = I 65) (h67 : I' 67 = I 67) : Cok E W S I' := by
  intro ν w q a b c d e
  rw [h67] at e
  rw [h65]
  exact h ν w q a b c d e
theorem s_hasFever {F : Bool → sm_MI → sm_ML → Prop} (hB : sm_Bs T) (h : F (!decide (I 53 9 = 0) && qFv (nxD (L 53 3)) (I 53 9)) I (if I 53 9 = 0 then L else sm_uL L 53 3 (nxD (L 53 3)))) : sm_CZ n mX0_hasFever T I L [.ref 53] F := by
  refine c_X0_hasFever hB ⟨fun q => ⟨fun z => ?_, fun z => ?_⟩, fun q => ?_⟩
  · rw [sm_uL_s] at z
    rw [if_neg q, decide_eq_false q] at h
    have : qFv (nxD (L 53 3)) (I 53 9) = false := decide_eq_false (fun g => g z)
    rw [this] at h
    exact h
  · rw [sm_uL_s] at z
    rw [if_neg q, decide_eq_false q] at h
    have : qFv (nxD (L 53 3)) (I 53 9) = true := decide_eq_true z
    rw [this] at h
    exact h
  · rw [if_pos q, decide_eq_true q] at h
    exact h
theorem s_w60 {F : sm_MI → sm_ML → Prop} {x : sm_Cx} {st : Int32} (hB : sm_Bs T) (hx : sm_Ok x mX0_walk (n + 5) (sm_KV T F)) (hV : vE E H S N R) (hE : cE E H S N I) (hw : w < S)
    (h : ∀ I' : sm_MI, Fr PW I I' → I' 65 = I 65 → I' 67 = I 67 → cU N (I' 53 0) = crU (cU N (I 53 0)) (w_o E H N w st (cU N (I 53 0))) (w_b E H w st) → I' 53 13 = st → I' 57 = crC (w_o E H N w st (cU N (I 53 0))) w (I 57) → I' 59 = crD (w_o E H N w st (cU N (I 53 0))) w (I 59) → F I' L) :
    sm_V x 0 0 T I L 60 [some (.ref 53), some (.int (nI w)), some (.int (E 3 w)), some (.int st), none, none, none] [] := by
  obtain ⟨⟨a1, a2, a3, a4, a5⟩, b, ⟨c1, c2, c3, c4, c5⟩⟩ := hE
  obtain ⟨v1, v2, v3, v4, v5, v6⟩ := hV
  have hw5 : w < 5 := by omega
  obtain ⟨b1, b2, b3, b4, b5, b6⟩ := b w hw
  obtain ⟨⟨hk, hkH, hhome⟩, _⟩ := v6 w hw
  have e0 : (sm_uI I 53 13 st) 53 0 = I 53 0 := rfl
  have e2 : (sm_uI I 53 13 st) 53 2 = E 0 0 := c1
  have e57 : (sm_uI I 53 13 st) 57 = I 57 := sm_uI_ne (by decide)
  have e59 : (sm_uI I 53 13 st) 59 = I 59 := sm_uI_ne (by decide)
  have e26 : (sm_uI I 53 13 st) 26 w = E 1 w := b1
  have e32 : (sm_uI I 53 13 st) 32 w = E 4 w := b4
  have hf : Fr PW I (sm_uI I 53 13 st) := Fr.rf.u rfl
  have hfm := fmN_lt (a := E 1 w + st) v1
  have fin : ∀ I' : sm_MI, Fr PC (sm_uI I 53 13 st) I' → cU N (I' 53 0) = crU (cU N (I 53 0)) (w_o E H N w st (cU N (I 53 0))) (w_b E H w st) → I' 57 = crC (w_o E H N w st (cU N (I 53 0))) w (I 57) → I' 59 = crD (w_o E H N w st (cU N (I 53 0))) w (I 59) → F I' L := by
    intro I' f1 f2 f3 f4
    refine h I' (hf.tr (Fr.mono f1 PC_PW)) ((f1.at 65 (fun _ => rfl)).trans (sm_uI_ne (by decide))) ((f1.at 67 (fun _ => rfl)).trans (sm_uI_ne (by decide))) f2 ?_ f3 f4
    rw [f1 53 13 rfl]
    simp [sm_uI]
  refine u_X0_walk_60 hB hx (s_at (t_25 hB) (t_26 hB) hw5 (by decide) (s_around hB (H := H) a1 v1 v2 (s_at (t_31 hB) (t_32 hB) hw5 (by decide) ?_)))
  rw [e26, e32]
  have hcarry : ∀ (hi : Bool) (a : Int32) (t : Nat), t < 8 → hi = decide (E 4 w = 1) → a = w_a E H w st → nI t = w_b E H w st → sm_CV (n + 4) mX0_carry T (sm_uI I 53 13 st) L [.ref 53, .int (nI w), .int a, .int (nI t), .int (sm_z hi)] F := by
    intro hi a t ht e1 e3 e4
    refine s_carry (n := n + 2) hB (N := N) a3 v4 (by omega) ht (fun I' f1 f2 f3 f4 => fin I' f1 ?_ ?_ ?_)
    · rw [f2, e0, e2]; unfold w_o; rw [e1, e3, e4]
    · rw [f3, e0, e2, e57]; unfold w_o; rw [e1, e3, e4]
    · rw [f4, e0, e2, e59]; unfold w_o; rw [e1, e3, e4]
  refine ⟨fun q => ⟨fun q4 => ?_, fun q4 => ?_⟩, fun q => ⟨fun q4 => ?_, fun q4 => ?_⟩⟩
  · exact hcarry _ _ _ (by omega) (decide_eq_false q).symm (by unfold w_a; rw [if_neg q4]) (by unfold w_b; rw [if_neg q4])
  · rw [hhome]
    exact hcarry _ _ hk (by omega) (decide_eq_false q).symm (by unfold w_a; rw [if_pos q4, hhome]) (by unfold w_b; rw [if_pos q4, hhome])
  · exact hcarry _ _ _ (by omega) (decide_eq_true q).symm (by unfold w_a; rw [if_neg q4]) (by unfold w_b; rw [if_neg q4])
  · rw [hhome]
    exact hcarry _ _ hk (by omega) (decide_eq_true q).symm (by unfold w_a; rw [if_pos q4, hhome]) (by unfold w_b; rw [if_pos q4, hhome])
theorem fvC_3 {w : Nat} (h : fvC E w = true) : E 3 w = 3 ∧ nI w ≠ E 0 1 ∧ E 0 2 ≠ 0 := by
  unfold fvC at h
  simpa [and_assoc] using h
theorem s_walk {F : sm_MI → sm_ML → Prop} {z : w_St} (hB : sm_Bs T) (hR : sRL T W R I0) (hV : vE E H S N R) (hD : cD E W H S N R I0 ν I) (hz : cZ N I L z) (hw : w < S) (hν : ν < 2 ^ 31)
    (h : ∀ I' : sm_MI, Fr PW I I' → cD E W H S N R I0 ν I' → cZ N I' (sm_uL L 53 3 (wst E W H N ν w z).2.2.1) (wst E W H N ν w z) → F I' (sm_uL L 53 3 (wst E W H N ν w z).2.2.1)) :
    sm_CV (n + 5) mX0_walk T I L [.ref 53, .int (nI w)] F := by
  apply c_X0_walk hB
  intro x hx
  obtain ⟨hE, hn, hC, h23R, hQ⟩ := hD
  have hE' := hE
  obtain ⟨⟨a1, a2, a3, a4, a5⟩, b, ⟨c1, c2, c3, c4, c5⟩⟩ := hE'
  have hV' := hV
  obtain ⟨v1, v2, v3, v4, v5, v6⟩ := hV'
  have hw5 : w < 5 := by omega
  obtain ⟨b1, b2, b3, b4, b5, b6⟩ := b w hw
  obtain ⟨z1, z2, z3, z4, z5⟩ := hz
  have fin : ∀ (I1 : sm_MI) (L1 : sm_ML) (st : Int32), Fr PW I I1 → Fr PO I I1 → Cok E W S I1 → L1 = sm_uL L 53 3 (fvD E w z.2.2.1) → st = strE E W N ν w (fvB E w z.2.2.1) z.2.1 z.1 →
      sm_V x 0 0 T I1 L1 60 [some (.ref 53), some (.int (nI w)), some (.int (E 3 w)), some (.int st), none, none, none] [] := by
    intro I1 L1 st f1 fo hC1 hL hst
    refine s_w60 (n := n) hB hx hV (cE_fr hE f1 PW_PN) hw (fun I' g1 g2 g3 g4 g5 g6 g7 => ?_)
    subst hL
    have e53 : I1 53 0 = I 53 0 := fo 53 0 rfl
    have e57 : I1 57 = I 57 := fo.at 57 (fun _ => rfl)
    have e59 : I1 59 = I 59 := fo.at 59 (fun _ => rfl)
    rw [e53, z1] at g4 g6 g7
    rw [e57, z4] at g6
    rw [e59, z5] at g7
    subst hst
    refine h I' (f1.tr g1) ⟨cE_fr hE (f1.tr g1) PW_PN, ?_, Cok_fr hC1 g2 g3, ?_, fun k hk => ?_⟩ ⟨g4, g5, sm_uL_s, g6, g7⟩
    · rw [(f1.tr g1) 53 1 rfl, hn]
    · rw [(f1.tr g1) 23 2 rfl, h23R]
    · rw [(f1.tr g1).at k (fun j => by
        have h1 : (k == 53) = false := by simp; omega
        have h2 : (k == 57) = false := by simp; omega
        have h3 : (k == 59) = false := by simp; omega
        have h4 : (k == 61) = false := by simp; omega
        have h5 : (k == 63) = false := by simp; omega
        have h6 : (k == 65) = false := by simp; omega
        have h7 : (k == 67) = false := by simp; omega
        simp only [PW, h1, h2, h3, h4, h5, h6, h7, Bool.false_and, Bool.or_false]), hQ k hk]
  have PO_PW : ∀ k j, PW k j = false → PO k j = false := by
    intro k j
    simp only [PW, PO, Bool.or_eq_false_iff]
    exact fun q => ⟨⟨⟨q.1.1.1.2, q.1.1.2⟩, q.1.2⟩, q.2⟩
  have own : ∀ (L1 : sm_ML) (G : Int32 → sm_MI → sm_ML → Prop), (∀ I1 : sm_MI, Fr PO I I1 → Cok E W S I1 → G (ownE E W N ν w z.1) I1 L1) → sm_CI (n + 4) mX0_ownStride T I L1 [.ref 53, .int (nI w)] G := by
    intro L1 G hG
    refine s_ownStride hB hR hV hE hw hn hν hC h23R hQ (fun I1 f1 hC1 => ?_)
    rw [z1]
    exact hG I1 f1 hC1
  refine s_at (t_29 hB) (t_30 hB) hw5 (by decide) ⟨fun q => ?_, fun q => ⟨fun k3 => ⟨fun k2 => own _ _ (fun I1 f1 hC1 => ?_), fun k2 => ⟨fun w0 => own _ _ (fun I1 f1 hC1 => ?_), fun w0 => ?_⟩⟩, fun k3 => s_hasFever hB ⟨fun r => ⟨fun k2 => own _ _ (fun I1 f1 hC1 => ?_), fun k2 => ?_⟩, fun r => ?_⟩⟩⟩
  · rw [c2] at q
    rw [b3]
    refine fin I L 0 Fr.rf Fr.rf hC ?_ ?_
    · have : fvC E w = false := by unfold fvC; simp [q]
      unfold fvD
      rw [this, if_neg (by decide), sm_uL_id z3]
    · unfold strE
      rw [if_pos q]
  · rw [c2] at q
    rw [b3] at k3 k2 ⊢
    have hf : fvC E w = false := by unfold fvC; simp [k3]
    refine fin I1 L _ (Fr.mono f1 PO_PW) f1 hC1 ?_ ?_
    · unfold fvD
      rw [hf, if_neg (by decide), sm_uL_id z3]
    · unfold strE fvB
      rw [if_neg q, hf, Bool.false_and, if_neg (by decide), if_neg (fun g => k2 g.1)]
  · rw [c2] at q
    rw [b3] at k3 k2 ⊢
    have hf : fvC E w = false := by unfold fvC; simp [k3]
    have hw0 : w = 0 := by
      have := q_le (b := 0) w0 (by omega) (by omega)
      omega
    refine fin I1 L _ (Fr.mono f1 PO_PW) f1 hC1 ?_ ?_
    · unfold fvD
      rw [hf, if_neg (by decide), sm_uL_id z3]
    · unfold strE fvB
      rw [if_neg q, hf, Bool.false_and, if_neg (by decide), if_neg (fun g => by omega)]
  · rw [c2] at q
    rw [b3] at k3 k2 ⊢
    have hf : fvC E w = false := by unfold fvC; simp [k3]
    have hw0 : 0 < w := q_nle (b := 0) w0 (by omega) (by omega)
    refine fin I L _ Fr.rf Fr.rf hC ?_ ?_
    · unfold fvD
      rw [hf, if_neg (by decide), sm_uL_id z3]
    · unfold strE fvB
      rw [if_neg q, hf, Bool.false_and, if_neg (by decide), if_pos ⟨k2, hw0⟩, z2]
  · rw [c2] at q
    rw [c3] at r ⊢
    rw [b3] at k3 k2 ⊢
    rw [z3] at r ⊢
    refine fin I1 _ _ (Fr.mono f1 PO_PW) f1 hC1 ?_ ?_
    · unfold fvD
      by_cases y : E 0 2 = 0
      · rw [if_pos y, if_neg (by unfold fvC; simp [y]), sm_uL_id z3]
      · rw [if_neg y, if_pos (by unfold fvC; simp [y, k3, q])]
    · unfold strE
      have hf : fvB E w z.2.2.1 = false := by
        unfold fvB fvC
        rw [← Bool.not_eq_true]
        intro g
        simp only [Bool.and_eq_true] at g
        rw [g.1.2, g.2] at r
        exact absurd r (by decide)
      rw [if_neg q, hf, if_neg (by decide), if_neg (fun g => k2 g.1)]
  · rw [b3] at k3 k2
    rw [k3] at k2
    exact absurd k2 (by decide)
  · rw [c2] at q
    rw [c3] at r ⊢
    rw [b3] at k3 ⊢
    rw [z3] at r ⊢
    have r' := r
    rw [Bool.and_eq_true] at r'
    have y : ¬ E 0 2 = 0 := by simpa using r'.1
    have hf : fvC E w = true := by unfold fvC; simp [y, k3, q]
    refine fin I _ _ Fr.rf Fr.rf hC ?_ ?_
    · unfold fvD
      rw [if_neg y, if_pos hf]
    · unfold strE fvB
      rw [if_neg q, hf, r'.2, if_pos (by decide)]
end
