/-! ===== the model reads streets ===== -/
/-- the model's reader at place a, its fault -/
def nS (I : sm_MI) (a : Nat) (wr : Int32) : sm_MI := fun k j => if k = 76 then (if j = 3 then nI a else if j = 4 then wr else I 76 j) else I k j
section
variable {I : sm_MI} {a a' : Nat} {wr wr' : Int32}
theorem nS_a : sm_uI (nS I a wr) 76 3 (nI a') = nS I a' wr := by
  funext k j
  unfold sm_uI nS
  by_cases h : k = 76
  · by_cases e : j = 3
    · simp [h, e]
    · simp [h, e]
  · simp [h]
theorem nS_w : sm_uI (nS I a wr) 76 4 wr' = nS I a wr' := by
  funext k j
  unfold sm_uI nS
  by_cases h : k = 76
  · by_cases e : j = 4
    · subst e; simp [h]
    · simp [h, e]
  · simp [h]
theorem nS_o {k i : Nat} {v : Int32} (hk : ¬ (k = 76 ∧ (i = 3 ∨ i = 4))) : sm_uI (nS I a wr) k i v = nS (sm_uI I k i v) a wr := by
  funext x j
  unfold sm_uI nS
  by_cases h : x = 76
  · subst h
    by_cases e : (76 : Nat) = k
    · subst e
      have h3 : ¬ i = 3 := fun z => hk ⟨rfl, Or.inl z⟩
      have h4 : ¬ i = 4 := fun z => hk ⟨rfl, Or.inr z⟩
      by_cases e3 : j = 3
      · subst e3
        have : ¬ 3 = i := fun z => h3 z.symm
        simp [this]
      · by_cases e4 : j = 4
        · subst e4
          have : ¬ 4 = i := fun z => h4 z.symm
          simp [this]
        · simp [e3, e4]
    · simp [e]
  · simp [h]
theorem nS_3 : (nS I a wr) 76 3 = nI a := rfl
theorem nS_4 : (nS I a wr) 76 4 = wr := rfl
theorem nS_k {k j : Nat} (hk : k ≠ 76) : (nS I a wr) k j = I k j := by
  unfold nS; simp [hk]
end
def MTs (h : Nat → Int32) (len : Nat) (I : sm_MI) : Prop := I 76 2 = nI len ∧ ∀ j, j < len → I 77 j = h j
/-- no fault; or one at a digit that stands here -/
def wS (h : Nat → Int32) (wr : Int32) (a : Nat) : Prop := wr = -1 ∨ (wr = nI a ∧ isD (h a) = true)
section
variable {n : Nat} {T : List sm_Sh} {I I' : sm_MI} {L L' : sm_ML} {h : Nat → Int32} {len a p : Nat} {wr : Int32}
theorem n_here {F : Int32 → sm_MI → sm_ML → Prop} (hB : sm_Bs T) (H : tpH h len) (hM : MTs h len I) (ha : a < 2 ^ 31) (hF : F (h a) (nS I a wr) L) : sm_CI n mX12_here T (nS I a wr) L [.ref 76] F := by
  have hl := H.1
  have e2 : (nS I a wr) 76 2 = nI len := hM.1
  refine c_X12_here hB ⟨fun q => ?_, fun q => ?_⟩
  · rw [e2, nS_3] at q
    have := (nI_leI (by omega) (by omega)).mp q
    rw [H.2.1 a (by omega)] at hF; exact hF
  · rw [e2, nS_3] at q
    have hlt : a < len := by
      rcases Nat.lt_or_ge a len with z | z
      · exact z
      · exact absurd (nI_le z (by omega)) q
    rw [nS_3, nI_clamp (by omega)]
    refine ⟨vp_in_nI (by omega) (by decide), ?_⟩
    rw [show (nS I a wr) 77 a = h a from hM.2 a hlt]
    exact hF
theorem n_look {F : Int32 → sm_MI → sm_ML → Prop} (hB : sm_Bs T) (H : tpH h len) (hM : MTs h len I) (ha : a < 2 ^ 30) (hF : F (h (sk h len a)) (nS I (sk h len a) wr) L) : sm_CI (n + 1) mX12_look T (nS I a wr) L [.ref 76] F := by
  have hl := H.1
  refine c_X12_look hB (fun x hx => ?_)
  have key : ∀ d a, a < 2 ^ 30 → len ≤ a + d → F (h (sk h len a)) (nS I (sk h len a) wr) L → sm_V x 0 0 T (nS I a wr) L 0 [some (.ref 76)] [] := by
    intro d
    induction d with
    | zero =>
      intro a ha hd hF
      have hm : h a = -1 := H.2.1 a (by omega)
      rw [sk_stop (by rw [hm]; decide)] at hF
      exact u_X12_look_0 hB hx (n_here hB H hM (by omega) ⟨fun _ => n_here hB H hM (by omega) hF, fun q => absurd q (by rw [hm]; decide)⟩)
    | succ d ih =>
      intro a ha hd hF
      refine u_X12_look_0 hB hx (n_here hB H hM (by omega) ⟨fun q => ?_, fun q => ?_⟩)
      · rw [sk_stop q] at hF
        exact n_here hB H hM (by omega) hF
      · have hlt := H.lt (p := a) (by rw [q]; decide)
        rw [nS_3, nI_1, nS_a]
        exact ih (a + 1) (by omega) (by omega) (by rw [← sk_step H q]; exact hF)
  exact key len a ha (by omega) hF
theorem n_bad {F : sm_MI → sm_ML → Prop} (hB : sm_Bs T) (hF : F (nS I a (nI a)) L) : sm_CV n mX12_bad T (nS I a (-1)) L [.ref 76] F := by
  refine c_X12_bad hB ⟨fun q => absurd (show (nS I a (-1)) 76 4 = -1 from rfl) q, fun _ => ?_⟩
  rw [nS_3, nS_w]
  exact hF
theorem n_in {F : Bool → sm_MI → sm_ML → Prop} {x lo hi : Int32} (hB : sm_Bs T) (hF : F (qW x lo hi) I L) : sm_CZ n mX12_in T I L [.int x, .int lo, .int hi] F :=
  c_X12_in hB ⟨fun q => by unfold qW at hF; rw [if_pos q] at hF; exact hF, fun q => ⟨fun r => by unfold qW at hF; rw [if_neg q, if_pos r] at hF; exact hF, fun r => by unfold qW at hF; rw [if_neg q, if_neg r] at hF; exact hF⟩⟩
theorem n_digit {F : Int32 → sm_MI → sm_ML → Prop} {lo hi : Nat} (hB : sm_Bs T) (H : tpH h len) (hM : MTs h len I) (hp : p ≤ len) (hlo : lo ≤ 9) (hhi : hi ≤ 9) (hF : match dgP h len lo hi p with
    | .inl e => ∀ r, F r (nS I e (nI e)) L
    | .inr q => ∀ wr, wS h wr q.1 → F (nI q.2) (nS I q.1 wr) L) : sm_CI (n + 2) mX12_digit T (nS I p (-1)) L [.ref 76, .int (nI lo), .int (nI hi)] F := by
  have hl := H.1
  have s1 := sk_ge (h := h) (len := len) p
  have s2 := sk_le (h := h) (len := len) hp
  have q0 := dg_qW (h := h) (len := len) H (lo := 0) (hi := 9) (sk h len p) (by decide) (by decide)
  have q1 := dg_qW (h := h) (len := len) H (sk h len p) hlo hhi
  unfold dgP at hF
  refine c_X12_digit hB (n_look hB H hM (by omega) (n_in hB ⟨fun z => n_bad hB ?_, fun z => n_in hB ⟨fun y => ?_, fun y => n_bad hB ?_⟩⟩))
  · have : ¬ (isD (h (sk h len p)) = true ∧ lo ≤ dgV (h (sk h len p)) ∧ dgV (h (sk h len p)) ≤ hi) := by
      intro y
      have : qW (h (sk h len p) - 48) (nI 0) (nI 9) = true := q0.mpr ⟨y.1, Nat.zero_le _, by omega⟩
      have z' : qW (h (sk h len p) - 48) (nI 0) (nI 9) = false := z
      rw [z'] at this; exact absurd this (by decide)
    rw [if_neg this] at hF
    exact hF _
  · have g := q1.mp y
    rw [if_pos g] at hF
    have hF' : ∀ wr, wS h wr (sk h len p + 1) → F (nI (dgV (h (sk h len p)))) (nS I (sk h len p + 1) wr) L := hF
    have hlt := H.lt (p := sk h len p) (fun e => by rw [e] at g; exact absurd g.1 (by decide))
    have ev : h (sk h len p) - 48 = nI (dgV (h (sk h len p))) := by
      rcases dg_two H (sk h len p) with ⟨_, _, a3⟩ | ⟨a1, _⟩
      · exact a3
      · rw [a1] at g; exact absurd g.1 (by decide)
    rw [nS_3, nI_1, nS_a, ev]
    refine n_here hB H hM (by omega) (m_isDigit hB ⟨fun w => hF' _ (Or.inl rfl), fun w => n_bad hB (hF' _ (Or.inr ⟨rfl, w⟩))⟩)
  · have : ¬ (isD (h (sk h len p)) = true ∧ lo ≤ dgV (h (sk h len p)) ∧ dgV (h (sk h len p)) ≤ hi) := by
      intro w
      rw [q1.mpr w] at y; exact absurd y (by decide)
    rw [if_neg this] at hF
    exact hF _
/-- the draft of the model -/
def mDf (HH : Nat) (st : stT) (I : sm_MI) : Prop := (I 76 19 = nI HH ∧ I 76 20 = nI st.1.length ∧ I 76 21 = nI st.2.1.length ∧ I 76 22 = nI st.2.2.1 ∧ I 76 23 = nI st.2.2.2) ∧ (∀ w, w < st.1.length → ∀ j, j < 4 → I 87 (4 * w + j) = nI ((st.1.getD w dfA) j)) ∧ ∀ t, t < st.2.1.length → I 88 t = nI (st.2.1.getD t 0)
/-- what the street's reader may touch in the model -/
def kMS (k j : Nat) : Bool := (Nat.beq k 76 && (Nat.beq j 3 || Nat.beq j 4 || (Nat.ble 19 j && Nat.ble j 23))) || Nat.beq k 87 || Nat.beq k 88
theorem kMS_n {I J : sm_MI} (f : Fr kMS I J) : Fr kMS I (nS J a wr) := by
  intro k j q
  rw [← f k j q]
  unfold nS
  by_cases e : k = 76
  · subst e
    rw [if_pos rfl]
    by_cases e3 : j = 3
    · subst e3; exact absurd q (by decide)
    · rw [if_neg e3]
      by_cases e4 : j = 4
      · subst e4; exact absurd q (by decide)
      · rw [if_neg e4]
  · rw [if_neg e]
theorem MTs_fr {P : Nat → Nat → Bool} (hM : MTs h len I) (f : Fr P I I') (h1 : P 76 2 = false) (h3 : ∀ j, P 77 j = false) : MTs h len I' := ⟨(f 76 2 h1).trans hM.1, fun j hj => (f 77 j (h3 j)).trans (hM.2 j hj)⟩
/-- what the model does behind a clause's text -/
def nOKc (F : sm_MI → sm_ML → Prop) (I : sm_MI) (L : sm_ML) (h : Nat → Int32) (len HH : Nat) : Nat ⊕ (Nat × stT) → Prop
  | .inl e => ∀ I' a, Fr kMS I I' → F (nS I' a (nI e)) L
  | .inr q => ∀ I' p' wr, p' ≤ len → sk h len p' = q.1 → wS h wr p' → Fr kMS I I' → mDf HH q.2 I' → F (nS I' p' wr) L
/-- a row of items, alone -/
def kIt (S k j : Nat) : Bool := Nat.beq k 87 && (Nat.ble (4 * S) j && Nat.ble j (4 * S + 3))
theorem kIt_M {S k j : Nat} (q : kMS k j = false) : kIt S k j = false := by
  cases e : kIt S k j with
  | false => rfl
  | true =>
    unfold kIt at e
    rw [Bool.and_eq_true] at e
    unfold kMS at q
    simp [e.1] at q
def nOKi (F : sm_MI → sm_ML → Prop) (I : sm_MI) (L : sm_ML) (h : Nat → Int32) (S : Nat) : Nat ⊕ (Nat × (Nat → Nat)) → Prop
  | .inl e => ∀ I' a, Fr (kIt S) I I' → F (nS I' a (nI e)) L
  | .inr q => ∀ I' wr, wS h wr q.1 → Fr (kIt S) I I' → (∀ j, j < 4 → I' 87 (4 * S + j) = nI (q.2 j)) → F (nS I' q.1 wr) L
theorem tbM_ok : ∀ m, m < 16 → ∀ j, j < 4 → ((((nI m) >>> ((nI j) &&& 31)) &&& 1) = 1 ↔ m.testBit j = true) := by decide +kernel
theorem n_item {F : Int32 → sm_MI → sm_ML → Prop} {x : Int32} (hB : sm_Bs T) (hF : F (oN (itO x)) I L) : sm_CI n mX12_sleeperItem T I L [.int x] F := by
  unfold itO at hF
  refine c_X12_sleeperItem hB ⟨fun q1 => ⟨fun q2 => ⟨fun q3 => ⟨fun q4 => ?_, fun q4 => ?_⟩, fun q3 => ?_⟩, fun q2 => ?_⟩, fun q1 => ?_⟩
  · rw [if_neg q1, if_neg q2, if_neg q3, if_neg q4] at hF; exact hF
  · rw [if_neg q1, if_neg q2, if_neg q3, if_pos q4] at hF; exact hF
  · rw [if_neg q1, if_neg q2, if_pos q3] at hF; exact hF
  · rw [if_neg q1, if_pos q2] at hF; exact hF
  · rw [if_pos q1] at hF; exact hF
theorem itO_D {x : Int32} (hd : isD x = true) : itO x = none := by
  unfold itO
  rw [if_neg (fun e => by rw [e] at hd; exact absurd hd (by decide)), if_neg (fun e => by rw [e] at hd; exact absurd hd (by decide)), if_neg (fun e => by rw [e] at hd; exact absurd hd (by decide)), if_neg (fun e => by rw [e] at hd; exact absurd hd (by decide))]
theorem itA_D {x : Int32} (hd : isD x = true) : itA x = none := by
  unfold itA
  rw [if_neg (fun e => by rw [e] at hd; exact absurd hd (by decide))]
theorem itM_D {x : Int32} (hd : isD x = true) : itM x = none := by
  unfold itM
  rw [if_neg (fun e => by rw [e] at hd; exact absurd hd (by decide)), if_neg (fun e => by rw [e] at hd; exact absurd hd (by decide))]
theorem n_has {F : Bool → sm_MI → sm_ML → Prop} {m j : Nat} (hB : sm_Bs T) (hm : m < 16) (hj : j < 4) (hF : F (m.testBit j) I L) : sm_CZ n mX12_has T I L [.int (nI m), .int (nI j)] F := by
  refine c_X12_has hB ⟨fun q => ?_, fun q => ?_⟩
  · have : m.testBit j = false := Bool.eq_false_iff.mpr (fun z => q ((tbM_ok m hm j hj).mpr z))
    rw [this] at hF; exact hF
  · rw [(tbM_ok m hm j hj).mp q] at hF; exact hF
theorem n_highest {F : Int32 → sm_MI → sm_ML → Prop} {HH j : Nat} (hB : sm_Bs T) (h2 : 2 ≤ HH) (hH : I 76 19 = nI HH) (hj : j < 4) (hF : F (nI (hiO HH j)) I L) : sm_CI n mX12_highest T I L [.ref 76, .int (nI j)] F := by
  refine c_X12_highest hB ⟨fun q1 => ⟨fun q2 => ⟨fun q3 => ?_, fun q3 => ?_⟩, fun q2 => ?_⟩, fun q1 => ?_⟩
  · have e : j = 3 := by
      have a1 : j ≠ 0 := fun e => q1 (by rw [e]; rfl)
      have a2 : j ≠ 1 := fun e => q2 (by rw [e]; rfl)
      have a3 : j ≠ 2 := fun e => q3 (by rw [e]; rfl)
      omega
    subst e; exact hF
  · have e : j = 2 := (nI_eq (a := j) (b := 2) (by omega) (by decide)).mp q3
    subst e; exact hF
  · have e : j = 1 := (nI_eq (a := j) (b := 1) (by omega) (by decide)).mp q2
    subst e; exact hF
  · have e : j = 0 := (nI_eq (a := j) (b := 0) (by omega) (by decide)).mp q1
    subst e
    rw [hH, show nI HH - 1 = nI (HH - 1) from pk_sub (a := HH) (b := 1) (by omega)]
    exact hF
/-- the items of a sleeper -/
theorem n_items {F : sm_MI → sm_ML → Prop} {HH S : Nat} {x : sm_Cx} (hB : sm_Bs T) (H : tpH h len) (hx : sm_Ok x mX12_sleeperText (n + 4) (sm_KV T F)) (h2 : 2 ≤ HH) (h8 : HH ≤ 8) (hS : S < 5) :
    ∀ d p m v (I : sm_MI) wr, MTs h len I → I 76 19 = nI HH → len ≤ p + d → p ≤ len → m < 16 → wS h wr p → (∀ j, j < 4 → I 87 (4 * S + j) = nI (v j)) → nOKi (fun I1 L1 => F (sm_uI I1 76 20 ((I1 76 20) + 1)) L1) I L h S (itmP h len itO loO (hiO HH) d p m v) → sm_V x 0 0 T (nS I (sk h len p) wr) L 71 [some (.ref 76), some (.int (nI (4 * S))), some (.int (nI m)), some (.int (oN (itO (h (sk h len p)))))] [] := by
  have hl := H.1
  intro d
  induction d with
  | zero =>
    intro p m v I wr hM hH hd hp hm hw hv hF
    have hme : h p = -1 := H.2.1 p (by omega)
    have hs : sk h len p = p := sk_stop (by rw [hme]; decide)
    have hF' : ∀ I' wr, wS h wr (sk h len p) → Fr (kIt S) I I' → (∀ j, j < 4 → I' 87 (4 * S + j) = nI (v j)) → F (sm_uI (nS I' (sk h len p) wr) 76 20 ((nS I' (sk h len p) wr) 76 20 + 1)) L := hF
    have wr1 : wr = -1 := hw.elim id (fun z => by rw [hme] at z; exact absurd z.2 (by decide))
    refine u_X12_sleeperText_71 hB hx ⟨fun q => absurd wr1 q, fun _ => ⟨fun _ => hF' I _ (Or.inl wr1) Fr.rf hv, fun q => absurd ?_ q⟩⟩
    rw [hs, hme]; rfl
  | succ d ih =>
    intro p m v I wr hM hH hd hp hm hw hv hF
    have s1 := sk_ge (h := h) (len := len) p
    have s2 := sk_le (h := h) (len := len) hp
    rcases hw with hw | ⟨hw, hdg⟩
    · subst hw
      rw [itmP] at hF
      refine u_X12_sleeperText_71 hB hx ⟨fun q => absurd rfl q, fun _ => ?_⟩
      cases hk : itO (h (sk h len p)) with
      | none =>
        rw [hk] at hF
        have hF' : ∀ I' wr, wS h wr (sk h len p) → Fr (kIt S) I I' → (∀ j, j < 4 → I' 87 (4 * S + j) = nI (v j)) → F (sm_uI (nS I' (sk h len p) wr) 76 20 ((nS I' (sk h len p) wr) 76 20 + 1)) L := hF
        exact ⟨fun _ => hF' I _ (Or.inl rfl) Fr.rf hv, fun q => absurd rfl q⟩
      | some j =>
        rw [hk] at hF
        have hj := it_O hk
        have hj4 := hj.1
        have hlt := H.lt (p := sk h len p) (fun e => hj.2.2.1 e)
        obtain ⟨b3, b4, b5⟩ := tb_ok m hm j hj4
        have hF' : nOKi (fun I1 L1 => F (sm_uI I1 76 20 ((I1 76 20) + 1)) L1) I L h S (if m.testBit j = true then .inr (sk h len p, v) else (match dgP h len (loO j) (hiO HH j) (sk h len p + 1) with
          | .inl e => .inl e
          | .inr q => itmP h len itO loO (hiO HH) d q.1 (m ||| 2 ^ j) (updN v j q.2))) := hF
        refine ⟨fun q => absurd q (nI_m1 (by omega)), fun _ => n_has hB hm hj4 ⟨fun y => ?_, fun y => ?_⟩⟩
        · rw [if_pos y] at hF'
          exact hF' I _ (Or.inl rfl) Fr.rf hv
        · have y' : ¬ m.testBit j = true := by rw [y]; decide
          rw [if_neg y'] at hF'
          rw [nS_3, nI_1, nS_a]
          refine n_highest hB h2 hH hj4 (n_digit (lo := loO j) (hi := hiO HH j) (n := n + 1) hB H hM (by omega) (show loO j ≤ 9 by unfold loO; omega) (hiO_le h8) ?_)
          have hd2 := dgP_ok H (lo := loO j) (hi := hiO HH j) (p := sk h len p + 1) (by omega)
          have ei : nI (4 * S) + nI j = nI (4 * S + j) := nI_add _ _
          have eo : oN (some j) = nI j := rfl
          have iw : ∀ (u : Int32), Fr (kIt S) I (sm_uI I 87 (4 * S + j) u) := fun u => Fr.rf.u (by unfold kIt; simp; omega)
          cases hq : dgP h len (loO j) (hiO HH j) (sk h len p + 1) with
          | inl e =>
            rw [hq] at hF' hd2
            intro r
            have he : e ≤ len := hd2
            rw [eo, ei, nI_clamp (by omega), nS_o (by omega)]
            refine ⟨vp_in_nI (by omega) (by decide), n_look hB H (MTs_fr hM (iw r) (by unfold kIt; rfl) (fun _ => by unfold kIt; rfl)) (by omega) (n_item hB ?_)⟩
            refine u_X12_sleeperText_71 hB hx ⟨fun _ => hF' _ _ (iw r), fun z => absurd z (nI_m1 (by omega))⟩
          | inr q =>
            rw [hq] at hF' hd2
            obtain ⟨d1, d2, d3, d4, d5⟩ := hd2
            intro wr hwr
            rw [eo, ei, nI_clamp (by omega), nS_o (by omega), b4]
            have hM' := MTs_fr hM (iw (nI q.2)) (by unfold kIt; rfl) (fun _ => by unfold kIt; rfl)
            refine ⟨vp_in_nI (by omega) (by decide), n_look hB H hM' (by omega) (n_item hB ?_)⟩
            refine ih q.1 (m ||| 2 ^ j) (updN v j q.2) _ wr hM' ((iw (nI q.2) 76 19 (by unfold kIt; rfl)).trans hH) (by omega) d2 ((fu_aske m hm).2 j hj4) hwr (fun i hi => ?_) ?_
            · unfold updN
              by_cases e : i = j
              · subst e; rw [cuA, if_pos rfl]
              · rw [cuD (by omega), if_neg e]; exact hv i hi
            · have hF2 : nOKi (fun I1 L1 => F (sm_uI I1 76 20 ((I1 76 20) + 1)) L1) I L h S (itmP h len itO loO (hiO HH) d q.1 (m ||| 2 ^ j) (updN v j q.2)) := hF'
              cases hr : itmP h len itO loO (hiO HH) d q.1 (m ||| 2 ^ j) (updN v j q.2) with
              | inl e =>
                rw [hr] at hF2
                exact fun I' a f => hF2 I' a ((iw _).tr f)
              | inr r =>
                rw [hr] at hF2
                exact fun I' wr w f g => hF2 I' wr w ((iw _).tr f) g
    · have hs : sk h len p = p := sk_stop (fun e => by rw [e] at hdg; exact absurd hdg (by decide))
      rw [itm_dig (fun x hx => itO_D hx) hdg] at hF
      have hF' : ∀ I' wr, wS h wr p → Fr (kIt S) I I' → (∀ j, j < 4 → I' 87 (4 * S + j) = nI (v j)) → F (sm_uI (nS I' p wr) 76 20 ((nS I' p wr) 76 20 + 1)) L := hF
      rw [hs]
      refine u_X12_sleeperText_71 hB hx ⟨fun _ => hF' I _ (Or.inr ⟨hw, hdg⟩) Fr.rf hv, fun q => absurd q ?_⟩
      rw [nS_4, hw]
      exact nI_m1 (by omega)
end
