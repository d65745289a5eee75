/-! ===== the class reads rules ===== -/
def ixR (bs : List Int32) (a : Int32) : Nat → Nat → Int32
  | 0, _ => -1
  | d + 1, i => if bs.getD i 0 = a then nI i else ixR bs a d (i + 1)
theorem ch_nat : ∀ b, b < 256 → ((Int32.toUInt32 (nI b)) % 65536).toInt32 = nI b := by decide +kernel
def itO (c : Int32) : Option Nat := if c = 97 then some 0 else if c = 115 then some 1 else if c = 107 then some 2 else if c = 101 then some 3 else none
def itA (c : Int32) : Option Nat := if c = 97 then some 0 else none
def itM (c : Int32) : Option Nat := if c = 112 then some 0 else if c = 103 then some 1 else none
def oN (o : Option Nat) : Int32 := match o with
  | none => -1
  | some l => nI l
section
variable {n : Nat} {T : List sm_Sh} {I I' : sm_MI} {L L' : sm_ML}
theorem ix_aske_all : ∀ b, b < 256 → ixR (sm_xbyt.getD 0 []) ((Int32.toInt8 (nI b)).toInt32) 4 0 = oN (itO (nI b)) := by decide +kernel
theorem s_ix_aske {F : Int32 → sm_MI → sm_ML → Prop} {b : Nat} (hb : b < 256) (h : F (oN (itO (nI b))) I L) : sm_CI (n + 3) mJ0_indexOf_0f7a4 T I L [.ref 1000000, .int (((Int32.toUInt32 (nI b)) % 65536).toInt32)] F := by
  rw [ch_nat b hb]
  refine c_J0_indexOf_0f7a4_aske (c_J0_indexOf_7cf53_aske (c_J0_isLatin1_aae02_aske ⟨fun q => absurd q (by decide), fun _ => c_J0_length_8abf5_aske (c_J0_coder_7d493_aske (c_J1_indexOf_4cfef_aske (c_J1_canEncode_9a6ad ⟨fun q => absurd q (nI_pos (by omega)), fun _ => ⟨fun q => absurd q (nI_nlt (a := 255) (b := b) (by omega) (by decide)), fun _ => ⟨fun _ => ⟨fun _ => c_J1_indexOfChar_4cfef_aske (fun x hx => ?_), fun q => absurd (by decide) q⟩, fun q => absurd q (by decide)⟩⟩⟩)))⟩))
  rw [← ix_aske_all b hb] at h
  have key : ∀ d i, i + d = 4 → F (ixR (sm_xbyt.getD 0 []) ((Int32.toInt8 (nI b)).toInt32) d i) I L → sm_V x 0 0 T I L 7 [some (.ref 1000010), some (.int (nI b)), some (.int 0), some (.int (nI 4)), some (.int ((Int32.toInt8 (nI b)).toInt32)), some (.int (nI i))] [] := by
    intro d
    induction d with
    | zero =>
      intro i e hF
      have : i = 4 := by omega
      subst this
      exact u_J1_indexOfChar_4cfef_aske_7 hx ⟨fun _ => hF, fun q => absurd (nI_le (a := 4) (b := 4) (by omega) (by omega)) q⟩
    | succ d ih =>
      intro i e hF
      rw [ixR] at hF
      refine u_J1_indexOfChar_4cfef_aske_7 hx ⟨fun q => absurd q (nI_ge (b := 4) (by omega) (by omega)), fun _ => ⟨vp_in_nI (N := 4) (by omega) (by decide), ?_⟩⟩
      rw [nI_clamp (by omega), nI_1]
      refine ⟨fun q => ?_, fun q => ?_⟩
      · rw [if_neg q] at hF; exact ih (i + 1) (by omega) hF
      · rw [if_pos q] at hF; exact hF
  exact key 4 0 (by omega) h
theorem ix_a_all : ∀ b, b < 256 → ixR (sm_xbyt.getD 1 []) ((Int32.toInt8 (nI b)).toInt32) 1 0 = oN (itA (nI b)) := by decide +kernel
theorem s_ix_a {F : Int32 → sm_MI → sm_ML → Prop} {b : Nat} (hb : b < 256) (h : F (oN (itA (nI b))) I L) : sm_CI (n + 3) mJ0_indexOf_0f7a4 T I L [.ref 1000001, .int (((Int32.toUInt32 (nI b)) % 65536).toInt32)] F := by
  rw [ch_nat b hb]
  refine c_J0_indexOf_0f7a4_a (c_J0_indexOf_7cf53_a (c_J0_isLatin1_aae02_a ⟨fun q => absurd q (by decide), fun _ => c_J0_length_8abf5_a (c_J0_coder_7d493_a (c_J1_indexOf_4cfef_a (c_J1_canEncode_9a6ad ⟨fun q => absurd q (nI_pos (by omega)), fun _ => ⟨fun q => absurd q (nI_nlt (a := 255) (b := b) (by omega) (by decide)), fun _ => ⟨fun _ => ⟨fun _ => c_J1_indexOfChar_4cfef_a (fun x hx => ?_), fun q => absurd (by decide) q⟩, fun q => absurd q (by decide)⟩⟩⟩)))⟩))
  rw [← ix_a_all b hb] at h
  have key : ∀ d i, i + d = 1 → F (ixR (sm_xbyt.getD 1 []) ((Int32.toInt8 (nI b)).toInt32) d i) I L → sm_V x 0 0 T I L 7 [some (.ref 1000011), some (.int (nI b)), some (.int 0), some (.int (nI 1)), some (.int ((Int32.toInt8 (nI b)).toInt32)), some (.int (nI i))] [] := by
    intro d
    induction d with
    | zero =>
      intro i e hF
      have : i = 1 := by omega
      subst this
      exact u_J1_indexOfChar_4cfef_a_7 hx ⟨fun _ => hF, fun q => absurd (nI_le (a := 1) (b := 1) (by omega) (by omega)) q⟩
    | succ d ih =>
      intro i e hF
      rw [ixR] at hF
      refine u_J1_indexOfChar_4cfef_a_7 hx ⟨fun q => absurd q (nI_ge (b := 1) (by omega) (by omega)), fun _ => ⟨vp_in_nI (N := 1) (by omega) (by decide), ?_⟩⟩
      rw [nI_clamp (by omega), nI_1]
      refine ⟨fun q => ?_, fun q => ?_⟩
      · rw [if_neg q] at hF; exact ih (i + 1) (by omega) hF
      · rw [if_pos q] at hF; exact hF
  exact key 1 0 (by omega) h
theorem ix_pg_all : ∀ b, b < 256 → ixR (sm_xbyt.getD 2 []) ((Int32.toInt8 (nI b)).toInt32) 2 0 = oN (itM (nI b)) := by decide +kernel
theorem s_ix_pg {F : Int32 → sm_MI → sm_ML → Prop} {b : Nat} (hb : b < 256) (h : F (oN (itM (nI b))) I L) : sm_CI (n + 3) mJ0_indexOf_0f7a4 T I L [.ref 1000002, .int (((Int32.toUInt32 (nI b)) % 65536).toInt32)] F := by
  rw [ch_nat b hb]
  refine c_J0_indexOf_0f7a4_pg (c_J0_indexOf_7cf53_pg (c_J0_isLatin1_aae02_pg ⟨fun q => absurd q (by decide), fun _ => c_J0_length_8abf5_pg (c_J0_coder_7d493_pg (c_J1_indexOf_4cfef_pg (c_J1_canEncode_9a6ad ⟨fun q => absurd q (nI_pos (by omega)), fun _ => ⟨fun q => absurd q (nI_nlt (a := 255) (b := b) (by omega) (by decide)), fun _ => ⟨fun _ => ⟨fun _ => c_J1_indexOfChar_4cfef_pg (fun x hx => ?_), fun q => absurd (by decide) q⟩, fun q => absurd q (by decide)⟩⟩⟩)))⟩))
  rw [← ix_pg_all b hb] at h
  have key : ∀ d i, i + d = 2 → F (ixR (sm_xbyt.getD 2 []) ((Int32.toInt8 (nI b)).toInt32) d i) I L → sm_V x 0 0 T I L 7 [some (.ref 1000012), some (.int (nI b)), some (.int 0), some (.int (nI 2)), some (.int ((Int32.toInt8 (nI b)).toInt32)), some (.int (nI i))] [] := by
    intro d
    induction d with
    | zero =>
      intro i e hF
      have : i = 2 := by omega
      subst this
      exact u_J1_indexOfChar_4cfef_pg_7 hx ⟨fun _ => hF, fun q => absurd (nI_le (a := 2) (b := 2) (by omega) (by omega)) q⟩
    | succ d ih =>
      intro i e hF
      rw [ixR] at hF
      refine u_J1_indexOfChar_4cfef_pg_7 hx ⟨fun q => absurd q (nI_ge (b := 2) (by omega) (by omega)), fun _ => ⟨vp_in_nI (N := 2) (by omega) (by decide), ?_⟩⟩
      rw [nI_clamp (by omega), nI_1]
      refine ⟨fun q => ?_, fun q => ?_⟩
      · rw [if_neg q] at hF; exact ih (i + 1) (by omega) hF
      · rw [if_pos q] at hF; exact hF
  exact key 2 0 (by omega) h
theorem ix_nhsqmw_all : ∀ b, b < 256 → ixR (sm_xbyt.getD 3 []) ((Int32.toInt8 (nI b)).toInt32) 6 0 = oN (ltO (nI b)) := by decide +kernel
theorem s_ix_nhsqmw {F : Int32 → sm_MI → sm_ML → Prop} {b : Nat} (hb : b < 256) (h : F (oN (ltO (nI b))) I L) : sm_CI (n + 3) mJ0_indexOf_0f7a4 T I L [.ref 1000003, .int (((Int32.toUInt32 (nI b)) % 65536).toInt32)] F := by
  rw [ch_nat b hb]
  refine c_J0_indexOf_0f7a4_nhsqmw (c_J0_indexOf_7cf53_nhsqmw (c_J0_isLatin1_aae02_nhsqmw ⟨fun q => absurd q (by decide), fun _ => c_J0_length_8abf5_nhsqmw (c_J0_coder_7d493_nhsqmw (c_J1_indexOf_4cfef_nhsqmw (c_J1_canEncode_9a6ad ⟨fun q => absurd q (nI_pos (by omega)), fun _ => ⟨fun q => absurd q (nI_nlt (a := 255) (b := b) (by omega) (by decide)), fun _ => ⟨fun _ => ⟨fun _ => c_J1_indexOfChar_4cfef_nhsqmw (fun x hx => ?_), fun q => absurd (by decide) q⟩, fun q => absurd q (by decide)⟩⟩⟩)))⟩))
  rw [← ix_nhsqmw_all b hb] at h
  have key : ∀ d i, i + d = 6 → F (ixR (sm_xbyt.getD 3 []) ((Int32.toInt8 (nI b)).toInt32) d i) I L → sm_V x 0 0 T I L 7 [some (.ref 1000013), some (.int (nI b)), some (.int 0), some (.int (nI 6)), some (.int ((Int32.toInt8 (nI b)).toInt32)), some (.int (nI i))] [] := by
    intro d
    induction d with
    | zero =>
      intro i e hF
      have : i = 6 := by omega
      subst this
      exact u_J1_indexOfChar_4cfef_nhsqmw_7 hx ⟨fun _ => hF, fun q => absurd (nI_le (a := 6) (b := 6) (by omega) (by omega)) q⟩
    | succ d ih =>
      intro i e hF
      rw [ixR] at hF
      refine u_J1_indexOfChar_4cfef_nhsqmw_7 hx ⟨fun q => absurd q (nI_ge (b := 6) (by omega) (by omega)), fun _ => ⟨vp_in_nI (N := 6) (by omega) (by decide), ?_⟩⟩
      rw [nI_clamp (by omega), nI_1]
      refine ⟨fun q => ?_, fun q => ?_⟩
      · rw [if_neg q] at hF; exact ih (i + 1) (by omega) hF
      · rw [if_pos q] at hF; exact hF
  exact key 6 0 (by omega) h
end
/-- values written one behind the other -/
def wrG (m : Nat × Nat → Int32) (f : Nat → Int32) (k : Nat) : cdL → Nat → Int32
  | [] => f
  | q :: cs => wrG m (upd f k (m q)) (k + 1) cs
theorem wrG_app {m : Nat × Nat → Int32} {b : cdL} : ∀ (a : cdL) (f : Nat → Int32) (k : Nat), wrG m f k (a ++ b) = wrG m (wrG m f k a) (k + a.length) b
  | [], f, k => rfl
  | q :: a, f, k => by
    rw [List.cons_append, wrG, wrG_app a, wrG, List.length_cons, show k + 1 + a.length = k + (a.length + 1) by omega]
theorem wrG_lo {m : Nat × Nat → Int32} : ∀ (cs : cdL) (f : Nat → Int32) (k j : Nat), j < k → wrG m f k cs j = f j
  | [], f, k, j, _ => rfl
  | q :: cs, f, k, j, hj => by rw [wrG, wrG_lo cs _ _ _ (by omega), pk_un (by omega)]
theorem wrG_at {m : Nat × Nat → Int32} : ∀ (cs : cdL) (f : Nat → Int32) (k j : Nat), j < cs.length → wrG m f k cs (k + j) = m (cs.getD j (0, 0))
  | q :: cs, f, k, 0, _ => by rw [wrG, wrG_lo cs _ _ _ (by omega), Nat.add_zero, pk_us]; rfl
  | q :: cs, f, k, j + 1, hj => by
    rw [List.length_cons] at hj
    rw [wrG, show k + (j + 1) = k + 1 + j by omega, wrG_at cs _ _ _ (by omega)]
    rfl
def mSg (q : Nat × Nat) : Int32 := sgC q.1
def mNv (q : Nat × Nat) : Int32 := nI q.2
/-- the rule reader at place p, k signs written -/
def rS (I : sm_MI) (p k : Nat) (f g : Nat → Int32) : sm_MI := fun a j => if a = 18 then (if j = 1 then nI p else if j = 4 then nI k else I 18 j) else if a = 20 then f j else if a = 22 then g j else I a j
theorem rS_p {I : sm_MI} {p p' k : Nat} {f g : Nat → Int32} : sm_uI (rS I p k f g) 18 1 (nI p') = rS I p' k f g := by
  funext a j
  unfold sm_uI rS
  by_cases h : a = 18
  · by_cases e : j = 1
    · simp [h, e]
    · simp [h, e]
  · simp [h]
theorem rS_k {I : sm_MI} {p k k' : Nat} {f g : Nat → Int32} : sm_uI (rS I p k f g) 18 4 (nI k') = rS I p k' f g := by
  funext a j
  unfold sm_uI rS
  by_cases h : a = 18
  · by_cases e : j = 4
    · subst e; simp [h]
    · simp [h, e]
  · simp [h]
theorem rS_f {I : sm_MI} {p k i : Nat} {f g : Nat → Int32} {v : Int32} : sm_uI (rS I p k f g) 20 i v = rS I p k (upd f i v) g := by
  funext a j
  unfold sm_uI rS upd
  by_cases h : a = 20
  · subst h; simp
  · simp [h]
theorem rS_g {I : sm_MI} {p k i : Nat} {f g : Nat → Int32} {v : Int32} : sm_uI (rS I p k f g) 22 i v = rS I p k f (upd g i v) := by
  funext a j
  unfold sm_uI rS upd
  by_cases h : a = 22
  · subst h; simp
  · simp [h]
/-- the class's tape -/
def CTp (h : Nat → Int32) (len : Nat) (I : sm_MI) : Prop := I 1 1 = nI len ∧ ∀ j, j < len → I 3 j = h j
/-- what the class does behind a reading -/
def cOK (F : Bool → sm_MI → sm_ML → Prop) (I : sm_MI) (L : sm_ML) (k : Nat) (f g : Nat → Int32) : PRt → Prop
  | .inl e => ∀ k' f' g', F false (rS I e k' f' g') L
  | .inr q => F true (rS I q.1 (k + q.2.1.length) (wrG mSg f k q.2.1) (wrG mNv g k q.2.1)) L
section
variable {n : Nat} {T : List sm_Sh} {I I' : sm_MI} {L L' : sm_ML} {h : Nat → Int32} {len p k dep : Nat} {f g : Nat → Int32}
theorem c_next {F : Int32 → sm_MI → sm_ML → Prop} (hB : sm_Bs T) (H : tpH h len) (hC : CTp h len I) (hp : p ≤ len) (hF : F (h (sk h len p)) (rS I (sk h len p) k f g) L) : sm_CI (n + 1) mX2_nextSign T (rS I p k f g) L [.ref 18] F := by
  have hl := H.1
  refine c_X2_nextSign_r hB (fun x hx => ?_)
  have key : ∀ d p, p + d = len → F (h (sk h len p)) (rS I (sk h len p) k f g) L → sm_V x 0 0 T (rS I p k f g) L 0 [some (.ref 18)] [] := by
    intro d
    induction d with
    | zero =>
      intro p e hF
      have hpl : p = len := by omega
      have e1 : (rS I p k f g) 1 1 = nI len := hC.1
      have e2 : (rS I p k f g) 18 1 = nI p := rfl
      have hm : h p = -1 := H.2.1 p (by omega)
      rw [sk_stop (by rw [hm]; decide), hm] at hF
      refine u_X2_nextSign_r_0 hB hx ⟨fun _ => ⟨fun _ => hF, fun q => absurd ?_ q⟩, fun q => absurd ?_ q⟩ <;> rw [e1, e2] <;> exact nI_le (by omega) (by omega)
    | succ d ih =>
      intro p e hF
      have e1 : (rS I p k f g) 1 1 = nI len := hC.1
      have e2 : (rS I p k f g) 18 1 = nI p := rfl
      have hno : ¬ nI len ≤ nI p := nI_ge (by omega) (by omega)
      have ec : (rS I p k f g) 3 p = h p := hC.2 p (by omega)
      refine u_X2_nextSign_r_0 hB hx ⟨fun q => absurd q (by rw [e1, e2]; exact hno), fun _ => ?_⟩
      rw [e2]
      refine s_at (t_2 hB) (t_3 hB) (by omega) (by decide) ?_
      rw [ec]
      refine ⟨fun q => ⟨fun z => absurd z (by rw [e1, e2]; exact hno), fun _ => ?_⟩, fun q => ?_⟩
      · rw [e2]
        refine s_at (t_2 hB) (t_3 hB) (by omega) (by decide) ?_
        rw [ec]
        rw [sk_stop q] at hF
        exact hF
      · rw [e2, nI_1, rS_p]
        refine ih (p + 1) (by omega) ?_
        rw [← sk_step H q]; exact hF
  exact key (len - p) p (by omega) hF
theorem c_sign {F : Int32 → sm_MI → sm_ML → Prop} (hB : sm_Bs T) (H : tpH h len) (hC : CTp h len I) (hp : p ≤ len) (hF : F (h p) (rS I p k f g) L) : sm_CI (n + 1) mX2_signHere T (rS I p k f g) L [.ref 18] F := by
  have hl := H.1
  have e1 : (rS I p k f g) 1 1 = nI len := hC.1
  have e2 : (rS I p k f g) 18 1 = nI p := rfl
  refine c_X2_signHere_r hB ⟨fun q => ?_, fun q => ?_⟩
  · rw [e1, e2] at q
    have := (nI_leI (by omega) (by omega)).mp q
    rw [H.2.1 p (by omega)] at hF
    exact hF
  · rw [e1, e2] at q
    have hlt : p < len := by
      rcases Nat.lt_or_ge p len with z | z
      · exact z
      · exact absurd (nI_le z (by omega)) q
    rw [e2]
    refine s_at (t_2 hB) (t_3 hB) (by omega) (by decide) ?_
    rw [show (rS I p k f g) 3 p = h p from hC.2 p hlt]
    exact hF
theorem c_goOn {F : sm_MI → sm_ML → Prop} (hB : sm_Bs T) (hF : F (rS I (p + 1) k f g) L) : sm_CV n mX2_goOn T (rS I p k f g) L [.ref 18] F := by
  refine c_X2_goOn_r hB ?_
  rw [show (rS I p k f g) 18 1 = nI p from rfl, nI_1, rS_p]
  exact hF
theorem c_take {F : Bool → sm_MI → sm_ML → Prop} {a : Int32} (hB : sm_Bs T) (H : tpH h len) (hC : CTp h len I) (hp : p ≤ len) (hy : h (sk h len p) = a → F true (rS I (sk h len p + 1) k f g) L) (hn : ¬ h (sk h len p) = a → F false (rS I (sk h len p) k f g) L) : sm_CZ (n + 2) mX2_take T (rS I p k f g) L [.ref 18, .int a] F := by
  refine c_X2_take_r hB (c_next hB H hC hp ⟨fun q => ?_, fun q => hn q⟩)
  rw [show (rS I (sk h len p) k f g) 18 1 = nI (sk h len p) from rfl, nI_1, rS_p]
  exact hy q
theorem c_write {F : sm_MI → sm_ML → Prop} {a b : Int32} (hB : sm_Bs T) (hk : k < 160) (hF : F (rS I p (k + 1) (upd f k a) (upd g k b)) L) : sm_CV (n + 1) mX5_write T (rS I p k f g) L [.ref 18, .int a, .int b] F := by
  refine c_X5_write hB ?_
  rw [show (rS I p k f g) 18 4 = nI k from rfl]
  refine s_set (t_19 hB) (t_20 hB) hk (by decide) ?_
  rw [rS_f, show (rS I p k (upd f k a) g) 18 4 = nI k from rfl]
  refine s_set (t_21 hB) (t_22 hB) hk (by decide) ?_
  rw [rS_g, show (rS I p k (upd f k a) (upd g k b)) 18 4 = nI k from rfl, nI_1, rS_k]
  exact hF
theorem c_isDigit {F : Bool → sm_MI → sm_ML → Prop} {c : Int32} (hB : sm_Bs T) (hF : F (isD c) I L) : sm_CZ n mX5_isDigit T I L [.int c] F :=
  c_X5_isDigit hB ⟨fun q => by unfold isD at hF; rw [if_pos q] at hF; exact hF, fun q => ⟨fun r => by unfold isD at hF; rw [if_neg q, if_pos r] at hF; exact hF, fun r => by unfold isD at hF; rw [if_neg q, if_neg r] at hF; exact hF⟩⟩
theorem c_isRelation {F : Bool → sm_MI → sm_ML → Prop} {c : Int32} (hB : sm_Bs T) (hF : F (isR c) I L) : sm_CZ n mX5_isRelation T I L [.int c] F :=
  c_X5_isRelation hB ⟨fun q => by unfold isR at hF; rw [if_pos q] at hF; exact hF, fun q => ⟨fun r => by unfold isR at hF; rw [if_neg q, if_pos r] at hF; exact hF, fun r => ⟨fun y => by unfold isR at hF; rw [if_neg q, if_neg r, if_neg y] at hF; exact hF, fun y => by unfold isR at hF; rw [if_neg q, if_neg r, if_pos y] at hF; exact hF⟩⟩⟩
theorem c_readNumber {F : Bool → sm_MI → sm_ML → Prop} (hB : sm_Bs T) (H : tpH h len) (hC : CTp h len I) (hp : p ≤ len) (hd : isD (h p) = true) (hk : k ≤ p) (hF : cOK F I L k f g (numP h p)) : sm_CZ (n + 2) mX5_readNumber T (rS I p k f g) L [.ref 18] F := by
  have hl := H.1
  obtain ⟨n1, n2⟩ := nmF_lt H hd
  refine c_X5_readNumber hB (fun x hx => ?_)
  -- the number's end
  have fin : ∀ v, (nmF h 4 p 0) = ((nmF h 4 p 0).1, v) → sm_CV (n + 1) mX5_write T (rS I (nmF h 4 p 0).1 k f g) L [.ref 18, .int 48, .int (nI v)] (fun I1 L1 => sm_CI (n + 1) mX2_signHere T I1 L1 [.ref 18] (fun r3 I2 L2 => sm_CZ (n + 1) mX5_isDigit T I2 L2 [.int r3] (fun r5 I4 L4 => (r5 = true → F false I4 L4) ∧ (r5 = false → F true I4 L4)))) := by
    intro v hv
    refine c_write hB (by omega) (c_sign hB H hC n2 (c_isDigit hB ⟨fun q => ?_, fun q => ?_⟩))
    · unfold numP at hF
      rw [if_pos q] at hF
      exact hF _ _ _
    · unfold numP at hF
      rw [if_neg (by rw [q]; decide), hv] at hF
      exact hF
  have key : ∀ d i q v, i + d = 4 → q ≤ len → nmF h d q v = nmF h 4 p 0 → sm_V x 0 0 T (rS I q k f g) L 4 [some (.ref 18), some (.int (nI v)), some (.int (nI i))] [] := by
    intro d
    induction d with
    | zero =>
      intro i q v e hq en
      have : i = 4 := by omega
      subst this
      refine u_X5_readNumber_4 hB hx ⟨fun _ => ?_, fun z => absurd (nI_le (a := 4) (b := 4) (by omega) (by omega)) z⟩
      have e1 : (nmF h 4 p 0).1 = q := by rw [← en]; rfl
      have e2 : nmF h 4 p 0 = ((nmF h 4 p 0).1, v) := by rw [← en]; rfl
      rw [← e1]
      exact fin v e2
    | succ d ih =>
      intro i q v e hq en
      refine u_X5_readNumber_4 hB hx ⟨fun z => absurd z (nI_ge (b := 4) (by omega) (by omega)), fun _ => c_sign hB H hC hq (c_isDigit hB ⟨fun z => ?_, fun z => c_sign hB H hC hq (c_goOn hB ?_)⟩)⟩
      · have e1 : nmF h (d + 1) q v = (q, v) := by rw [nmF, if_neg (by rw [z]; decide)]
        rw [e1] at en
        have e3 : (nmF h 4 p 0).1 = q := by rw [← en]
        have e4 : nmF h 4 p 0 = ((nmF h 4 p 0).1, v) := by rw [← en]
        rw [← e3]
        exact fin v e4
      · have hlt : q < len := H.lt (fun y => by rw [y] at z; exact absurd z (by decide))
        obtain ⟨c, c0, c1, ec⟩ := H.2.2 q hlt
        have z' := isD_iff.mp z
        have hc48 : 48 ≤ c := by
          rcases Nat.lt_or_ge c 48 with y | y
          · exact absurd (by rw [ec]; exact nI_lt (b := 48) y (by decide)) z'.1
          · exact y
        have ev : ((10 : Int32) * nI v + h q) - 48 = nI (10 * v + (h q).toNatClampNeg - 48) := by
          have e1 : (10 : Int32) * nI v = nI (10 * v) := pk_mul 10 v
          rw [ec, nI_clamp (by omega), e1, nI_add]
          exact pk_sub (a := 10 * v + c) (b := 48) (by omega)
        rw [ev, nI_1]
        refine ih (i + 1) (q + 1) _ (by omega) (by omega) ?_
        rw [← en, nmF, if_pos z]
  exact key 4 0 p 0 (by omega) hp rfl
/-- the element's contract -/
def cEl (T : List sm_Sh) (I : sm_MI) (L : sm_ML) (len n : Nat) (md : sm_MD) (args : List Value) (el : Nat → PRt) : Prop := ∀ (F : Bool → sm_MI → sm_ML → Prop) (p k : Nat) (f g : Nat → Int32), p ≤ len → k ≤ p → cOK F I L k f g (el p) → sm_CZ n md T (rS I p k f g) L (.ref 18 :: args) F
theorem kd_none {kd : Int32 → Option Nat} {z : Bool} (hk : kdOK z kd) : kd (-1) = none := by
  cases e : kd (-1) with
  | none => rfl
  | some k => exact absurd rfl (hk _ _ e).1
theorem loop_end {el : Nat → PRt} {kd : Int32 → Option Nat} {z : Bool} {d r : Nat} {cs : cdL} {v : vfn} (H : tpH h len) (hk : kdOK z kd) (hr : r ≤ len) (hd : len ≤ r + d) (hn : kd (h (sk h len r)) = none) : loopP h len el kd d r cs v = .inr (sk h len r, cs, v) := by
  cases d with
  | zero =>
    have : h r = -1 := H.2.1 r (by omega)
    rw [sk_stop (by rw [this]; decide)]
    rfl
  | succ d => rw [loopP, hn]
theorem loop_go {el : Nat → PRt} {kd : Int32 → Option Nat} {z : Bool} {d r k2 : Nat} {cs : cdL} {v : vfn} (H : tpH h len) (hk : kdOK z kd) (hr : r ≤ len) (hd : len ≤ r + d) (hn : kd (h (sk h len r)) = some k2) : ∃ d', d = d' + 1 ∧ sk h len r < len ∧ loopP h len el kd d r cs v = (match el (sk h len r + 1) with
      | .inl e => .inl e
      | .inr q => loopP h len el kd d' q.1 (joinP k2 cs v q.2.1 q.2.2).1 (joinP k2 cs v q.2.1 q.2.2).2) := by
  have hlt := H.lt (hk _ _ hn).1
  cases d with
  | zero =>
    have : h r = -1 := H.2.1 r (by omega)
    have s1 := sk_ge (h := h) (len := len) r
    omega
  | succ d => exact ⟨d, rfl, hlt, by rw [loopP, hn]; cases el (sk h len r + 1) <;> rfl⟩
/-- one more element read: what stands then, and the code joined -/
theorem join_st {k2 : Nat} {cs cs' : cdL} {v v' : vfn} {k0 : Nat} {f0 g0 : Nat → Int32} : upd (wrG mSg (wrG mSg f0 k0 cs) (k0 + cs.length) cs') (k0 + cs.length + cs'.length) (sgC k2) = wrG mSg f0 k0 (joinP k2 cs v cs' v').1 ∧ upd (wrG mNv (wrG mNv g0 k0 cs) (k0 + cs.length) cs') (k0 + cs.length + cs'.length) 0 = wrG mNv g0 k0 (joinP k2 cs v cs' v').1 ∧ k0 + cs.length + cs'.length + 1 = k0 + (joinP k2 cs v cs' v').1.length := by
  refine ⟨?_, ?_, ?_⟩
  · show _ = wrG mSg f0 k0 (cs ++ cs' ++ [(k2, 0)])
    rw [wrG_app, wrG_app, List.length_append, show k0 + (cs.length + cs'.length) = k0 + cs.length + cs'.length by omega]
    rfl
  · show _ = wrG mNv g0 k0 (cs ++ cs' ++ [(k2, 0)])
    rw [wrG_app, wrG_app, List.length_append, show k0 + (cs.length + cs'.length) = k0 + cs.length + cs'.length by omega]
    rfl
  · show _ = k0 + (cs ++ cs' ++ [(k2, 0)]).length
    rw [List.length_append, List.length_append, List.length_singleton]; omega
theorem c_loopT {F : Bool → sm_MI → sm_ML → Prop} {x : sm_Cx} {el : Nat → PRt} {m k0 : Nat} {f0 g0 : Nat → Int32} (hB : sm_Bs T) (H : tpH h len) (hC : CTp h len I) (hx : sm_Ok x mX5_readTerm (n + 2) (sm_KZ T F)) (hel : cEl T I L len (n + 1) mX5_readAtom [.int (nI dep)] el) (hPK : ∀ p, p ≤ len → PK len p m false (el p)) :
    ∀ d i r cs v u3, i < r → r ≤ len → len ≤ r + d → k0 + cs.length ≤ r → cOK F I L k0 f0 g0 (loopP h len el kTm d r cs v) → sm_V x 0 0 T (rS I r (k0 + cs.length) (wrG mSg f0 k0 cs) (wrG mNv g0 k0 cs)) L 12 [some (.ref 18), some (.int (nI dep)), some (.int (nI i)), u3] [] := by
  have hl := H.1
  intro d
  induction d with
  | zero =>
    intro i r cs v u3 hi hr hd hk hF
    have hm : h r = -1 := H.2.1 r (by omega)
    have hs : sk h len r = r := sk_stop (by rw [hm]; decide)
    refine u_X5_readTerm_12 hB hx ⟨fun q => absurd q (nI_ge (b := 160) (by omega) (by omega)), fun _ => c_next hB H hC hr ?_⟩
    rw [hs, hm]
    exact ⟨fun q => absurd q (by decide), fun _ => ⟨fun q => absurd q (by decide), fun _ => hF⟩⟩
  | succ d ih =>
    intro i r cs v u3 hi hr hd hk hF
    have s1 := sk_ge (h := h) (len := len) r
    have s2 := sk_le (h := h) (len := len) hr
    refine u_X5_readTerm_12 hB hx ⟨fun q => absurd q (nI_ge (b := 160) (by omega) (by omega)), fun _ => c_next hB H hC hr ?_⟩
    have step : ∀ (c : Int32) (kk : Nat), h (sk h len r) = c → kTm c = some kk → sgC kk = c → sm_CV (n + 1) mX2_goOn T (rS I (sk h len r) (k0 + cs.length) (wrG mSg f0 k0 cs) (wrG mNv g0 k0 cs)) L [.ref 18] (fun I3 L3 => sm_CZ (n + 1) mX5_readAtom T I3 L3 [.ref 18, .int (nI dep)] (fun r5 I4 L4 => (r5 = true → sm_CV (n + 1) mX5_write T I4 L4 [.ref 18, .int c, .int 0] (fun I6 L6 => sm_V x 0 0 T I6 L6 12 [some (.ref 18), some (.int (nI dep)), some (.int (nI i + 1)), some (.int c)] [])) ∧ (r5 = false → F false I4 L4))) := by
      intro c kk hc hkd hsg
      obtain ⟨d', ed, hlt, eloop⟩ := loop_go (el := el) (cs := cs) (v := v) H kTm_ok hr hd (by rw [hc]; exact hkd)
      have ed' : d' = d := by omega
      subst ed'
      rw [eloop] at hF
      have hE := hPK (sk h len r + 1) (by omega)
      refine c_goOn hB (hel _ _ _ _ _ (by omega) (by omega) ?_)
      cases hq : el (sk h len r + 1) with
      | inl e =>
        rw [hq] at hF
        exact fun k' f' g' => ⟨fun z => absurd z (by decide), fun _ => hF k' f' g'⟩
      | inr q =>
        rw [hq] at hF hE
        obtain ⟨e1, e2, e3, _, _, _⟩ := hE
        obtain ⟨j1, j2, j3⟩ := join_st (k2 := kk) (cs := cs) (cs' := q.2.1) (v := v) (v' := q.2.2) (k0 := k0) (f0 := f0) (g0 := g0)
        refine ⟨fun _ => c_write hB (by omega) ?_, fun z => absurd z (by decide)⟩
        rw [← hsg, j1, j2, j3, nI_1]
        exact ih (i + 1) q.1 _ _ _ (by omega) e2 (by omega) (by omega) hF
    refine ⟨fun q => ?_, fun q => ⟨fun q2 => ?_, fun q2 => ?_⟩⟩
    · rw [q]; exact step 42 4 q rfl rfl
    · rw [q2]; exact step 47 5 q2 rfl rfl
    · rw [loop_end (z := false) H kTm_ok hr hd (by unfold kTm; rw [if_neg q, if_neg q2])] at hF
      exact hF
theorem c_loopS {F : Bool → sm_MI → sm_ML → Prop} {x : sm_Cx} {el : Nat → PRt} {m k0 : Nat} {f0 g0 : Nat → Int32} (hB : sm_Bs T) (H : tpH h len) (hC : CTp h len I) (hx : sm_Ok x mX5_readSum (n + 2) (sm_KZ T F)) (hel : cEl T I L len (n + 1) mX5_readTerm [.int (nI dep)] el) (hPK : ∀ p, p ≤ len → PK len p m false (el p)) :
    ∀ d i r cs v u3, i < r → r ≤ len → len ≤ r + d → k0 + cs.length ≤ r → cOK F I L k0 f0 g0 (loopP h len el kSg d r cs v) → sm_V x 0 0 T (rS I r (k0 + cs.length) (wrG mSg f0 k0 cs) (wrG mNv g0 k0 cs)) L 12 [some (.ref 18), some (.int (nI dep)), some (.int (nI i)), u3] [] := by
  have hl := H.1
  intro d
  induction d with
  | zero =>
    intro i r cs v u3 hi hr hd hk hF
    have hm : h r = -1 := H.2.1 r (by omega)
    have hs : sk h len r = r := sk_stop (by rw [hm]; decide)
    refine u_X5_readSum_12 hB hx ⟨fun q => absurd q (nI_ge (b := 160) (by omega) (by omega)), fun _ => c_next hB H hC hr ?_⟩
    rw [hs, hm]
    exact ⟨fun q => absurd q (by decide), fun _ => ⟨fun q => absurd q (by decide), fun _ => hF⟩⟩
  | succ d ih =>
    intro i r cs v u3 hi hr hd hk hF
    have s1 := sk_ge (h := h) (len := len) r
    have s2 := sk_le (h := h) (len := len) hr
    refine u_X5_readSum_12 hB hx ⟨fun q => absurd q (nI_ge (b := 160) (by omega) (by omega)), fun _ => c_next hB H hC hr ?_⟩
    have step : ∀ (c : Int32) (kk : Nat), h (sk h len r) = c → kSg c = some kk → sgC kk = c → sm_CV (n + 1) mX2_goOn T (rS I (sk h len r) (k0 + cs.length) (wrG mSg f0 k0 cs) (wrG mNv g0 k0 cs)) L [.ref 18] (fun I3 L3 => sm_CZ (n + 1) mX5_readTerm T I3 L3 [.ref 18, .int (nI dep)] (fun r5 I4 L4 => (r5 = true → sm_CV (n + 1) mX5_write T I4 L4 [.ref 18, .int c, .int 0] (fun I6 L6 => sm_V x 0 0 T I6 L6 12 [some (.ref 18), some (.int (nI dep)), some (.int (nI i + 1)), some (.int c)] [])) ∧ (r5 = false → F false I4 L4))) := by
      intro c kk hc hkd hsg
      obtain ⟨d', ed, hlt, eloop⟩ := loop_go (el := el) (cs := cs) (v := v) H kSg_ok hr hd (by rw [hc]; exact hkd)
      have ed' : d' = d := by omega
      subst ed'
      rw [eloop] at hF
      have hE := hPK (sk h len r + 1) (by omega)
      refine c_goOn hB (hel _ _ _ _ _ (by omega) (by omega) ?_)
      cases hq : el (sk h len r + 1) with
      | inl e =>
        rw [hq] at hF
        exact fun k' f' g' => ⟨fun z => absurd z (by decide), fun _ => hF k' f' g'⟩
      | inr q =>
        rw [hq] at hF hE
        obtain ⟨e1, e2, e3, _, _, _⟩ := hE
        obtain ⟨j1, j2, j3⟩ := join_st (k2 := kk) (cs := cs) (cs' := q.2.1) (v := v) (v' := q.2.2) (k0 := k0) (f0 := f0) (g0 := g0)
        refine ⟨fun _ => c_write hB (by omega) ?_, fun z => absurd z (by decide)⟩
        rw [← hsg, j1, j2, j3, nI_1]
        exact ih (i + 1) q.1 _ _ _ (by omega) e2 (by omega) (by omega) hF
    refine ⟨fun q => ?_, fun q => ⟨fun q2 => ?_, fun q2 => ?_⟩⟩
    · rw [q]; exact step 43 2 q rfl rfl
    · rw [q2]; exact step 45 3 q2 rfl rfl
    · rw [loop_end (z := false) H kSg_ok hr hd (by unfold kSg; rw [if_neg q, if_neg q2])] at hF
      exact hF
theorem c_term {el : Nat → PRt} {m : Nat} (hB : sm_Bs T) (H : tpH h len) (hC : CTp h len I) (hel : cEl T I L len (n + 1) mX5_readAtom [.int (nI dep)] el) (hPK : ∀ p, p ≤ len → PK len p m false (el p)) : cEl T I L len (n + 2) mX5_readTerm [.int (nI dep)] (fun p => goP h len el kTm (el p)) := by
  intro F p k f g hp hk hF
  refine c_X5_readTerm hB (fun x hx => hel _ _ _ _ _ hp hk ?_)
  have hE := hPK p hp
  have hF' : cOK F I L k f g (goP h len el kTm (el p)) := hF
  cases hq : el p with
  | inl e =>
    rw [hq] at hF'
    exact fun k' f' g' => ⟨fun z => absurd z (by decide), fun _ => hF' k' f' g'⟩
  | inr q =>
    rw [hq] at hF' hE
    obtain ⟨e1, e2, e3, _, _, _⟩ := hE
    exact ⟨fun _ => c_loopT hB H hC hx hel hPK (len - q.1) 0 q.1 q.2.1 q.2.2 none (by omega) e2 (by omega) (by omega) hF', fun z => absurd z (by decide)⟩
theorem c_sum {el : Nat → PRt} {m : Nat} (hB : sm_Bs T) (H : tpH h len) (hC : CTp h len I) (hel : cEl T I L len (n + 1) mX5_readTerm [.int (nI dep)] el) (hPK : ∀ p, p ≤ len → PK len p m false (el p)) : cEl T I L len (n + 2) mX5_readSum [.int (nI dep)] (fun p => goP h len el kSg (el p)) := by
  intro F p k f g hp hk hF
  refine c_X5_readSum hB (fun x hx => hel _ _ _ _ _ hp hk ?_)
  have hE := hPK p hp
  have hF' : cOK F I L k f g (goP h len el kSg (el p)) := hF
  cases hq : el p with
  | inl e =>
    rw [hq] at hF'
    exact fun k' f' g' => ⟨fun z => absurd z (by decide), fun _ => hF' k' f' g'⟩
  | inr q =>
    rw [hq] at hF' hE
    obtain ⟨e1, e2, e3, _, _, _⟩ := hE
    exact ⟨fun _ => c_loopS hB H hC hx hel hPK (len - q.1) 0 q.1 q.2.1 q.2.2 none (by omega) e2 (by omega) (by omega) hF', fun z => absurd z (by decide)⟩
theorem c_cls {F : Bool → sm_MI → sm_ML → Prop} {e : Int32} {P : PRt} {m q0 : Nat} {z : Bool} (hB : sm_Bs T) (H : tpH h len) (hC : CTp h len I) (hE : PK len q0 m z P) (hF : cOK F I L k f g (clsP h len e P)) : cOK (fun r13 I12 L12 => (r13 = false → F false I12 L12) ∧ (r13 = true → sm_CZ (n + 2) mX2_take T I12 L12 [.ref 18, .int e] (fun r15 I14 L14 => (r15 = false → F false I14 L14) ∧ (r15 = true → F true I14 L14)))) I L k f g P := by
  cases P with
  | inl a => exact fun k' f' g' => ⟨fun _ => hF k' f' g', fun y => absurd y (by decide)⟩
  | inr q =>
    obtain ⟨e1, e2, e3, _, _, _⟩ := hE
    refine ⟨fun y => absurd y (by decide), fun _ => c_take hB H hC e2 (fun y => ⟨fun w => absurd w (by decide), fun _ => ?_⟩) (fun y => ⟨fun _ => ?_, fun w => absurd w (by decide)⟩)⟩
    · rw [clsP, if_pos y] at hF; exact hF
    · rw [clsP, if_neg y] at hF; exact hF _ _ _
theorem c_atom {lv : Nat} (hB : sm_Bs T) (H : tpH h len) (hC : CTp h len I) (hlv : lv ≤ 6) (hin : ∀ fi, inK h len lv = some fi → cEl T I L len (n + 3) mX5_readSum [.int (nI (7 - lv))] fi) : cEl T I L len (n + 4) mX5_readAtom [.int (nI (6 - lv))] (atomP h len (inK h len lv)) := by
  have hl := H.1
  intro F p k f g hp hk hF
  have s1 := sk_ge (h := h) (len := len) p
  have s2 := sk_le (h := h) (len := len) hp
  have PKs := fun j => PK_sum H j
  refine c_X5_readAtom hB (c_next hB H hC hp ⟨fun q => c_isDigit hB ⟨fun q2 => ⟨fun q3 => ?_, fun q3 => ?_⟩, fun q2 => ?_⟩, fun q => ⟨fun q2 => ?_, fun q2 => ?_⟩⟩)
  · obtain ⟨b, b0, b1, eb⟩ := H.2.2 (sk h len p) (H.lt q3)
    have hlt := H.lt q3
    have q2' : ¬ isD (h (sk h len p)) = true := by rw [q2]; decide
    unfold atomP at hF
    rw [if_neg q, if_neg q2'] at hF
    rw [eb]
    refine s_ix_nhsqmw b1 ?_
    rw [← eb]
    cases hlo : ltO (h (sk h len p)) with
    | none =>
      rw [hlo] at hF
      exact ⟨fun y => absurd rfl y, fun _ => hF _ _ _⟩
    | some l =>
      rw [hlo] at hF
      obtain ⟨l1, l2⟩ := ltO_lt hlo
      refine ⟨fun _ => c_goOn hB (c_write hB (by omega) ?_), fun y => absurd y (nI_m1 (by omega))⟩
      exact hF
  · have q2' : ¬ isD (h (sk h len p)) = true := by rw [q2]; decide
    unfold atomP at hF
    rw [if_neg q, if_neg q2', q3] at hF
    exact hF _ _ _
  · unfold atomP at hF
    rw [if_neg q, if_pos q2] at hF
    exact c_readNumber hB H hC s2 q2 (by omega) hF
  · unfold atomP at hF
    rw [if_pos q] at hF
    have hlt := H.lt (p := sk h len p) (by rw [q]; decide)
    cases lv with
    | zero => exact absurd q2 (by decide)
    | succ lv =>
      have hF' : cOK F I L k f g (clsP h len 93 (sumK h len lv (sk h len p + 1))) := hF
      have e7 : nI (6 - (lv + 1)) + 1 = nI (7 - (lv + 1)) := by rw [nI_1]; exact congrArg nI (by omega)
      rw [e7]
      refine c_goOn hB (hin _ rfl _ _ _ _ _ (by omega) (by omega) ?_)
      exact c_cls (n := n + 1) hB H hC ((PKs lv).2.2 _ (by omega)) hF'
  · cases lv with
    | zero =>
      unfold atomP at hF
      rw [if_pos q] at hF
      exact hF _ _ _
    | succ lv => exact absurd (nI_lt (a := 6 - (lv + 1)) (b := 6) (by omega) (by decide)) q2
/-- sums, with lv brackets left -/
theorem c_sumK (hB : sm_Bs T) (H : tpH h len) (hC : CTp h len I) : ∀ lv, lv ≤ 6 → cEl T I L len (n + 3 * lv + 6) mX5_readSum [.int (nI (6 - lv))] (sumK h len lv)
  | 0, hlv => c_sum (n := n + 4) (m := 2 + 2 * 0) hB H hC (c_term (n := n + 3) (m := 1 + 2 * 0) hB H hC (c_atom (n := n) (lv := 0) hB H hC hlv (fun fi e => by cases e)) (fun p hp => PK_atom H (PK_sum H 0).1 hp)) (fun p hp => (PK_sum H 0).2.1 p hp)
  | lv + 1, hlv => by
    have ih := c_sumK hB H hC lv (by omega)
    refine c_sum (n := n + 3 * (lv + 1) + 4) (m := 2 + 2 * (lv + 1)) hB H hC (c_term (n := n + 3 * (lv + 1) + 3) (m := 1 + 2 * (lv + 1)) hB H hC (c_atom (n := n + 3 * (lv + 1)) (lv := lv + 1) hB H hC hlv (fun fi e => ?_)) (fun p hp => PK_atom H (PK_sum H (lv + 1)).1 hp)) (fun p hp => (PK_sum H (lv + 1)).2.1 p hp)
    have e2 : sumP h len (inK h len lv) = fi := Option.some.inj e
    rw [← e2, show n + 3 * (lv + 1) + 3 = n + 3 * lv + 6 by omega, show 7 - (lv + 1) = 6 - lv by omega]
    exact ih
end
