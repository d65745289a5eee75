section
variable {n : Nat} {T : List sm_Sh} {I : sm_MI} {L : sm_ML} {E : Nat → Nat → Int32} {H S N R ν w : Nat} {W : Nat → (Nat → Int32) → Int32} {I0 : sm_MI}
theorem s_m139 {F : Int32 → sm_MI → sm_ML → Prop} {x : sm_Cx} {a2 a4 a5 a6 a7 : Int32} {fv : Bool} {ka kb lb : Nat} (hB : sm_Bs T) (hx : sm_Ok x mX12_walk (n + 6) (sm_KI T F)) (hE : mE E H S N I) (h8 : N ≤ 8) (hwS : w < S) (hw : w < 5) (hka : ka < 8) (hkb : kb < 8) (hlb : lb < 256) (hlk : E 0 0 = nI lb)
    (hno : fv = true ∨ nI w = E 0 1 → ka = kb)
    (h : ∀ I' : sm_MI, (∀ k, k ≠ 92 → I' k = I k) → mU N (I' 92) = crU (mU N (I 92)) (crO (E 0 0) N (decide (E 4 w = 1)) (nI ka) (nI kb) (mU N (I 92))) (nI kb) → F (oI (crO (E 0 0) N (decide (E 4 w = 1)) (nI ka) (nI kb) (mU N (I 92)))) I' L) :
    sm_V x 0 0 T I L 139 [some (.ref 76), some (.int (nI w)), some (.int a2), some (.int (sm_z fv)), some (.int a4), some (.int a5), some (.int a6), some (.int a7), some (.int (nI ka)), none, none] [.int (nI kb)] := by
  obtain ⟨⟨a1, _, a3, _, _⟩, b, c1, c2⟩ := hE
  obtain ⟨b1, b2, b3, b4, b5, b6⟩ := b w hwS
  have hnone : crO (E 0 0) N (decide (E 4 w = 1)) (nI ka) (nI kb) (mU N (I 92)) = none → F (-1) I L := fun e => by
    have := h I (fun _ _ => rfl) (by rw [e]; rfl)
    rw [e] at this
    exact this
  refine u_X12_walk_139 hB hx (s_m_takenFrom hB a3 h8 hw ?_)
  rw [b4, c2, c1, hlk]
  refine ⟨fun q => hnone (crO_none (Or.inr (Or.inl (by rw [hno (Or.inl q)])))), fun q => ⟨fun r => hnone (crO_none (Or.inr (Or.inl (by rw [hno (Or.inr r)])))), fun r => ⟨fun e => hnone (crO_none (Or.inr (Or.inl e))), fun e => ⟨fun g => hnone (crO_none (Or.inl ?_)), fun g => s_m_has hB hlb hka ⟨fun z => hnone (crO_none (Or.inr (Or.inr (Or.inl (by rw [hlk]; exact of_decide_eq_true z))))), fun z => ?_⟩⟩⟩⟩⟩
  · by_cases h0 : thS (mU N (I 92)) (nI ka) N = 0
    · exact h0
    · rw [if_neg h0] at g
      have ht := (thg_in h8 h0 (decide (E 4 w = 1))).1
      have := congrArg Int32.toInt g
      rw [nI_toInt (by omega)] at this
      have e1 : (-1 : Int32).toInt = -1 := by decide
      omega
  · have h0 : thS (mU N (I 92)) (nI ka) N ≠ 0 := fun h0 => g (by rw [if_pos h0])
    rw [if_neg h0, c1, hlk]
    refine s_m_has hB hlb hkb ⟨fun y => ?_, fun y => hnone (crO_none (Or.inr (Or.inr (Or.inr (by rw [hlk]; exact of_decide_eq_true y)))))⟩
    have ht := (thg_in h8 h0 (decide (E 4 w = 1))).1
    have hsome : crO (E 0 0) N (decide (E 4 w = 1)) (nI ka) (nI kb) (mU N (I 92)) = some (thg (decide (E 4 w = 1)) (thS (mU N (I 92)) (nI ka) N)) := by
      unfold crO
      rw [if_neg h0, if_neg e, if_neg (by rw [hlk]; exact of_decide_eq_false z), if_neg (by rw [hlk]; exact of_decide_eq_false y)]
    rw [hsome] at h
    refine ⟨vp_in_nI (by omega) (by decide), ?_⟩
    rw [nI_clamp (by omega)]
    refine h _ (fun k hk => sm_uI_ne hk) ?_
    rw [sm_uI_at, mU_upd _ ht]
    rfl
theorem s_m79 {F : Int32 → sm_MI → sm_ML → Prop} {x : sm_Cx} {a2 a5 st : Int32} {fv : Bool} {lb : Nat} (hB : sm_Bs T) (hx : sm_Ok x mX12_walk (n + 6) (sm_KI T F)) (hV : vE E H S N R) (hE : mE E H S N I) (hw : w < S) (hlb : lb < 256) (hlk : E 0 0 = nI lb)
    (hno : fv = true ∨ nI w = E 0 1 → st = 0)
    (h : ∀ I' : sm_MI, (∀ k, k ≠ 92 → k ≠ 94 → I' k = I k) → I' 94 = upd (I 94) w st → mU N (I' 92) = crU (mU N (I 92)) (w_o E H N w st (mU N (I 92))) (w_b E H w st) → F (oI (w_o E H N w st (mU N (I 92)))) I' L) :
    sm_V x 0 0 T I L 79 [some (.ref 76), some (.int (nI w)), some (.int a2), some (.int (sm_z fv)), some (.int (E 3 w)), some (.int a5), none, none, none, none, none] [.int st] := by
  have hE' := hE
  obtain ⟨⟨a1, _, a3, _, _⟩, b, c1, c2⟩ := hE'
  obtain ⟨v1, v2, v3, v4, v5, v6⟩ := hV
  have hw5 : w < 5 := by omega
  obtain ⟨b1, b2, b3, b4, b5, b6⟩ := b w hw
  obtain ⟨⟨hk, hkH, hhome⟩, _⟩ := v6 w hw
  refine u_X12_walk_79 hB hx ⟨vp_in_nI hw5 (by decide), ?_⟩
  rw [nI_clamp (by omega)]
  have e89 : (sm_uI I 94 w st) 89 = I 89 := sm_uI_ne (by decide)
  have e76 : (sm_uI I 94 w st) 76 = I 76 := sm_uI_ne (by decide)
  have e92 : (sm_uI I 94 w st) 92 = I 92 := sm_uI_ne (by decide)
  refine s_m_of (k := 0) hB hw5 (by decide) ?_
  rw [e89, Nat.add_zero (4 * w), b1, e76, a1]
  refine s_FM (fun z => nI_ne0 v1 (by omega) z) ?_
  rw [qFM_nat v1 (by omega)]
  have hfm := fmN_lt (a := E 1 w + st) v1
  have hE94 : mE E H S N (sm_uI I 94 w st) := mE_fr (P := MW) hE (Fr.rf.u rfl) MW_MN
  have hsame : fv = true ∨ nI w = E 0 1 → fmN (E 1 w + st) H = hk := by
    intro q
    rw [hno q, hhome, Int32.add_zero, fmN_nat hkH (by omega)]
  have fin : ∀ I' : sm_MI, (∀ k, k ≠ 92 → I' k = (sm_uI I 94 w st) k) → mU N (I' 92) = crU (mU N (I 92)) (w_o E H N w st (mU N (I 92))) (w_b E H w st) → F (oI (w_o E H N w st (mU N (I 92)))) I' L := by
    intro I' f1 f2
    refine h I' (fun k g1 g2 => (f1 k g1).trans (sm_uI_ne g2)) ?_ f2
    rw [f1 94 (by decide), sm_uI_at]
  rw [hhome] at hfm hsame ⊢
  refine ⟨fun q => ⟨fun _ => ?_, fun r => absurd r q⟩, fun q => ⟨fun r => absurd q r, fun _ => ?_⟩⟩
  · refine s_m139 hB hx hE94 v4 hw hw5 (by omega) (by omega) hlb hlk (fun g => (hsame g).symm) (fun I' f1 f2 => ?_)
    have ea : nI hk = w_a E H w st := by unfold w_a; rw [if_neg q, hhome]
    have eb : nI (fmN (nI hk + st) H) = w_b E H w st := by unfold w_b; rw [if_neg q, hhome]
    rw [e92, eb, ea] at f2
    have := fin I' f1 f2
    unfold w_o at this
    rw [← ea, ← eb] at this
    rw [e92]
    exact this
  · refine s_m139 hB hx hE94 v4 hw hw5 (by omega) (by omega) hlb hlk (fun g => hsame g) (fun I' f1 f2 => ?_)
    have ea : nI (fmN (nI hk + st) H) = w_a E H w st := by unfold w_a; rw [if_pos q, hhome]
    have eb : nI hk = w_b E H w st := by unfold w_b; rw [if_pos q, hhome]
    rw [e92, ea, eb] at f2
    have := fin I' f1 f2
    unfold w_o at this
    rw [← ea, ← eb] at this
    rw [e92]
    exact this
theorem s_m55 {F : Int32 → sm_MI → sm_ML → Prop} {x : sm_Cx} {o st : Int32} {fv : Bool} {lb : Nat} (hB : sm_Bs T) (hx : sm_Ok x mX12_walk (n + 6) (sm_KI T F)) (hV : vE E H S N R) (hE : mE E H S N I) (hw : w < S) (hlb : lb < 256) (hlk : E 0 0 = nI lb)
    (hno : fv = true ∨ nI w = E 0 1 → st = 0) (hst : ownM E ν w o = st)
    (h : ∀ I' : sm_MI, (∀ k, k ≠ 92 → k ≠ 94 → I' k = I k) → I' 94 = upd (I 94) w st → mU N (I' 92) = crU (mU N (I 92)) (w_o E H N w st (mU N (I 92))) (w_b E H w st) → F (oI (w_o E H N w st (mU N (I 92)))) I' L) :
    sm_V x 0 0 T I L 55 [some (.ref 76), some (.int (nI w)), some (.int (nI ν)), some (.int (sm_z fv)), some (.int (E 3 w)), none, none, none, none, none, none] [.int o] := by
  have hE' := hE
  obtain ⟨⟨a1, _, a3, a4, a5⟩, b, c1, c2⟩ := hE'
  subst hst
  refine u_X12_walk_55 hB hx ⟨fun q => ?_, fun q => s_m_isFull hB ⟨fun r => ?_, fun r => ?_⟩⟩
  · have e : ownM E ν w o = o := by unfold ownM; rw [if_neg q]
    rw [e] at h hno
    exact s_m79 hB hx hV hE hw hlb hlk hno h
  · rw [a4, a5] at r
    have e : ownM E ν w o = o := by unfold ownM; rw [if_pos q, if_neg (by rw [r]; decide)]
    rw [e] at h hno
    exact s_m79 hB hx hV hE hw hlb hlk hno h
  · rw [a4, a5] at r
    have e : ownM E ν w o = -o := by unfold ownM; rw [if_pos q, if_pos r]
    rw [e] at h hno
    exact s_m79 hB hx hV hE hw hlb hlk hno h
theorem ownM_0 {E : Nat → Nat → Int32} {ν w : Nat} : ownM E ν w 0 = 0 := by
  unfold ownM
  split
  · split
    · decide
    · rfl
  · rfl
theorem ownM_no {E : Nat → Nat → Int32} {ν w : Nat} {o : Int32} (h : E 3 w ≠ 1) : ownM E ν w o = o := by
  unfold ownM
  rw [if_neg h]
theorem s_m_walk {F : Int32 → sm_MI → sm_ML → Prop} {fv : Bool} {lb : Nat} {s : Int32} (hB : sm_Bs T) (hR : mRL T W R I0) (hV : vE E H S N R) (hD : mD E H S N I0 I) (hw : w < S) (hlb : lb < 256) (hlk : E 0 0 = nI lb) (hfv : fv = true → E 3 w = 3) (hs : 0 < w → I 94 (w - 1) = s)
    (h : ∀ I' : sm_MI, Fr MW I I' → I' 94 = upd (I 94) w (strE E W N ν w fv s (mU N (I 92))) → mU N (I' 92) = crU (mU N (I 92)) (w_o E H N w (strE E W N ν w fv s (mU N (I 92))) (mU N (I 92))) (w_b E H w (strE E W N ν w fv s (mU N (I 92)))) → F (oI (w_o E H N w (strE E W N ν w fv s (mU N (I 92))) (mU N (I 92)))) I' L) :
    sm_CI (n + 6) mX12_walk T I L [.ref 76, .int (nI w), .int (nI ν), .int (sm_z fv)] F := by
  apply c_X12_walk hB
  intro x hx
  have hE := hD.1
  have hE' := hE
  obtain ⟨⟨a1, _, a3, a4, a5⟩, b, c1, c2⟩ := hE'
  have v3 := hV.2.2.1
  have hw5 : w < 5 := by omega
  obtain ⟨b1, b2, b3, b4, b5, b6⟩ := b w hw
  have fin : ∀ (I1 : sm_MI) (o : Int32), Fr MO I I1 → (fv = true ∨ nI w = E 0 1 → strE E W N ν w fv s (mU N (I 92)) = 0) → ownM E ν w o = strE E W N ν w fv s (mU N (I 92)) →
      sm_V x 0 0 T I1 L 55 [some (.ref 76), some (.int (nI w)), some (.int (nI ν)), some (.int (sm_z fv)), some (.int (E 3 w)), none, none, none, none, none, none] [.int o] := by
    intro I1 o f1 hno hst
    have e92 : I1 92 = I 92 := f1.at 92 (fun _ => rfl)
    have e94 : I1 94 = I 94 := f1.at 94 (fun _ => rfl)
    refine s_m55 hB hx hV (mE_fr hE f1 (fun k j q => MO_MW k j (MW_MN k j q))) hw hlb hlk hno hst (fun I' g1 g2 g3 => ?_)
    rw [e92] at g3 ⊢
    rw [e94] at g2
    refine h I' (fun k j q => ?_) g2 g3
    have q' := q
    simp only [MW, Bool.or_eq_false_iff, beq_eq_false_iff_ne] at q'
    rw [g1 k q'.1.1.1 q'.1.1.2]
    exact f1 k j (MO_MW k j q)
  have hz : fv = true ∨ nI w = E 0 1 → strE E W N ν w fv s (mU N (I 92)) = 0 := by
    intro g
    unfold strE
    by_cases z : nI w = E 0 1
    · rw [if_pos z]
    · rw [if_neg z, if_pos (g.resolve_right z)]
  refine s_m_of (k := 2) hB hw5 (by decide) ?_
  rw [b3, c2]
  refine ⟨fun q => ⟨fun k2 => ⟨fun bf => ?_, fun bt => fin I 0 Fr.rf hz ?_⟩, fun k2 => ⟨fun w0 => ⟨fun bf => ?_, fun bt => fin I 0 Fr.rf hz ?_⟩, fun w0 => ?_⟩⟩, fun q => fin I 0 Fr.rf hz ?_⟩
  · subst bf
    refine s_m_ownStride hB hR hV hD hw (fun I1 f1 => fin I1 _ f1 hz ?_)
    unfold strE
    rw [if_neg q, if_neg (by decide), if_neg (fun g => k2 g.1)]
    rfl
  · rw [hz (Or.inl bt), ownM_0]
  · subst bf
    have hw0 : w = 0 := by
      have := q_le (b := 0) w0 (by omega) (by omega)
      omega
    refine s_m_ownStride hB hR hV hD hw (fun I1 f1 => fin I1 _ f1 hz ?_)
    unfold strE
    rw [if_neg q, if_neg (by decide), if_neg (fun g => by omega)]
    rfl
  · rw [hz (Or.inl bt), ownM_0]
  · have hw0 : 0 < w := q_nle (b := 0) w0 (by omega) (by omega)
    have hfn : fv = false := by
      cases fv
      · rfl
      · have := hfv rfl
        rw [k2] at this
        exact absurd this (by decide)
    have ew : nI w - 1 = nI (w - 1) := pk_sub (a := w) (b := 1) hw0
    rw [ew, nI_clamp (by omega), hs hw0]
    refine ⟨vp_in_nI (by omega) (by decide), fin I s Fr.rf hz ?_⟩
    rw [ownM_no (by rw [k2]; decide)]
    unfold strE
    rw [if_neg q, hfn, if_neg (by decide), if_pos ⟨k2, hw0⟩]
  · rw [hz (Or.inr q), ownM_0]
end
