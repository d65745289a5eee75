/-! ===== the class reads streets ===== -/
/-- the street reader at place p, its digit, its items -/
def cS (I : sm_MI) (p : Nat) (dg : Int32) (it : Nat → Int32) : sm_MI := fun k j => if k = 4 then (if j = 1 then nI p else if j = 4 then dg else I 4 j) else if k = 17 then it j else I k j
section
variable {I : sm_MI} {p p' : Nat} {dg dg' : Int32} {it : Nat → Int32}
theorem cS_p : sm_uI (cS I p dg it) 4 1 (nI p') = cS I p' dg it := by
  funext a j
  unfold sm_uI cS
  by_cases h : a = 4
  · by_cases e : j = 1
    · simp [h, e]
    · simp [h, e]
  · simp [h]
theorem cS_d : sm_uI (cS I p dg it) 4 4 dg' = cS I p dg' it := by
  funext a j
  unfold sm_uI cS
  by_cases h : a = 4
  · by_cases e : j = 4
    · subst e; simp [h]
    · simp [h, e]
  · simp [h]
theorem cS_i {i : Nat} {v : Int32} : sm_uI (cS I p dg it) 17 i v = cS I p dg (upd it i v) := by
  funext a j
  unfold sm_uI cS upd
  by_cases h : a = 17
  · subst h; simp
  · simp [h]
theorem cS_o {k i : Nat} {v : Int32} (hk : k ≠ 4 ∧ k ≠ 17) : sm_uI (cS I p dg it) k i v = cS (sm_uI I k i v) p dg it := by
  funext x j
  unfold sm_uI cS
  obtain ⟨h1, h2⟩ := hk
  by_cases e : x = k
  · subst e; simp [h1, h2]
  · have g4 : (4 : Nat) ≠ k := fun z => h1 z.symm
    have g17 : (17 : Nat) ≠ k := fun z => h2 z.symm
    simp [e, g4, g17]
theorem cS_1 : (cS I p dg it) 4 1 = nI p := rfl
theorem cS_4 : (cS I p dg it) 4 4 = dg := rfl
theorem cS_k {k j : Nat} (hk : k ≠ 4 ∧ k ≠ 17) : (cS I p dg it) k j = I k j := by
  unfold cS; simp [hk.1, hk.2]
end
section
variable {n : Nat} {T : List sm_Sh} {I I' : sm_MI} {L L' : sm_ML} {h : Nat → Int32} {len p : Nat} {dg : Int32} {it : Nat → Int32}
theorem d_next {F : Int32 → sm_MI → sm_ML → Prop} (hB : sm_Bs T) (H : tpH h len) (hC : CTp h len I) (hp : p ≤ len) (hF : F (h (sk h len p)) (cS I (sk h len p) dg it) L) : sm_CI (n + 1) mX2_nextSign T (cS I p dg it) L [.ref 4] F := by
  have hl := H.1
  refine c_X2_nextSign_s hB (fun x hx => ?_)
  have key : ∀ d p, p + d = len → F (h (sk h len p)) (cS I (sk h len p) dg it) L → sm_V x 0 0 T (cS I p dg it) L 0 [some (.ref 4)] [] := by
    intro d
    induction d with
    | zero =>
      intro p e hF
      have e1 : (cS I p dg it) 1 1 = nI len := hC.1
      have e2 : (cS I p dg it) 4 1 = nI p := rfl
      have hm : h p = -1 := H.2.1 p (by omega)
      rw [sk_stop (by rw [hm]; decide), hm] at hF
      refine u_X2_nextSign_s_0 hB hx ⟨fun _ => ⟨fun _ => hF, fun q => absurd ?_ q⟩, fun q => absurd ?_ q⟩ <;> rw [e1, e2] <;> exact nI_le (by omega) (by omega)
    | succ d ih =>
      intro p e hF
      have e1 : (cS I p dg it) 1 1 = nI len := hC.1
      have e2 : (cS I p dg it) 4 1 = nI p := rfl
      have hno : ¬ nI len ≤ nI p := nI_ge (by omega) (by omega)
      have ec : (cS I p dg it) 3 p = h p := hC.2 p (by omega)
      refine u_X2_nextSign_s_0 hB hx ⟨fun q => absurd q (by rw [e1, e2]; exact hno), fun _ => ?_⟩
      rw [e2]
      refine s_at (t_2 hB) (t_3 hB) (by omega) (by decide) ?_
      rw [ec]
      refine ⟨fun q => ⟨fun z => absurd z (by rw [e1, e2]; exact hno), fun _ => ?_⟩, fun q => ?_⟩
      · rw [e2]
        refine s_at (t_2 hB) (t_3 hB) (by omega) (by decide) ?_
        rw [ec]
        rw [sk_stop q] at hF
        exact hF
      · rw [e2, nI_1, cS_p]
        refine ih (p + 1) (by omega) ?_
        rw [← sk_step H q]; exact hF
  exact key (len - p) p (by omega) hF
theorem d_goOn {F : sm_MI → sm_ML → Prop} (hB : sm_Bs T) (hF : F (cS I (p + 1) dg it) L) : sm_CV n mX2_goOn T (cS I p dg it) L [.ref 4] F := by
  refine c_X2_goOn_s hB ?_
  rw [cS_1, nI_1, cS_p]
  exact hF
theorem d_take {F : Bool → sm_MI → sm_ML → Prop} {a : Int32} (hB : sm_Bs T) (H : tpH h len) (hC : CTp h len I) (hp : p ≤ len) (hy : h (sk h len p) = a → F true (cS I (sk h len p + 1) dg it) L) (hn : ¬ h (sk h len p) = a → F false (cS I (sk h len p) dg it) L) : sm_CZ (n + 2) mX2_take T (cS I p dg it) L [.ref 4, .int a] F := by
  refine c_X2_take_s hB (d_next hB H hC hp ⟨fun q => ?_, fun q => hn q⟩)
  rw [cS_1, nI_1, cS_p]
  exact hy q
theorem d_digit {F : Bool → sm_MI → sm_ML → Prop} {lo hi : Nat} (hB : sm_Bs T) (H : tpH h len) (hC : CTp h len I) (hp : p ≤ len) (hlo : lo ≤ 9) (hhi : hi ≤ 9) (hF : match dgP h len lo hi p with
    | .inl e => ∀ dg, F false (cS I e dg it) L
    | .inr q => F true (cS I q.1 (nI q.2) it) L) : sm_CZ (n + 2) mX9_takeDigit T (cS I p dg it) L [.ref 4, .int (nI lo), .int (nI hi)] F := by
  refine c_X9_takeDigit hB (d_next hB H hC hp (fun I3 h3 => ?_))
  rw [cS_d] at h3
  subst h3
  rw [cS_4]
  refine s_within hB ?_
  have hq := dg_qW (h := h) (len := len) H (sk h len p) hlo hhi
  unfold dgP at hF
  by_cases g : isD (h (sk h len p)) = true ∧ lo ≤ dgV (h (sk h len p)) ∧ dgV (h (sk h len p)) ≤ hi
  · rw [if_pos g] at hF
    rw [hq.mpr g]
    have ev : h (sk h len p) - 48 = nI (dgV (h (sk h len p))) := by
      rcases dg_two H (sk h len p) with ⟨_, _, a3⟩ | ⟨a1, _⟩
      · exact a3
      · rw [a1] at g; exact absurd g.1 (by decide)
    rw [ev]
    exact ⟨fun _ => d_goOn hB hF, fun z => absurd z (by decide)⟩
  · rw [if_neg g] at hF
    have e : qW (h (sk h len p) - 48) (nI lo) (nI hi) = false := Bool.eq_false_iff.mpr (fun z => g (hq.mp z))
    rw [e]
    exact ⟨fun z => absurd z (by decide), fun _ => hF _⟩
/-- what the class does behind items -/
def dOKi (F : Bool → sm_MI → sm_ML → Prop) (I : sm_MI) (L : sm_ML) (h : Nat → Int32) (len : Nat) : Nat ⊕ (Nat × (Nat → Nat)) → Prop
  | .inl e => ∀ dg it, F false (cS I e dg it) L
  | .inr q => ∀ p' dg it, p' ≤ len → sk h len p' = q.1 → (∀ j, j < 4 → it j = nI (q.2 j)) → F true (cS I p' dg it) L
theorem s_mostOf {F : Int32 → sm_MI → sm_ML → Prop} {x : Int32} (hB : sm_Bs T) (y97 : x = 97 → F (I 5 0 - 1) I L) (y101 : x = 101 → F 1 I L) (y107 : x = 107 → F 4 I L) (y115 : x = 115 → F 7 I L) (yo : x ≠ 97 → x ≠ 101 → x ≠ 107 → x ≠ 115 → F 9 I L) : sm_CI n mX9_mostOf T I L [.ref 4, .int x] F := c_X9_mostOf hB ⟨y97, y101, y107, y115, fun q => yo q.1 q.2.1 q.2.2.1 q.2.2.2⟩
def pc4 (m : Nat) : Nat := m % 2 + m / 2 % 2 + m / 4 % 2 + m / 8 % 2
theorem tb_ok : ∀ m, m < 16 → ∀ j, j < 4 → (((((Int32.toUInt32 (nI m)) >>> ((Int32.toUInt32 (nI j)) &&& Int32.toUInt32 31)).toInt32) &&& 1) = 1 ↔ m.testBit j = true) ∧ ((nI m) ||| ((1 : Int32) <<< ((nI j) &&& 31))) = nI (m ||| 2 ^ j) ∧ (m.testBit j = false → pc4 (m ||| 2 ^ j) = pc4 m + 1) := by decide +kernel
theorem hiO_le {HH j : Nat} (h8 : HH ≤ 8) : hiO HH j ≤ 9 := by
  unfold hiO
  split <;> omega
theorem it_O {x : Int32} {j : Nat} (e : itO x = some j) : j < 4 ∧ x ≠ 112 ∧ x ≠ -1 ∧ ((j = 0 ∧ x = 97) ∨ (j = 1 ∧ x = 115) ∨ (j = 2 ∧ x = 107) ∨ (j = 3 ∧ x = 101)) := by
  unfold itO at e
  split at e
  · rename_i g; cases e; subst g; exact ⟨by decide, by decide, by decide, Or.inl ⟨rfl, rfl⟩⟩
  · split at e
    · rename_i g; cases e; subst g; exact ⟨by decide, by decide, by decide, Or.inr (Or.inl ⟨rfl, rfl⟩)⟩
    · split at e
      · rename_i g; cases e; subst g; exact ⟨by decide, by decide, by decide, Or.inr (Or.inr (Or.inl ⟨rfl, rfl⟩))⟩
      · split at e
        · rename_i g; cases e; subst g; exact ⟨by decide, by decide, by decide, Or.inr (Or.inr (Or.inr ⟨rfl, rfl⟩))⟩
        · cases e
theorem it_A {x : Int32} {j : Nat} (e : itA x = some j) : j < 1 ∧ x ≠ 112 ∧ x ≠ -1 ∧ (j = 0 ∧ x = 97) := by
  unfold itA at e
  split at e
  · rename_i g; cases e; subst g; exact ⟨by decide, by decide, by decide, rfl, rfl⟩
  · cases e
theorem it_M {x : Int32} {j : Nat} (e : itM x = some j) : j < 2 ∧ x ≠ -1 ∧ ((j = 0 ∧ x = 112) ∨ (j = 1 ∧ x = 103)) := by
  unfold itM at e
  split at e
  · rename_i g; cases e; subst g; exact ⟨by decide, by decide, Or.inl ⟨rfl, rfl⟩⟩
  · split at e
    · rename_i g; cases e; subst g; exact ⟨by decide, by decide, Or.inr ⟨rfl, rfl⟩⟩
    · cases e

theorem fu_aske : ∀ m, m < 2 ^ 4 → (pc4 m ≤ 4 ∧ (4 ≤ pc4 m → ∀ j, j < 4 → m.testBit j = true)) ∧ ∀ j, j < 4 → m ||| 2 ^ j < 2 ^ 4 := by decide +kernel
theorem d_items_aske {F : Bool → sm_MI → sm_ML → Prop} {HH : Nat} {v : Nat → Nat} (hB : sm_Bs T) (H : tpH h len) (hC : CTp h len I) (hH : I 5 0 = nI HH) (h2 : 2 ≤ HH) (h8 : HH ≤ 8) (hp : p ≤ len) (hv : ∀ j, j < 4 → it j = nI (v j)) (hF : dOKi F I L h len (itmP h len itO loO (hiO HH) len p 0 v)) : sm_CZ (n + 4) mX9_readItems T (cS I p dg it) L [.ref 4, .ref 1000000] F := by
  have hl := H.1
  refine c_X9_readItems_aske hB (fun x hx => ?_)
  have key : ∀ d p dg it m v u4 u5, len ≤ p + d → p ≤ len → m < 2 ^ 4 → (∀ j, j < 4 → it j = nI (v j)) → dOKi F I L h len (itmP h len itO loO (hiO HH) d p m v) → sm_V x 0 0 T (cS I p dg it) L 4 [some (.ref 4), some (.ref 1000000), some (.int (nI m)), some (.int (nI (pc4 m))), u4, u5] [] := by
    intro d
    induction d with
    | zero =>
      intro p dg it m v u4 u5 hd hp hm hv hF
      have hme : h p = -1 := H.2.1 p (by omega)
      have hs : sk h len p = p := sk_stop (by rw [hme]; decide)
      have hF' : ∀ p' dg it, p' ≤ len → sk h len p' = sk h len p → (∀ j, j < 4 → it j = nI (v j)) → F true (cS I p' dg it) L := hF
      refine u_X9_readItems_aske_4 hB hx (c_J0_length_8abf5_aske (c_J0_coder_7d493_aske ⟨fun _ => hF' _ _ _ hp rfl hv, fun _ => d_next hB H hC hp ?_⟩))
      rw [hs, hme]
      exact ⟨fun z => absurd rfl z, fun _ => hF' _ _ _ hp rfl hv⟩
    | succ d ih =>
      intro p dg it m v u4 u5 hd hp hm hv hF
      have s1 := sk_ge (h := h) (len := len) p
      have s2 := sk_le (h := h) (len := len) hp
      obtain ⟨⟨f1, f2⟩, f3⟩ := fu_aske m hm
      refine u_X9_readItems_aske_4 hB hx (c_J0_length_8abf5_aske (c_J0_coder_7d493_aske ?_))
      show (nI 4 ≤ nI (pc4 m) → _) ∧ (¬ nI 4 ≤ nI (pc4 m) → _)
      refine ⟨fun q => ?_, fun q => d_next hB H hC hp ⟨fun q2 => ?_, fun q2 => ?_⟩⟩
      · have hfull := f2 ((nI_leI (by decide) (by omega)).mp q)
        rw [itm_full (c := 4) (fun x j e => (it_O e).1) hfull] at hF
        exact hF _ _ _ hp rfl hv
      · have hlt := H.lt q2
        obtain ⟨b, b1, b2, eb⟩ := H.2.2 _ hlt
        rw [itmP] at hF
        rw [eb] at hF ⊢
        refine s_ix_aske b2 ?_
        cases hk : itO (nI b) with
        | none =>
          rw [hk] at hF
          exact ⟨fun _ => hF _ _ _ s2 (sk_sk H p) hv, fun z => absurd rfl z⟩
        | some j =>
          rw [hk] at hF
          have hj := it_O hk
          have hj4 : j < 4 := by omega
          obtain ⟨b3, b4, b5⟩ := tb_ok m (by omega) j hj4
          have hF' : dOKi F I L h len (if m.testBit j = true then .inr (sk h len p, v) else (match dgP h len (loO j) ((hiO HH) j) (sk h len p + 1) with
            | .inl e => .inl e
            | .inr q => itmP h len itO loO (hiO HH) d q.1 (m ||| 2 ^ j) (updN v j q.2))) := hF
          refine ⟨fun z => absurd z (nI_m1 (by omega)), fun _ => c_X11_bitOf hB ⟨fun y => d_goOn hB ?_, fun y => ?_⟩⟩
          · have y' : ¬ m.testBit j = true := fun z => y (b3.mpr z)
            rw [if_neg y'] at hF'
            have go : ∀ lo0 hi0 : Nat, lo0 = loO j → hi0 = (hiO HH) j → sm_CZ (n + 3) mX9_takeDigit T (cS I (sk h len p + 1) dg it) L [.ref 4, .int (nI lo0), .int (nI hi0)] (fun r4 I3 L3 => (r4 = true → sm_CV (n + 3) mX3_set T I3 L3 [.ref 16, .int (nI j), .int (I3 4 4)] (fun I5 L5 => sm_V x 0 0 T I5 L5 4 [some (.ref 4), some (.ref 1000000), some (.int ((nI m) ||| (1 <<< ((nI j) &&& 31)))), some (.int (nI (pc4 m) + 1)), some (.int (nI b)), some (.int (nI j))] [])) ∧ (r4 = false → F false I3 L3)) := by
              intro lo0 hi0 elo ehi
              subst elo ehi
              refine d_digit (n := n + 1) hB H hC (by omega) (show loO j ≤ 9 by unfold loO; omega) (hiO_le h8) ?_
              have hd2 := dgP_ok H (lo := loO j) (hi := (hiO HH) j) (p := sk h len p + 1) (by omega)
              cases hq : dgP h len (loO j) ((hiO HH) j) (sk h len p + 1) with
              | inl e =>
                rw [hq] at hF'
                exact fun dg => ⟨fun z => absurd z (by decide), fun _ => hF' _ _⟩
              | inr q =>
                rw [hq] at hF' hd2
                refine ⟨fun _ => ?_, fun z => absurd z (by decide)⟩
                rw [cS_4]
                refine s_set (t_16 hB) (t_17 hB) hj4 (by decide) ?_
                rw [cS_i, b4, nI_1, ← b5 (Bool.eq_false_iff.mpr y')]
                refine ih q.1 _ _ _ _ _ _ (by omega) hd2.2.1 (f3 j hj.1) (fun i hi => ?_) hF'
                unfold updN
                by_cases e : i = j
                · subst e; rw [pk_us, if_pos rfl]
                · rw [pk_un e, if_neg e]; exact hv i hi
            refine ⟨fun _ => u_X9_readItems_aske_72 hB hx (s_mostOf hB (fun z => ?_) (fun z => ?_) (fun z => ?_) (fun z => ?_) (fun z1 z2 z3 z4 => ?_)), fun z => absurd z hj.2.1⟩
            · have ej : j = 0 := by rcases hj.2.2.2 with ⟨a, b⟩ | ⟨a, b⟩ | ⟨a, b⟩ | ⟨a, b⟩ <;> first | exact a | (rw [z] at b; exact absurd b (by decide))
              rw [show (cS I (sk h len p + 1) dg it) 5 0 - 1 = nI (HH - 1) by rw [cS_k (by decide), hH]; exact pk_sub (a := HH) (b := 1) (by omega)]
              exact go 0 (HH - 1) rfl (by rw [ej]; rfl)
            · have ej : j = 3 := by rcases hj.2.2.2 with ⟨a, b⟩ | ⟨a, b⟩ | ⟨a, b⟩ | ⟨a, b⟩ <;> first | exact a | (rw [z] at b; exact absurd b (by decide))
              exact go 0 1 rfl (by rw [ej]; rfl)
            · have ej : j = 2 := by rcases hj.2.2.2 with ⟨a, b⟩ | ⟨a, b⟩ | ⟨a, b⟩ | ⟨a, b⟩ <;> first | exact a | (rw [z] at b; exact absurd b (by decide))
              exact go 0 4 rfl (by rw [ej]; rfl)
            · have ej : j = 1 := by rcases hj.2.2.2 with ⟨a, b⟩ | ⟨a, b⟩ | ⟨a, b⟩ | ⟨a, b⟩ <;> first | exact a | (rw [z] at b; exact absurd b (by decide))
              exact go 0 7 rfl (by rw [ej]; rfl)
            · rcases hj.2.2.2 with ⟨a, b⟩ | ⟨a, b⟩ | ⟨a, b⟩ | ⟨a, b⟩
              · exact absurd b z1
              · exact absurd b z4
              · exact absurd b z3
              · exact absurd b z2
          · rw [if_pos (b3.mp y)] at hF'
            exact hF' _ _ _ s2 (sk_sk H p) hv
      · have hs : h (sk h len p) = -1 := q2
        have : itO (-1) = none := by decide
        rw [itmP, hs, this] at hF
        exact hF _ _ _ s2 (sk_sk H p) hv
  exact key len p dg it 0 v none none (by omega) hp (by decide) hv hF

theorem fu_a : ∀ m, m < 2 ^ 1 → (pc4 m ≤ 1 ∧ (1 ≤ pc4 m → ∀ j, j < 1 → m.testBit j = true)) ∧ ∀ j, j < 1 → m ||| 2 ^ j < 2 ^ 1 := by decide +kernel
theorem d_items_a {F : Bool → sm_MI → sm_ML → Prop} {HH : Nat} {v : Nat → Nat} (hB : sm_Bs T) (H : tpH h len) (hC : CTp h len I) (hH : I 5 0 = nI HH) (h2 : 2 ≤ HH) (h8 : HH ≤ 8) (hp : p ≤ len) (hv : ∀ j, j < 4 → it j = nI (v j)) (hF : dOKi F I L h len (itmP h len itA loO (hiA HH) len p 0 v)) : sm_CZ (n + 4) mX9_readItems T (cS I p dg it) L [.ref 4, .ref 1000001] F := by
  have hl := H.1
  refine c_X9_readItems_a hB (fun x hx => ?_)
  have key : ∀ d p dg it m v u4 u5, len ≤ p + d → p ≤ len → m < 2 ^ 1 → (∀ j, j < 4 → it j = nI (v j)) → dOKi F I L h len (itmP h len itA loO (hiA HH) d p m v) → sm_V x 0 0 T (cS I p dg it) L 4 [some (.ref 4), some (.ref 1000001), some (.int (nI m)), some (.int (nI (pc4 m))), u4, u5] [] := by
    intro d
    induction d with
    | zero =>
      intro p dg it m v u4 u5 hd hp hm hv hF
      have hme : h p = -1 := H.2.1 p (by omega)
      have hs : sk h len p = p := sk_stop (by rw [hme]; decide)
      have hF' : ∀ p' dg it, p' ≤ len → sk h len p' = sk h len p → (∀ j, j < 4 → it j = nI (v j)) → F true (cS I p' dg it) L := hF
      refine u_X9_readItems_a_4 hB hx (c_J0_length_8abf5_a (c_J0_coder_7d493_a ⟨fun _ => hF' _ _ _ hp rfl hv, fun _ => d_next hB H hC hp ?_⟩))
      rw [hs, hme]
      exact ⟨fun z => absurd rfl z, fun _ => hF' _ _ _ hp rfl hv⟩
    | succ d ih =>
      intro p dg it m v u4 u5 hd hp hm hv hF
      have s1 := sk_ge (h := h) (len := len) p
      have s2 := sk_le (h := h) (len := len) hp
      obtain ⟨⟨f1, f2⟩, f3⟩ := fu_a m hm
      refine u_X9_readItems_a_4 hB hx (c_J0_length_8abf5_a (c_J0_coder_7d493_a ?_))
      show (nI 1 ≤ nI (pc4 m) → _) ∧ (¬ nI 1 ≤ nI (pc4 m) → _)
      refine ⟨fun q => ?_, fun q => d_next hB H hC hp ⟨fun q2 => ?_, fun q2 => ?_⟩⟩
      · have hfull := f2 ((nI_leI (by decide) (by omega)).mp q)
        rw [itm_full (c := 1) (fun x j e => (it_A e).1) hfull] at hF
        exact hF _ _ _ hp rfl hv
      · have hlt := H.lt q2
        obtain ⟨b, b1, b2, eb⟩ := H.2.2 _ hlt
        rw [itmP] at hF
        rw [eb] at hF ⊢
        refine s_ix_a b2 ?_
        cases hk : itA (nI b) with
        | none =>
          rw [hk] at hF
          exact ⟨fun _ => hF _ _ _ s2 (sk_sk H p) hv, fun z => absurd rfl z⟩
        | some j =>
          rw [hk] at hF
          have hj := it_A hk
          have hj4 : j < 4 := by omega
          obtain ⟨b3, b4, b5⟩ := tb_ok m (by omega) j hj4
          have hF' : dOKi F I L h len (if m.testBit j = true then .inr (sk h len p, v) else (match dgP h len (loO j) ((hiA HH) j) (sk h len p + 1) with
            | .inl e => .inl e
            | .inr q => itmP h len itA loO (hiA HH) d q.1 (m ||| 2 ^ j) (updN v j q.2))) := hF
          refine ⟨fun z => absurd z (nI_m1 (by omega)), fun _ => c_X11_bitOf hB ⟨fun y => d_goOn hB ?_, fun y => ?_⟩⟩
          · have y' : ¬ m.testBit j = true := fun z => y (b3.mpr z)
            rw [if_neg y'] at hF'
            have go : ∀ lo0 hi0 : Nat, lo0 = loO j → hi0 = (hiA HH) j → sm_CZ (n + 3) mX9_takeDigit T (cS I (sk h len p + 1) dg it) L [.ref 4, .int (nI lo0), .int (nI hi0)] (fun r4 I3 L3 => (r4 = true → sm_CV (n + 3) mX3_set T I3 L3 [.ref 16, .int (nI j), .int (I3 4 4)] (fun I5 L5 => sm_V x 0 0 T I5 L5 4 [some (.ref 4), some (.ref 1000001), some (.int ((nI m) ||| (1 <<< ((nI j) &&& 31)))), some (.int (nI (pc4 m) + 1)), some (.int (nI b)), some (.int (nI j))] [])) ∧ (r4 = false → F false I3 L3)) := by
              intro lo0 hi0 elo ehi
              subst elo ehi
              refine d_digit (n := n + 1) hB H hC (by omega) (show loO j ≤ 9 by unfold loO; omega) (show hiA HH j ≤ 9 by unfold hiA; omega) ?_
              have hd2 := dgP_ok H (lo := loO j) (hi := (hiA HH) j) (p := sk h len p + 1) (by omega)
              cases hq : dgP h len (loO j) ((hiA HH) j) (sk h len p + 1) with
              | inl e =>
                rw [hq] at hF'
                exact fun dg => ⟨fun z => absurd z (by decide), fun _ => hF' _ _⟩
              | inr q =>
                rw [hq] at hF' hd2
                refine ⟨fun _ => ?_, fun z => absurd z (by decide)⟩
                rw [cS_4]
                refine s_set (t_16 hB) (t_17 hB) hj4 (by decide) ?_
                rw [cS_i, b4, nI_1, ← b5 (Bool.eq_false_iff.mpr y')]
                refine ih q.1 _ _ _ _ _ _ (by omega) hd2.2.1 (f3 j hj.1) (fun i hi => ?_) hF'
                unfold updN
                by_cases e : i = j
                · subst e; rw [pk_us, if_pos rfl]
                · rw [pk_un e, if_neg e]; exact hv i hi
            refine ⟨fun _ => u_X9_readItems_a_72 hB hx (s_mostOf hB (fun z => ?_) (fun z => ?_) (fun z => ?_) (fun z => ?_) (fun z1 _ _ _ => absurd hj.2.2.2.2 z1)), fun z => absurd z hj.2.1⟩
            · rw [show (cS I (sk h len p + 1) dg it) 5 0 - 1 = nI (HH - 1) by rw [cS_k (by decide), hH]; exact pk_sub (a := HH) (b := 1) (by omega)]
              exact go 0 (HH - 1) rfl rfl
            · have := hj.2.2.2.2; rw [z] at this; exact absurd this (by decide)
            · have := hj.2.2.2.2; rw [z] at this; exact absurd this (by decide)
            · have := hj.2.2.2.2; rw [z] at this; exact absurd this (by decide)
          · rw [if_pos (b3.mp y)] at hF'
            exact hF' _ _ _ s2 (sk_sk H p) hv
      · have hs : h (sk h len p) = -1 := q2
        have : itA (-1) = none := by decide
        rw [itmP, hs, this] at hF
        exact hF _ _ _ s2 (sk_sk H p) hv
  exact key len p dg it 0 v none none (by omega) hp (by decide) hv hF

theorem fu_pg : ∀ m, m < 2 ^ 2 → (pc4 m ≤ 2 ∧ (2 ≤ pc4 m → ∀ j, j < 2 → m.testBit j = true)) ∧ ∀ j, j < 2 → m ||| 2 ^ j < 2 ^ 2 := by decide +kernel
theorem d_items_pg {F : Bool → sm_MI → sm_ML → Prop} {HH : Nat} {v : Nat → Nat} (hB : sm_Bs T) (H : tpH h len) (hC : CTp h len I) (hH : I 5 0 = nI HH) (h2 : 2 ≤ HH) (h8 : HH ≤ 8) (hp : p ≤ len) (hv : ∀ j, j < 4 → it j = nI (v j)) (hF : dOKi F I L h len (itmP h len itM loM hiM len p 0 v)) : sm_CZ (n + 4) mX9_readItems T (cS I p dg it) L [.ref 4, .ref 1000002] F := by
  have hl := H.1
  refine c_X9_readItems_pg hB (fun x hx => ?_)
  have key : ∀ d p dg it m v u4 u5, len ≤ p + d → p ≤ len → m < 2 ^ 2 → (∀ j, j < 4 → it j = nI (v j)) → dOKi F I L h len (itmP h len itM loM hiM d p m v) → sm_V x 0 0 T (cS I p dg it) L 4 [some (.ref 4), some (.ref 1000002), some (.int (nI m)), some (.int (nI (pc4 m))), u4, u5] [] := by
    intro d
    induction d with
    | zero =>
      intro p dg it m v u4 u5 hd hp hm hv hF
      have hme : h p = -1 := H.2.1 p (by omega)
      have hs : sk h len p = p := sk_stop (by rw [hme]; decide)
      have hF' : ∀ p' dg it, p' ≤ len → sk h len p' = sk h len p → (∀ j, j < 4 → it j = nI (v j)) → F true (cS I p' dg it) L := hF
      refine u_X9_readItems_pg_4 hB hx (c_J0_length_8abf5_pg (c_J0_coder_7d493_pg ⟨fun _ => hF' _ _ _ hp rfl hv, fun _ => d_next hB H hC hp ?_⟩))
      rw [hs, hme]
      exact ⟨fun z => absurd rfl z, fun _ => hF' _ _ _ hp rfl hv⟩
    | succ d ih =>
      intro p dg it m v u4 u5 hd hp hm hv hF
      have s1 := sk_ge (h := h) (len := len) p
      have s2 := sk_le (h := h) (len := len) hp
      obtain ⟨⟨f1, f2⟩, f3⟩ := fu_pg m hm
      refine u_X9_readItems_pg_4 hB hx (c_J0_length_8abf5_pg (c_J0_coder_7d493_pg ?_))
      show (nI 2 ≤ nI (pc4 m) → _) ∧ (¬ nI 2 ≤ nI (pc4 m) → _)
      refine ⟨fun q => ?_, fun q => d_next hB H hC hp ⟨fun q2 => ?_, fun q2 => ?_⟩⟩
      · have hfull := f2 ((nI_leI (by decide) (by omega)).mp q)
        rw [itm_full (c := 2) (fun x j e => (it_M e).1) hfull] at hF
        exact hF _ _ _ hp rfl hv
      · have hlt := H.lt q2
        obtain ⟨b, b1, b2, eb⟩ := H.2.2 _ hlt
        rw [itmP] at hF
        rw [eb] at hF ⊢
        refine s_ix_pg b2 ?_
        cases hk : itM (nI b) with
        | none =>
          rw [hk] at hF
          exact ⟨fun _ => hF _ _ _ s2 (sk_sk H p) hv, fun z => absurd rfl z⟩
        | some j =>
          rw [hk] at hF
          have hj := it_M hk
          have hj4 : j < 4 := by omega
          obtain ⟨b3, b4, b5⟩ := tb_ok m (by omega) j hj4
          have hF' : dOKi F I L h len (if m.testBit j = true then .inr (sk h len p, v) else (match dgP h len (loM j) (hiM j) (sk h len p + 1) with
            | .inl e => .inl e
            | .inr q => itmP h len itM loM hiM d q.1 (m ||| 2 ^ j) (updN v j q.2))) := hF
          refine ⟨fun z => absurd z (nI_m1 (by omega)), fun _ => c_X11_bitOf hB ⟨fun y => d_goOn hB ?_, fun y => ?_⟩⟩
          · have y' : ¬ m.testBit j = true := fun z => y (b3.mpr z)
            rw [if_neg y'] at hF'
            have go : ∀ lo0 hi0 : Nat, lo0 = loM j → hi0 = hiM j → sm_CZ (n + 3) mX9_takeDigit T (cS I (sk h len p + 1) dg it) L [.ref 4, .int (nI lo0), .int (nI hi0)] (fun r4 I3 L3 => (r4 = true → sm_CV (n + 3) mX3_set T I3 L3 [.ref 16, .int (nI j), .int (I3 4 4)] (fun I5 L5 => sm_V x 0 0 T I5 L5 4 [some (.ref 4), some (.ref 1000002), some (.int ((nI m) ||| (1 <<< ((nI j) &&& 31)))), some (.int (nI (pc4 m) + 1)), some (.int (nI b)), some (.int (nI j))] [])) ∧ (r4 = false → F false I3 L3)) := by
              intro lo0 hi0 elo ehi
              subst elo ehi
              refine d_digit (n := n + 1) hB H hC (by omega) (show loM j ≤ 9 by unfold loM; split <;> omega) (show hiM j ≤ 9 by unfold hiM; omega) ?_
              have hd2 := dgP_ok H (lo := loM j) (hi := hiM j) (p := sk h len p + 1) (by omega)
              cases hq : dgP h len (loM j) (hiM j) (sk h len p + 1) with
              | inl e =>
                rw [hq] at hF'
                exact fun dg => ⟨fun z => absurd z (by decide), fun _ => hF' _ _⟩
              | inr q =>
                rw [hq] at hF' hd2
                refine ⟨fun _ => ?_, fun z => absurd z (by decide)⟩
                rw [cS_4]
                refine s_set (t_16 hB) (t_17 hB) hj4 (by decide) ?_
                rw [cS_i, b4, nI_1, ← b5 (Bool.eq_false_iff.mpr y')]
                refine ih q.1 _ _ _ _ _ _ (by omega) hd2.2.1 (f3 j hj.1) (fun i hi => ?_) hF'
                unfold updN
                by_cases e : i = j
                · subst e; rw [pk_us, if_pos rfl]
                · rw [pk_un e, if_neg e]; exact hv i hi
            have no : nI b ≠ 97 ∧ nI b ≠ 101 ∧ nI b ≠ 107 ∧ nI b ≠ 115 := by
              rcases hj.2.2 with ⟨_, a⟩ | ⟨_, a⟩ <;> rw [a] <;> decide
            refine ⟨fun z => ?_, fun z => ?_⟩
            · have ej : j = 1 := by rcases hj.2.2 with ⟨a, b⟩ | ⟨a, b⟩; exact absurd b z; exact a
              exact u_X9_readItems_pg_72 hB hx (s_mostOf hB (fun y => absurd y no.1) (fun y => absurd y no.2.1) (fun y => absurd y no.2.2.1) (fun y => absurd y no.2.2.2) (fun _ _ _ _ => go 0 9 (by rw [ej]; rfl) rfl))
            · have ej : j = 0 := by
                rcases hj.2.2 with ⟨a, b⟩ | ⟨a, b⟩
                · exact a
                · rw [z] at b; exact absurd b (by decide)
              exact u_X9_readItems_pg_72 hB hx (s_mostOf hB (fun y => absurd y no.1) (fun y => absurd y no.2.1) (fun y => absurd y no.2.2.1) (fun y => absurd y no.2.2.2) (fun _ _ _ _ => go 2 9 (by rw [ej]; rfl) rfl))
          · rw [if_pos (b3.mp y)] at hF'
            exact hF' _ _ _ s2 (sk_sk H p) hv
      · have hs : h (sk h len p) = -1 := q2
        have : itM (-1) = none := by decide
        rw [itmP, hs, this] at hF
        exact hF _ _ _ s2 (sk_sk H p) hv
  exact key len p dg it 0 v none none (by omega) hp (by decide) hv hF
end
