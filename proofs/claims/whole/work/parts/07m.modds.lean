/-! ===== odds of the model's ===== -/
/-- t cells of q from o on copied into p from s on -/
def cpy (I : sm_MI) (p s q o t : Nat) : sm_MI := fun k j => if k = p then (if s ≤ j ∧ j < s + t then I q (o + (j - s)) else I p j) else I k j
theorem cpy_0 {I : sm_MI} {p s q o : Nat} : cpy I p s q o 0 = I := by
  funext k j
  unfold cpy
  by_cases hk : k = p
  · have : ¬ (s ≤ j ∧ j < s + 0) := by omega
    rw [if_pos hk, if_neg this, hk]
  · rw [if_neg hk]
theorem cpy_s {I : sm_MI} {p s q o t : Nat} (hpq : q ≠ p) : sm_uI (cpy I p s q o t) p (s + t) ((cpy I p s q o t) q (o + t)) = cpy I p s q o (t + 1) := by
  funext k j
  unfold sm_uI cpy
  by_cases hk : k = p
  · by_cases hj : j = s + t
    · subst hj
      have h1 : s ≤ s + t ∧ s + t < s + (t + 1) := by omega
      have h2 : s + t - s = t := by omega
      rw [if_pos hk, if_pos rfl, if_neg hpq, if_pos hk, if_pos h1, h2]
    · have : (s ≤ j ∧ j < s + (t + 1)) = (s ≤ j ∧ j < s + t) := by apply propext; omega
      simp only [hk, if_true, if_neg hj, this]
  · simp only [if_neg hk]
theorem cpy_ne {I : sm_MI} {p s q o t k : Nat} (h : k ≠ p) : cpy I p s q o t k = I k := by
  funext j
  unfold cpy
  rw [if_neg h]
theorem cpy_in {I : sm_MI} {p s q o t j : Nat} (h1 : s ≤ j) (h2 : j < s + t) : cpy I p s q o t p j = I q (o + (j - s)) := by
  unfold cpy
  rw [if_pos rfl, if_pos ⟨h1, h2⟩]
theorem cpy_out {I : sm_MI} {p s q o t j : Nat} (h : ¬ (s ≤ j ∧ j < s + t)) : cpy I p s q o t p j = I p j := by
  unfold cpy
  rw [if_pos rfl, if_neg h]
theorem cpy_fr {P : Nat → Nat → Bool} {I I' : sm_MI} {p s q o t : Nat} (h : Fr P I I') (hp : ∀ j, P p j = true) : Fr P I (cpy I' p s q o t) := by
  intro k j e
  have hk : k ≠ p := fun g => by subst g; rw [hp j] at e; exact absurd e (by decide)
  rw [cpy_ne hk]
  exact h k j e
def MOd (k j : Nat) : Bool := MW k j || k == 104 || k == 105
section
variable {n : Nat} {T : List sm_Sh} {I I' I1 I0 : sm_MI} {L L' : sm_ML} {A : Nat → Nat → Int32} {H S N R ν lb b ν' lb' b' t w : Nat} {W : Nat → (Nat → Int32) → Int32} {f u : Nat → Int32} {g g' hh s : Int32}
theorem i8_mul {i t : Nat} : (8 : Int32) * nI i + nI t = nI (8 * i + t) := by
  have : (8 : Int32) * nI i = nI (8 * i) := pk_mul 8 i
  rw [this, nI_add]
theorem i5_mul {i t : Nat} : (5 : Int32) * nI i + nI t = nI (5 * i + t) := by
  have : (5 : Int32) * nI i = nI (5 * i) := pk_mul 5 i
  rw [this, nI_add]
theorem s_m_keepWalk {F : sm_MI → sm_ML → Prop} {i : Nat} (hB : sm_Bs T) (hi : i < 41) (h : F (cpy (cpy I 104 (8 * i) 92 0 8) 105 (5 * i) 94 0 5) L) : sm_CV n mX12_keepWalk T I L [.ref 76, .int (nI i)] F := by
  refine c_X12_keepWalk hB (fun x hx => ?_)
  have k2 : ∀ d t (J : sm_MI), t + d = 5 → F (cpy J 105 (5 * i) 94 0 5) L → sm_V x 0 0 T (cpy J 105 (5 * i) 94 0 t) L 33 [some (.ref 76), some (.int (nI i)), some (.int (nI t))] [] := by
    intro d
    induction d with
    | zero =>
      intro t J e hF
      have : t = 5 := by omega
      subst this
      exact u_X12_keepWalk_33 hB hx ⟨fun _ => hF, fun q => absurd (nI_le (a := 5) (b := 5) (by omega) (by omega)) q⟩
    | succ d ih =>
      intro t J e hF
      refine u_X12_keepWalk_33 hB hx ⟨fun q => absurd q (nI_ge (b := 5) (by omega) (by omega)), fun _ => ?_⟩
      rw [i5_mul, nI_clamp (by omega), nI_clamp (by omega), nI_1]
      refine ⟨vp_in_nI (by omega) (by decide), vp_in_nI (by omega) (by decide), ?_⟩
      have e1 : (cpy J 105 (5 * i) 94 0 t) 94 t = (cpy J 105 (5 * i) 94 0 t) 94 (0 + t) := by rw [Nat.zero_add]
      rw [e1, cpy_s (by decide)]
      exact ih (t + 1) J (by omega) hF
  have k1 : ∀ d t, t + d = 8 → sm_V x 0 0 T (cpy I 104 (8 * i) 92 0 t) L 2 [some (.ref 76), some (.int (nI i)), some (.int (nI t))] [] := by
    intro d
    induction d with
    | zero =>
      intro t e
      have : t = 8 := by omega
      subst this
      refine u_X12_keepWalk_2 hB hx ⟨fun _ => ?_, fun q => absurd (nI_le (a := 8) (b := 8) (by omega) (by omega)) q⟩
      have go := k2 5 0 (cpy I 104 (8 * i) 92 0 8) (by omega) h
      rw [cpy_0] at go
      exact go
    | succ d ih =>
      intro t e
      refine u_X12_keepWalk_2 hB hx ⟨fun q => absurd q (nI_ge (b := 8) (by omega) (by omega)), fun _ => ?_⟩
      rw [i8_mul, nI_clamp (by omega), nI_clamp (by omega), nI_1]
      refine ⟨vp_in_nI (by omega) (by decide), vp_in_nI (by omega) (by decide), ?_⟩
      have e1 : (cpy I 104 (8 * i) 92 0 t) 92 t = (cpy I 104 (8 * i) 92 0 t) 92 (0 + t) := by rw [Nat.zero_add]
      rw [e1, cpy_s (by decide)]
      exact ih (t + 1) (by omega)
  have go := k1 8 0 (by omega)
  rw [cpy_0] at go
  exact go
theorem s_m_takeWalk {F : sm_MI → sm_ML → Prop} {i : Nat} (hB : sm_Bs T) (hi : i < 41) (h : F (cpy (cpy I 92 0 104 (8 * i) 8) 94 0 105 (5 * i) 5) L) : sm_CV n mX12_takeWalk T I L [.ref 76, .int (nI i)] F := by
  refine c_X12_takeWalk hB (fun x hx => ?_)
  have k2 : ∀ d t (J : sm_MI), t + d = 5 → F (cpy J 94 0 105 (5 * i) 5) L → sm_V x 0 0 T (cpy J 94 0 105 (5 * i) t) L 33 [some (.ref 76), some (.int (nI i)), some (.int (nI t))] [] := by
    intro d
    induction d with
    | zero =>
      intro t J e hF
      have : t = 5 := by omega
      subst this
      exact u_X12_takeWalk_33 hB hx ⟨fun _ => hF, fun q => absurd (nI_le (a := 5) (b := 5) (by omega) (by omega)) q⟩
    | succ d ih =>
      intro t J e hF
      refine u_X12_takeWalk_33 hB hx ⟨fun q => absurd q (nI_ge (b := 5) (by omega) (by omega)), fun _ => ?_⟩
      rw [i5_mul, nI_clamp (by omega), nI_clamp (by omega), nI_1]
      refine ⟨vp_in_nI (by omega) (by decide), vp_in_nI (by omega) (by decide), ?_⟩
      have e1 := cpy_s (I := J) (p := 94) (s := 0) (q := 105) (o := 5 * i) (t := t) (by decide)
      rw [Nat.zero_add] at e1
      rw [e1]
      exact ih (t + 1) J (by omega) hF
  have k1 : ∀ d t, t + d = 8 → sm_V x 0 0 T (cpy I 92 0 104 (8 * i) t) L 2 [some (.ref 76), some (.int (nI i)), some (.int (nI t))] [] := by
    intro d
    induction d with
    | zero =>
      intro t e
      have : t = 8 := by omega
      subst this
      refine u_X12_takeWalk_2 hB hx ⟨fun _ => ?_, fun q => absurd (nI_le (a := 8) (b := 8) (by omega) (by omega)) q⟩
      have go := k2 5 0 (cpy I 92 0 104 (8 * i) 8) (by omega) h
      rw [cpy_0] at go
      exact go
    | succ d ih =>
      intro t e
      refine u_X12_takeWalk_2 hB hx ⟨fun q => absurd q (nI_ge (b := 8) (by omega) (by omega)), fun _ => ?_⟩
      rw [i8_mul, nI_clamp (by omega), nI_clamp (by omega), nI_1]
      refine ⟨vp_in_nI (by omega) (by decide), vp_in_nI (by omega) (by decide), ?_⟩
      have e1 := cpy_s (I := I) (p := 92) (s := 0) (q := 104) (o := 8 * i) (t := t) (by decide)
      rw [Nat.zero_add] at e1
      rw [e1]
      exact ih (t + 1) (by omega)
  have go := k1 8 0 (by omega)
  rw [cpy_0] at go
  exact go
theorem nx_mod (hS : 0 < S) (i : Nat) : (i + 1) % S = nxw S (i % S) ∧ ν + (i + 1) / S = nxn S (i % S) (ν + i / S) := by
  have h1 := Nat.div_add_mod i S
  have h2 := Nat.mod_lt i hS
  unfold nxw nxn
  by_cases e : i % S + 1 = S
  · rw [if_pos e, if_pos e]
    have e1 : i + 1 = S * (i / S + 1) + 0 := by rw [Nat.mul_add, Nat.mul_one]; omega
    constructor
    · rw [e1, Nat.mul_add_mod]; exact Nat.zero_mod S
    · rw [e1, Nat.mul_add_div hS, Nat.zero_div]; omega
  · rw [if_neg e, if_neg e]
    have e1 : i + 1 = S * (i / S) + (i % S + 1) := by omega
    have h3 : i % S + 1 < S := by omega
    have e2 : (S * (i / S) + (i % S + 1)) % S = i % S + 1 := by rw [Nat.mul_add_mod, Nat.mod_eq_of_lt h3]
    have e3 : (S * (i / S) + (i % S + 1)) / S = i / S := by rw [Nat.mul_add_div hS, Nat.div_eq_of_lt h3, Nat.add_zero]
    rw [← e1] at e2 e3
    exact ⟨e2, by rw [e3]⟩
theorem m_odds_l (hB : sm_Bs T) (hR : mRL T W R I0) (hV : vE (E0 A lb 0) H S N R) (hS : 0 < S) (hlb : lb < 256) (ht : t < N) {r M ν0 : Nat} (hr : r ≤ 100) (hM : M ≤ 40) (hν0 : ν0 < 2 ^ 30) :
    ∀ (m fr : Nat) (F : Int64 → sm_MI → sm_ML → Prop) (I : sm_MI) (i : Nat) (s : Int32) (P : Int64), i + m = M → m + 8 ≤ fr → oP P → mD (E0 A lb 0) H S N I0 I → I 76 35 = nI r → I 76 44 = nI ν0 → (0 < i % S → I 94 (i % S - 1) = s) →
      (∀ I', Fr MOd I I' → (∀ j, j < 8 → I' 92 j = I 92 j) → (∀ j, j < 5 → I' 94 j = I 94 j) → (∀ j, j < 8 * i → I' 104 j = I 104 j) → (∀ j, j < 5 * i → I' 105 j = I 105 j) → F (od A W H S N lb t hh (nI r) m (i % S) (ν0 + i / S) (mU N (I 92)) s P) I' L) →
      sm_CL fr mX12_oddsFrom T I L [.ref 76, .int (nI i), .int (nI M), .int (nI t), .int hh, .long P] F := by
  have v3 := hV.2.2.1
  have v4 := hV.2.2.2.1
  intro m
  induction m with
  | zero =>
    intro fr F I i s P hi hf hP hD h35 h44 hs hF
    obtain ⟨f', rfl⟩ : ∃ f', fr = f' + 1 := ⟨fr - 1, by omega⟩
    have hiM : i = M := by omega
    subst hiM
    have g1 := hF I Fr.rf (fun _ _ => rfl) (fun _ _ => rfl) (fun _ _ => rfl) (fun _ _ => rfl)
    refine c_X12_oddsFrom hB (fun x hx => ⟨fun _ => ⟨fun q => absurd rfl q, fun _ => ⟨vp_in_nI (by omega) (by decide), ?_⟩⟩, fun q => ?_⟩)
    · rw [nI_clamp (by omega), ← mU_at (N := N) (I 92) ht]
      unfold od at g1
      refine ⟨fun q => ?_, fun q => ?_⟩
      · rw [if_neg q] at g1; exact g1
      · rw [if_pos q] at g1; exact g1
    · rw [lg_eq] at q
      subst q
      rw [od_0] at g1
      exact g1
  | succ m ih =>
    intro fr F I i s P hi hf hP hD h35 h44 hs hF
    obtain ⟨f', rfl⟩ : ∃ f', fr = f' + 1 := ⟨fr - 1, by omega⟩
    have hw : i % S < S := Nat.mod_lt _ hS
    obtain ⟨x1, x2⟩ := nx_mod (ν := ν0) hS i
    have hdle : i / S ≤ i := Nat.div_le_self _ _
    have e27 : I 76 27 = nI S := hD.1.1.2.1
    have b3 : I 89 (4 * (i % S) + 2) = A 3 (i % S) := (hD.1.2.1 (i % S) hw).2.2.1
    have hrem : nI i - nI i / nI S * nI S = nI (i % S) := pk_rem (by omega) hS (by omega)
    have hdiv : nI i / nI S = nI (i / S) := pk_div (by omega) hS (by omega)
    generalize hw0 : i % S = w at hw x1 x2 b3 hrem hs hF
    generalize hν1 : ν0 + i / S = ν1 at x2 hF
    obtain ⟨fe, hfe⟩ : ∃ fe, fe = if A 3 w = 3 then odF P (nI r) else 0 := ⟨_, rfl⟩
    obtain ⟨q1, q2, q3⟩ := odF_in hP hr
    have hfP : oP fe ∧ oP (P - fe) := by
      rw [hfe]
      by_cases q : A 3 w = 3
      · rw [if_pos q]; exact ⟨q1, q3⟩
      · rw [if_neg q, Int64.sub_zero]; exact ⟨⟨by decide, by decide⟩, hP⟩
    -- the walk, both halves
    have body : ∀ (x : sm_Cx), sm_Ok x mX12_oddsFrom (f' + 1) (sm_KL T F) → sm_V x 0 0 T I L 80 [some (.ref 76), some (.int (nI i)), some (.int (nI M)), some (.int (nI t)), some (.int hh), some (.long P), none, some (.int (nI w)), some (.int (nI ν1)), none, none, none, none] [.long fe] := by
      intro x hx
      obtain ⟨f6, rfl⟩ : ∃ f6, f' = f6 + 6 := ⟨f' - 6, by omega⟩
      refine u_X12_oddsFrom_80 hB hx (s_m_keepWalk (i := i) hB (by omega) ?_)
      obtain ⟨J, hJ⟩ : ∃ J, J = cpy (cpy I 104 (8 * i) 92 0 8) 105 (5 * i) 94 0 5 := ⟨_, rfl⟩
      rw [← hJ]
      have fJ : Fr MOd I J := by rw [hJ]; exact cpy_fr (cpy_fr Fr.rf (fun _ => by simp [MOd])) (fun _ => by simp [MOd])
      have J92 : J 92 = I 92 := by rw [hJ, cpy_ne (by decide), cpy_ne (by decide)]
      have J94 : J 94 = I 94 := by rw [hJ, cpy_ne (by decide), cpy_ne (by decide)]
      have J104 : ∀ j, j < 8 → J 104 (8 * i + j) = I 92 j := by
        intro j hj
        rw [hJ, cpy_ne (by decide), cpy_in (by omega) (by omega)]
        congr 1; omega
      have J105 : ∀ j, j < 5 → J 105 (5 * i + j) = I 94 j := by
        intro j hj
        rw [hJ, cpy_in (by omega) (by omega), cpy_ne (by decide)]
        congr 1; omega
      have J104' : ∀ j, j < 8 * i → J 104 j = I 104 j := by
        intro j hj
        rw [hJ, cpy_ne (by decide), cpy_out (by omega)]
      have J105' : ∀ j, j < 5 * i → J 105 j = I 105 j := by
        intro j hj
        rw [hJ, cpy_out (by omega), cpy_ne (by decide)]
      clear hJ
      have mdO : ∀ {I1 I2 : sm_MI}, mD (E0 A lb 0) H S N I0 I1 → Fr MOd I1 I2 → mD (E0 A lb 0) H S N I0 I2 := by
        intro I1 I2 h hf2
        have g : ∀ k j, MOd k j = false → I2 k j = I1 k j := hf2
        obtain ⟨⟨⟨a1, a2, a3, a4, a5⟩, b, ⟨c1, c2⟩⟩, hq⟩ := h
        refine ⟨⟨⟨(g 76 26 rfl).trans a1, (g 76 27 rfl).trans a2, (g 76 28 rfl).trans a3, (g 76 29 rfl).trans a4, (g 76 30 rfl).trans a5⟩, fun w hw => ?_, ⟨(g 76 33 rfl).trans c1, (g 76 39 rfl).trans c2⟩⟩, fun k h1 h2 => (hf2.at k (fun j => ?_)).trans (hq k h1 h2)⟩
        · obtain ⟨b1, b2, b3, b4, b5, b6⟩ := b w hw
          exact ⟨(g 89 _ rfl).trans b1, (g 89 _ rfl).trans b2, (g 89 _ rfl).trans b3, (g 89 _ rfl).trans b4, (g 91 w rfl).trans b5, (g 93 w rfl).trans b6⟩
        · rw [Bool.eq_false_iff]
          intro q
          simp only [MOd, MW, Bool.or_eq_true, beq_iff_eq] at q
          omega
      have MW_MOd : ∀ k j, MOd k j = false → MW k j = false := fun k j h => (Bool.or_eq_false_iff.mp (Bool.or_eq_false_iff.mp h).1).1
      have hu1 : mU N (J 92) = mU N (I 92) := by rw [J92]
      refine s_m_walk (n := f6) (fv := false) (s := s) hB hR hV (mdO hD fJ) hw hlb rfl (fun q => absurd q (by decide)) (fun q => by rw [J94]; exact hs q) (fun I2 f2 h94 hu2 => ?_)
      rw [hu1] at h94 hu2
      have fI2 : Fr MOd I I2 := fJ.tr (f2.mono MW_MOd)
      have unf : od A W H S N lb t hh (nI r) (m + 1) w ν1 (mU N (I 92)) s P = od A W H S N lb t hh (nI r) m (nxw S w) (nxn S w ν1) (crU (mU N (I 92)) (w_o (E0 A lb 0) H N w (strE (E0 A lb 0) W N ν1 w false s (mU N (I 92))) (mU N (I 92))) (w_b (E0 A lb 0) H w (strE (E0 A lb 0) W N ν1 w false s (mU N (I 92))))) (strE (E0 A lb 0) W N ν1 w false s (mU N (I 92))) (P - fe) + (if lg_cmp fe 0 ≤ 0 then 0 else od A W H S N lb t hh (nI r) m (nxw S w) (nxn S w ν1) (mU N (I 92)) 0 fe) := by rw [hfe]; rfl
      rw [unf] at hF
      rw [nI_1]
      -- taken back to how it stood
      have back : ∀ (I4 : sm_MI) (G : sm_MI → sm_ML → Prop), Fr MOd I I4 → (∀ j, j < 8 * (i + 1) → I4 104 j = J 104 j) → (∀ j, j < 5 * (i + 1) → I4 105 j = J 105 j) → (∀ I6 : sm_MI, Fr MOd I I6 → (∀ j, j < 8 → I6 92 j = I 92 j) → (∀ j, j < 5 → I6 94 j = I 94 j) → I6 104 = I4 104 → I6 105 = I4 105 → G I6 L) → sm_CV (f6 + 6) mX12_takeWalk T I4 L [.ref 76, .int (nI i)] G := by
        intro I4 G f4 k104 k105 hG
        refine s_m_takeWalk (i := i) hB (by omega) (hG _ (cpy_fr (cpy_fr f4 (fun _ => by simp [MOd, MW])) (fun _ => by simp [MOd, MW])) (fun j hj => ?_) (fun j hj => ?_) ?_ ?_)
        · rw [cpy_ne (by decide), cpy_in (by omega) (by omega), show 8 * i + (j - 0) = 8 * i + j by omega, k104 _ (by omega), J104 j hj]
        · rw [cpy_in (by omega) (by omega), cpy_ne (by decide), show 5 * i + (j - 0) = 5 * i + j by omega, k105 _ (by omega), J105 j hj]
        · rw [cpy_ne (by decide), cpy_ne (by decide)]
        · rw [cpy_ne (by decide), cpy_ne (by decide)]
      refine ih (f6 + 6) _ I2 (i + 1) (strE (E0 A lb 0) W N ν1 w false s (mU N (I 92))) (P - fe) (by omega) (by omega) hfP.2 (mdO hD fI2) ((fI2 76 35 rfl).trans h35) ((fI2 76 44 rfl).trans h44) (fun q => ?_) (fun I4 f4 g92 g94 g104 g105 => ?_)
      · rw [x1] at q ⊢
        unfold nxw at q ⊢
        by_cases e : w + 1 = S
        · rw [if_pos e] at q; exact absurd q (by decide)
        · rw [if_neg e, Nat.add_sub_cancel, h94, pk_us]
      rw [x1, x2, hu2]
      have e4 : ∀ j, j < 8 * (i + 1) → I4 104 j = J 104 j := fun j hj => by rw [g104 j hj, f2.at 104 (fun _ => rfl)]
      have e5 : ∀ j, j < 5 * (i + 1) → I4 105 j = J 105 j := fun j hj => by rw [g105 j hj, f2.at 105 (fun _ => rfl)]
      refine back I4 _ (fI2.tr f4) e4 e5 (fun I6 f6' k92 k94 k104 k105 => ⟨fun q => ?_, fun q => ?_⟩)
      · rw [if_pos q, Int64.add_zero] at hF
        exact hF I6 f6' k92 k94 (fun j hj => by rw [k104, e4 j (by omega), J104' j hj]) (fun j hj => by rw [k105, e5 j (by omega), J105' j hj])
      · rw [if_neg q] at hF
        have hu6 : mU N (I6 92) = mU N (I 92) := by
          funext y
          unfold mU
          by_cases hy : y < N
          · rw [if_pos hy, if_pos hy, k92 y (by omega)]
          · rw [if_neg hy, if_neg hy]
        have h3 : A 3 w = 3 := by
          by_cases e : A 3 w = 3
          · exact e
          · rw [hfe, if_neg e] at q; exact absurd (by decide) q
        refine s_m_walk (n := f6) (fv := true) (s := s) (ν := ν1) hB hR hV (mdO hD f6') hw hlb rfl (fun _ => h3) (fun y => by rw [k94 _ (by omega)]; exact hs y) (fun I7 f7 h94' hu7 => ?_)
        have est : strE (E0 A lb 0) W N ν1 w true s (mU N (I6 92)) = 0 := by
          unfold strE
          by_cases y : nI w = (E0 A lb 0) 0 1
          · rw [if_pos y]
          · rw [if_neg y, if_pos rfl]
        rw [est, hu6] at hu7
        rw [est] at h94'
        have hno : w_o (E0 A lb 0) H N w 0 (mU N (I 92)) = none := by
          unfold w_o
          refine crO_none (Or.inr (Or.inl ?_))
          have h4 : ¬ (E0 A lb 0) 3 w = 4 := fun y => by
            have y1 : A 3 w = 4 := y
            rw [h3] at y1; exact absurd y1 (by decide)
          unfold w_a w_b
          rw [if_neg h4, if_neg h4]
          obtain ⟨k, hk, e1⟩ := (hV.2.2.2.2.2 w hw).1
          have hH := hV.2.1
          rw [e1, Int32.add_zero, fmN_nat hk (by omega)]
        rw [hno] at hu7
        have fI7 : Fr MOd I I7 := f6'.tr (f7.mono MW_MOd)
        refine ih (f6 + 6) _ I7 (i + 1) 0 fe (by omega) (by omega) hfP.1 (mdO hD fI7) ((fI7 76 35 rfl).trans h35) ((fI7 76 44 rfl).trans h44) (fun y => ?_) (fun I9 f9 j92 j94 j104 j105 => ?_)
        · rw [x1] at y ⊢
          unfold nxw at y ⊢
          by_cases e : w + 1 = S
          · rw [if_pos e] at y; exact absurd y (by decide)
          · rw [if_neg e, Nat.add_sub_cancel, h94', pk_us]
        rw [x1, x2, hu7]
        have e4' : ∀ j, j < 8 * (i + 1) → I9 104 j = J 104 j := fun j hj => by rw [j104 j hj, f7.at 104 (fun _ => rfl), k104, e4 j hj]
        have e5' : ∀ j, j < 5 * (i + 1) → I9 105 j = J 105 j := fun j hj => by rw [j105 j hj, f7.at 105 (fun _ => rfl), k105, e5 j hj]
        refine back I9 _ (fI7.tr f9) e4' e5' (fun I11 f11 l92 l94 l104 l105 => ?_)
        exact hF I11 f11 l92 l94 (fun j hj => by rw [l104, e4' j (by omega), J104' j hj]) (fun j hj => by rw [l105, e5' j (by omega), J105' j hj])
    refine c_X12_oddsFrom hB (fun x hx => ⟨fun _ => ⟨fun _ => ?_, fun q => absurd ((nI_eq (by omega) (by omega)).mp q) (by omega)⟩, fun q => ?_⟩)
    · rw [e27, hrem, hdiv, h44, nI_add, hν1]
      refine ⟨nI_ne0 hS (by omega), nI_ne0 hS (by omega), s_m_of (k := 2) hB (by omega) (by decide) ?_⟩
      rw [b3, h35]
      have hb := body x hx
      refine ⟨fun q => ?_, fun q => ?_⟩
      · rw [hfe, if_neg q] at hb; exact hb
      · rw [hfe, if_pos q] at hb; exact hb
    · rw [lg_eq] at q
      subst q
      have g1 := hF I Fr.rf (fun _ _ => rfl) (fun _ _ => rfl) (fun _ _ => rfl) (fun _ _ => rfl)
      rw [od_0] at g1
      exact g1
end
