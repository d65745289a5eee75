/-! ===== nights of the model's, with what is kept of them ===== -/
def PKm (k j : Nat) : Bool := k == 95 || (k == 76 && j == 42)
def PMN (k j : Nat) : Bool := MN k j || PKm k j
def pMst (N : Nat) (h : Nat → uD) (tot ct : Nat) (I : sm_MI) (L : sm_ML) : Prop := ct = min tot 60 ∧ I 76 42 = nI ct ∧ ∀ m, m < ct → mU N (fun t => I 95 (8 * m + t)) = (h (tot - ct + m)).1 ∧ L 96 m = (h (tot - ct + m)).2
def shI (I : sm_MI) (a : Nat) : sm_MI := fun k j => if k = 95 then (if j + 8 < a then I 95 (j + 8) else I 95 j) else I k j
def shL (L : sm_ML) (a : Nat) : sm_ML := fun k j => if k = 96 then (if j + 1 < a then L 96 (j + 1) else L 96 j) else L k j
def f95 (I : sm_MI) (c t : Nat) : sm_MI := fun k j => if k = 95 then (if 8 * c ≤ j ∧ j < 8 * c + t then I 92 (j - 8 * c) else I 95 j) else I k j
section
variable {n : Nat} {T : List sm_Sh} {I I' I1 : sm_MI} {L L' : sm_ML} {A : Nat → Nat → Int32} {H S N R ν lb b ν' lb' b' : Nat} {W : Nat → (Nat → Int32) → Int32} {f u : Nat → Int32} {g g' : Int32} {r : Nat}
theorem shI_s {a : Nat} (h : 8 ≤ a) : sm_uI (shI I a) 95 (a - 8) ((shI I a) 95 a) = shI I (a + 1) := by
  funext k j
  unfold sm_uI shI
  by_cases hk : k = 95
  · by_cases hj : j = a - 8
    · subst hj
      have h1 : ¬ a + 8 < a := by omega
      have h2 : a - 8 + 8 < a + 1 := by omega
      have h3 : a - 8 + 8 = a := by omega
      simp only [hk, if_true, if_neg h1, h3]
      rw [if_pos (Nat.lt_succ_self a)]
    · have : (j + 8 < a + 1) = (j + 8 < a) := by apply propext; omega
      simp only [hk, if_true, if_neg hj, this]
  · simp only [if_neg hk]
theorem shL_s {a : Nat} (h : 1 ≤ a) : sm_uL (shL L a) 96 (a - 1) ((shL L a) 96 a) = shL L (a + 1) := by
  funext k j
  unfold sm_uL shL
  by_cases hk : k = 96
  · by_cases hj : j = a - 1
    · subst hj
      have h1 : ¬ a + 1 < a := by omega
      have h2 : a - 1 + 1 < a + 1 := by omega
      have h3 : a - 1 + 1 = a := by omega
      simp only [hk, if_true, if_neg h1, h3]
      rw [if_pos (Nat.lt_succ_self a)]
    · have : (j + 1 < a + 1) = (j + 1 < a) := by apply propext; omega
      simp only [hk, if_true, if_neg hj, this]
  · simp only [if_neg hk]
theorem f95_s {c t : Nat} : sm_uI (f95 I c t) 95 (8 * c + t) ((f95 I c t) 92 t) = f95 I c (t + 1) := by
  funext k j
  unfold sm_uI f95
  by_cases hk : k = 95
  · by_cases hj : j = 8 * c + t
    · subst hj
      have h1 : 8 * c ≤ 8 * c + t ∧ 8 * c + t < 8 * c + (t + 1) := by omega
      have h2 : 8 * c + t - 8 * c = t := by omega
      have h3 : ¬ ((92 : Nat) = 95) := by decide
      simp only [hk, if_true, if_pos h1, h2, if_neg h3]
    · have : (8 * c ≤ j ∧ j < 8 * c + (t + 1)) = (8 * c ≤ j ∧ j < 8 * c + t) := by apply propext; omega
      simp only [hk, if_true, if_neg hj, this]
  · simp only [if_neg hk]
theorem s_m_keep80 {F : sm_MI → sm_ML → Prop} {x : sm_Cx} {c : Nat} (hB : sm_Bs T) (hc : c < 60) (hx : sm_Ok x mX12_keep n (sm_KV T F)) (hI : I 76 42 = nI c) (h : F (sm_uI (f95 I c 8) 76 42 (nI (c + 1))) (sm_uL L 96 c (L 76 36))) :
    ∀ d t, t + d = 8 → sm_V x 0 0 T (f95 I c t) L 80 [some (.ref 76), some (.int (nI t))] []
  | 0, t, e => by
    have : t = 8 := by omega
    subst this
    have e42 : (f95 I c 8) 76 42 = nI c := hI
    refine u_X12_keep_80 hB hx ⟨fun _ => ?_, fun q => absurd (nI_le (a := 8) (b := 8) (by omega) (by omega)) q⟩
    rw [e42, nI_clamp (by omega), nI_1]
    exact ⟨vp_in_nI hc (by decide), h⟩
  | d + 1, t, e => by
    have e42 : (f95 I c t) 76 42 = nI c := hI
    have e8 : (8 : Int32) * nI c + nI t = nI (8 * c + t) := by
      have : (8 : Int32) * nI c = nI (8 * c) := pk_mul 8 c
      rw [this, nI_add]
    refine u_X12_keep_80 hB hx ⟨fun q => absurd q (nI_ge (b := 8) (by omega) (by omega)), fun _ => ?_⟩
    rw [e42, e8, nI_clamp (by omega), nI_clamp (by omega), nI_1]
    refine ⟨vp_in_nI (by omega) (by decide), vp_in_nI (by omega) (by decide), ?_⟩
    rw [f95_s]
    exact s_m_keep80 hB hc hx hI h d (t + 1) (by omega)
theorem f95_0 {c : Nat} : f95 I c 0 = I := by
  funext k j
  unfold f95
  by_cases hk : k = 95
  · have : ¬ (8 * c ≤ j ∧ j < 8 * c + 0) := by omega
    simp only [hk, if_true, if_neg this]
  · simp only [if_neg hk]
theorem s_m_keep {F : sm_MI → sm_ML → Prop} {h : Nat → uD} {tot ct : Nat} (hB : sm_Bs T) (h8 : N ≤ 8) (hp : pMst N h tot ct I L) (hu : mU N (I 92) = (h tot).1) (hd : L 76 36 = (h tot).2)
    (k : ∀ I' L', Fr PKm I I' → (∀ j, j ≠ 96 → L' j = L j) → (∃ ct', pMst N h (tot + 1) ct' I' L') → F I' L') : sm_CV n mX12_keep T I L [.ref 76] F := by
  obtain ⟨h1, h2, h3⟩ := hp
  have fin : ∀ (I2 : sm_MI) (L2 : sm_ML) (c : Nat) (x : sm_Cx), sm_Ok x mX12_keep n (sm_KV T F) → c = min tot 59 → I2 76 42 = nI c → Fr PKm I I2 → (∀ j, j ≠ 96 → L2 j = L j) → (∀ m, m < c → mU N (fun t => I2 95 (8 * m + t)) = (h (tot - c + m)).1 ∧ L2 96 m = (h (tot - c + m)).2) → sm_V x 0 0 T I2 L2 80 [some (.ref 76), some (.int 0)] [] := by
    intro I2 L2 c x hx hc e42 f2 l2 hm
    have go := s_m_keep80 (F := F) (I := I2) (L := L2) (c := c) hB (by omega) hx e42 ?_ 8 0 (by omega)
    · rw [f95_0] at go; exact go
    · refine k _ _ ?_ (fun j hj => ?_) ⟨c + 1, by omega, rfl, fun m hm' => ?_⟩
      · refine Fr.u ?_ rfl
        intro a j q
        have ha : a ≠ 95 := fun e => by subst e; exact absurd q (by simp [PKm])
        unfold f95
        rw [if_neg ha]
        exact f2 a j q
      · rw [sm_uL_ne hj]; exact l2 j hj
      · have e95 : ∀ t, t < N → (sm_uI (f95 I2 c 8) 76 42 (nI (c + 1))) 95 (8 * m + t) = if m = c then I 92 t else I2 95 (8 * m + t) := by
          intro t ht
          rw [sm_uI_ne (by decide)]
          unfold f95
          rw [if_pos rfl]
          by_cases q : m = c
          · subst q
            rw [if_pos (by omega), if_pos rfl, Nat.add_sub_cancel_left, f2 92 t rfl]
          · rw [if_neg (by omega), if_neg q]
        have eU : mU N (fun t => (sm_uI (f95 I2 c 8) 76 42 (nI (c + 1))) 95 (8 * m + t)) = if m = c then mU N (I 92) else mU N (fun t => I2 95 (8 * m + t)) := by
          funext t
          by_cases ht : t < N
          · rw [mU_at _ ht, e95 t ht]
            by_cases q : m = c
            · rw [if_pos q, if_pos q, mU_at _ ht]
            · rw [if_neg q, if_neg q, mU_at _ ht]
          · by_cases q : m = c
            · rw [if_pos q]; unfold mU; rw [if_neg ht, if_neg ht]
            · rw [if_neg q]; unfold mU; rw [if_neg ht, if_neg ht]
        rw [eU]
        by_cases q : m = c
        · subst q
          have et : tot + 1 - (m + 1) + m = tot := by omega
          rw [if_pos rfl, et, hu]
          refine ⟨rfl, ?_⟩
          rw [sm_uL_s, l2 76 (by decide), hd]
        · obtain ⟨g1, g2⟩ := hm m (by omega)
          have et : tot + 1 - (c + 1) + m = tot - c + m := by omega
          rw [if_neg q, et]
          refine ⟨g1, ?_⟩
          have : (sm_uL L2 96 c (L2 76 36)) 96 m = L2 96 m := by simp [sm_uL, q]
          rw [this, g2]
  refine c_X12_keep hB (fun x hx => ⟨fun q => ?_, fun q => ?_⟩)
  · have : ct ≠ 60 := fun e => q (by rw [h2, e]; rfl)
    exact fin I L ct x hx (by omega) h2 Fr.rf (fun _ _ => rfl) h3
  · have hct : ct = 60 := by
      rw [h2] at q
      exact (nI_eq (a := ct) (b := 60) (by omega) (by decide)).mp q
    subst hct
    have k42 : ∀ d a (L2 : sm_ML), a + d = 60 → 1 ≤ a → L2 = shL L a → sm_V x 0 0 T (shI I 480) L2 42 [some (.ref 76), some (.int (nI a))] [] := by
      intro d
      induction d with
      | zero =>
        intro a L2 e ha hL2
        have : a = 60 := by omega
        subst this
        subst hL2
        refine u_X12_keep_42 hB hx ⟨fun _ => ?_, fun q => absurd (nI_le (a := 60) (b := 60) (by omega) (by omega)) q⟩
        have e42 : (shI I 480) 76 42 - 1 = nI 59 := by
          have : (shI I 480) 76 42 = nI 60 := h2
          rw [this]
          exact pk_sub (a := 60) (b := 1) (by decide)
        rw [e42]
        refine fin _ _ 59 x hx (by omega) rfl ?_ (fun j hj => ?_) (fun m hm => ?_)
        · refine Fr.u ?_ rfl
          intro a j q
          have ha : a ≠ 95 := fun e => by subst e; exact absurd q (by simp [PKm])
          unfold shI
          rw [if_neg ha]
        · unfold shL
          funext i
          rw [if_neg hj]
        · obtain ⟨g1, g2⟩ := h3 (m + 1) (by omega)
          have et : tot - 59 + m = tot - 60 + (m + 1) := by omega
          rw [et, ← g1, ← g2]
          constructor
          · funext t
            unfold mU
            by_cases ht : t < N
            · rw [if_pos ht, if_pos ht, sm_uI_ne (by decide)]
              show (if (95 : Nat) = 95 then (if 8 * m + t + 8 < 480 then I 95 (8 * m + t + 8) else I 95 (8 * m + t)) else I 95 (8 * m + t)) = I 95 (8 * (m + 1) + t)
              rw [if_pos rfl, if_pos (by omega), show 8 * m + t + 8 = 8 * (m + 1) + t by omega]
            · rw [if_neg ht, if_neg ht]
          · unfold shL
            rw [if_pos rfl, if_pos (by omega)]
      | succ d ih =>
        intro a L2 e ha hL2
        subst hL2
        refine u_X12_keep_42 hB hx ⟨fun q => absurd q (nI_ge (b := 60) (by omega) (by omega)), fun _ => ?_⟩
        have e1 : nI a - 1 = nI (a - 1) := pk_sub (a := a) (b := 1) ha
        rw [e1, nI_clamp (by omega), nI_clamp (by omega), nI_1, shL_s ha]
        exact ⟨vp_in_nI (by omega) (by decide), vp_in_nI (by omega) (by decide), ih (a + 1) _ (by omega) (by omega) rfl⟩
    have k12 : ∀ d a, a + d = 480 → 8 ≤ a → sm_V x 0 0 T (shI I a) L 12 [some (.ref 76), some (.int (nI a))] [] := by
      intro d
      induction d with
      | zero =>
        intro a e ha
        have : a = 480 := by omega
        subst this
        refine u_X12_keep_12 hB hx ⟨fun _ => k42 59 1 L (by omega) (by decide) ?_, fun q => absurd (nI_le (a := 480) (b := 480) (by omega) (by omega)) q⟩
        funext k j
        unfold shL
        by_cases hk : k = 96
        · have : ¬ j + 1 < 1 := by omega
          rw [if_pos hk, if_neg this, hk]
        · rw [if_neg hk]
      | succ d ih =>
        intro a e ha
        refine u_X12_keep_12 hB hx ⟨fun q => absurd q (nI_ge (b := 480) (by omega) (by omega)), fun _ => ?_⟩
        have e1 : nI a - 8 = nI (a - 8) := pk_sub (a := a) (b := 8) ha
        rw [e1, nI_clamp (by omega), nI_clamp (by omega), nI_1, shI_s ha]
        exact ⟨vp_in_nI (by omega) (by decide), vp_in_nI (by omega) (by decide), ih (a + 1) (by omega) (by omega)⟩
    have e8 : shI I 8 = I := by
      funext k j
      unfold shI
      by_cases hk : k = 95
      · have : ¬ j + 8 < 8 := by omega
        rw [if_pos hk, if_neg this, hk]
      · rw [if_neg hk]
    have go := k12 472 8 (by omega) (by decide)
    rw [e8] at go
    exact go
end
