/-! ===== odds ===== -/
def odF (P : Int64) (r : Int32) : Int64 := (P * Int32.toInt64 r) / 100
def nxw (S w : Nat) : Nat := if w + 1 = S then 0 else w + 1
def nxn (S w ν : Nat) : Nat := if w + 1 = S then ν + 1 else ν
def od (A : Nat → Nat → Int32) (W : Nat → (Nat → Int32) → Int32) (H S N lb t : Nat) (hh r : Int32) : Nat → Nat → Nat → (Nat → Int32) → Int32 → Int64 → Int64
  | 0, _, _, u, _, P => if u t = hh then P else 0
  | m + 1, w, ν, u, s, P =>
    od A W H S N lb t hh r m (nxw S w) (nxn S w ν) (crU u (w_o (E0 A lb 0) H N w (strE (E0 A lb 0) W N ν w false s u) u) (w_b (E0 A lb 0) H w (strE (E0 A lb 0) W N ν w false s u))) (strE (E0 A lb 0) W N ν w false s u) (P - (if A 3 w = 3 then odF P r else 0)) +
      (if lg_cmp (if A 3 w = 3 then odF P r else 0) 0 ≤ 0 then 0 else od A W H S N lb t hh r m (nxw S w) (nxn S w ν) u 0 (if A 3 w = 3 then odF P r else 0))
theorem odF_0 (r : Int32) : odF 0 r = 0 := by
  unfold odF
  rw [Int64.zero_mul]
  decide
theorem lg_eq (x y : Int64) : lg_cmp x y = 0 ↔ x = y := by
  unfold lg_cmp
  by_cases h : x > y
  · rw [if_pos h]
    refine ⟨fun g => absurd g (by decide), fun g => ?_⟩
    subst g
    exact absurd ((fa_lt64 x x).mp h) (Int.lt_irrefl _)
  · rw [if_neg h]
    by_cases e : x = y
    · rw [if_pos e]; exact ⟨fun _ => e, fun _ => rfl⟩
    · rw [if_neg e]; exact ⟨fun g => absurd g (by decide), fun g => absurd g e⟩
theorem lg_le (x y : Int64) : lg_cmp x y ≤ 0 ↔ x.toInt ≤ y.toInt := by
  unfold lg_cmp
  by_cases h : x > y
  · rw [if_pos h]
    have := (fa_lt64 y x).mp h
    exact ⟨fun g => absurd g (by decide), fun g => by omega⟩
  · rw [if_neg h]
    have h' : ¬ y.toInt < x.toInt := fun g => h ((fa_lt64 y x).mpr g)
    by_cases e : x = y
    · rw [if_pos e, e]
      exact ⟨fun _ => Int.le_refl _, fun _ => by decide⟩
    · rw [if_neg e]
      exact ⟨fun _ => by omega, fun _ => by decide⟩
def oP (P : Int64) : Prop := 0 ≤ P.toInt ∧ P.toInt ≤ 1000000000
theorem odF_in {P : Int64} {r : Nat} (hP : oP P) (hr : r ≤ 100) : oP (odF P (nI r)) ∧ (odF P (nI r)).toInt ≤ P.toInt ∧ oP (P - odF P (nI r)) := by
  obtain ⟨h1, h2⟩ := hP
  obtain ⟨p, hp⟩ : ∃ p : Nat, P.toInt = p := ⟨P.toInt.toNat, by omega⟩
  have e1 : (Int32.toInt64 (nI r)).toInt = r := by rw [Int32.toInt_toInt64, nI_toInt (by omega)]
  have hpr : p * r ≤ 1000000000 * 100 := Nat.mul_le_mul (by omega) hr
  have e2 : (P * Int32.toInt64 (nI r)).toInt = ((p * r : Nat) : Int) := by
    rw [Int64.toInt_mul, hp, e1, show (p : Int) * (r : Int) = ((p * r : Nat) : Int) by rw [Int.natCast_mul]]
    apply Int.bmod_eq_of_le <;> omega
  have h100 : (100 : Int64).toInt = 100 := by decide
  have e3 : (odF P (nI r)).toInt = ((p * r / 100 : Nat) : Int) := by
    unfold odF
    rw [Int64.toInt_div_of_ne_right _ _ (by decide), e2, h100]
    exact Int.ofNat_tdiv (p * r) 100
  have hle : p * r / 100 ≤ p := by
    have : p * r ≤ p * 100 := Nat.mul_le_mul_left p hr
    omega
  have e4 : (P - odF P (nI r)).toInt = ((p - p * r / 100 : Nat) : Int) := by
    rw [Int64.toInt_sub, e3, hp, show (p : Int) - ((p * r / 100 : Nat) : Int) = ((p - p * r / 100 : Nat) : Int) by omega]
    apply Int.bmod_eq_of_le <;> omega
  refine ⟨⟨by omega, by omega⟩, by omega, ⟨by omega, by omega⟩⟩
section
variable {n : Nat} {T : List sm_Sh} {I I' I1 I0 : sm_MI} {L L' : sm_ML} {A : Nat → Nat → Int32} {H S N R ν lb b ν' lb' b' t w : Nat} {W : Nat → (Nat → Int32) → Int32} {f u : Nat → Int32} {g g' hh r s : Int32}
theorem od_0 : ∀ (m w ν : Nat) (u : Nat → Int32) (s : Int32), od A W H S N lb t hh r m w ν u s 0 = 0
  | 0, _, _, _, _ => by unfold od; split <;> rfl
  | m + 1, w, ν, u, s => by
    have e : (if A 3 w = 3 then odF 0 r else (0 : Int64)) = 0 := by
      by_cases q : A 3 w = 3
      · rw [if_pos q, odF_0]
      · rw [if_neg q]
    unfold od
    rw [e, show (0 : Int64) - 0 = 0 by decide, od_0 m, if_pos (by decide)]
    decide
/-- one walk of the dream, without fever -/
theorem s_walk_o {F : sm_MI → sm_ML → Prop} (hB : sm_Bs T) (hR : sRL T W R I0) (hV : vE (E0 A lb g) H S N R) (hD : cD (E0 A lb g) W H S N R I0 ν I) (hw : w < S) (hν : ν < 2 ^ 31)
    (h : ∀ I' : sm_MI, Fr PW I I' → cD (E0 A lb g) W H S N R I0 ν I' → cU N (I' 53 0) = crU (cU N (I 53 0)) (w_o (E0 A lb 0) H N w (strE (E0 A lb 0) W N ν w false (I 53 13) (cU N (I 53 0))) (cU N (I 53 0))) (w_b (E0 A lb 0) H w (strE (E0 A lb 0) W N ν w false (I 53 13) (cU N (I 53 0)))) → I' 53 13 = strE (E0 A lb 0) W N ν w false (I 53 13) (cU N (I 53 0)) → F I' L) : sm_CV (n + 5) mX0_walk T I L [.ref 53, .int (nI w)] F := by
  refine s_walk (n := n) (z := (cU N (I 53 0), I 53 13, L 53 3, I 57, I 59)) hB hR hV hD ⟨rfl, rfl, rfl, rfl, rfl⟩ hw hν (fun I' f1 hD1 hz1 => ?_)
  have e3 : (wst (E0 A lb g) W H N ν w (cU N (I 53 0), I 53 13, L 53 3, I 57, I 59)).2.2.1 = L 53 3 := by
    show fvD (E0 A lb g) w (L 53 3) = L 53 3
    unfold fvD
    rw [fvC_0 rfl, if_neg (by decide)]
  rw [e3, sm_uL_id rfl] at hz1 ⊢
  obtain ⟨z1, z2, _, _, _⟩ := hz1
  have est : strE (E0 A lb g) W N ν w (fvB (E0 A lb g) w (L 53 3)) (I 53 13) (cU N (I 53 0)) = strE (E0 A lb 0) W N ν w false (I 53 13) (cU N (I 53 0)) := by
    rw [fvB_0 rfl]; exact strE_mk
  refine h I' f1 hD1 (z1.trans ?_) (z2.trans est)
  show crU (cU N (I 53 0)) (w_o (E0 A lb g) H N w (strE (E0 A lb g) W N ν w (fvB (E0 A lb g) w (L 53 3)) (I 53 13) (cU N (I 53 0))) (cU N (I 53 0))) (w_b (E0 A lb g) H w (strE (E0 A lb g) W N ν w (fvB (E0 A lb g) w (L 53 3)) (I 53 13) (cU N (I 53 0)))) = _
  rw [est]
  rfl
/-- feverish walks among the next m -/
def cfv (A : Nat → Nat → Int32) (S : Nat) : Nat → Nat → Nat
  | 0, _ => 0
  | m + 1, w => (if A 3 w = 3 then 1 else 0) + cfv A S m (nxw S w)
def fcnt (A : Nat → Nat → Int32) (S : Nat) : Nat := cntOf (fun w => decide (A 3 w = 3)) S
theorem cfv_add (hS : 0 < S) : ∀ (d w m : Nat), w + d = S → 0 < d → cfv A S (d + m) w + cntOf (fun w => decide (A 3 w = 3)) w = fcnt A S + cfv A S m 0
  | 0, w, m, _, h => absurd h (by decide)
  | 1, w, m, e, _ => by
    have e1 : nxw S w = 0 := by unfold nxw; rw [if_pos e]
    have e2 : 1 + m = m + 1 := by omega
    rw [e2, cfv, e1]
    unfold fcnt
    rw [← e, cntOf]
    by_cases q : A 3 w = 3
    · rw [if_pos q, if_pos (by simpa using q)]; omega
    · rw [if_neg q, if_neg (by simpa using q)]; omega
  | d + 2, w, m, e, _ => by
    have e1 : nxw S w = w + 1 := by unfold nxw; rw [if_neg (by omega)]
    have ih := cfv_add hS (d + 1) (w + 1) m (by omega) (by omega)
    rw [show d + 2 + m = (d + 1 + m) + 1 by omega, cfv, e1]
    rw [cntOf] at ih
    by_cases q : A 3 w = 3
    · rw [if_pos (by simpa using q)] at ih
      rw [if_pos q]; omega
    · rw [if_neg (by simpa using q)] at ih
      rw [if_neg q]; omega
theorem cfv_all (hS : 0 < S) : ∀ n, cfv A S (n * S) 0 = n * fcnt A S
  | 0 => by rw [Nat.zero_mul, Nat.zero_mul]; rfl
  | n + 1 => by
    have h := cfv_add (A := A) hS S 0 (n * S) (by omega) hS
    have e0 : cntOf (fun w => decide (A 3 w = 3)) 0 = 0 := rfl
    rw [e0, cfv_all hS n] at h
    rw [Nat.succ_mul, Nat.succ_mul, Nat.add_comm (n * S) S, Nat.add_comm (n * fcnt A S)]
    omega
/-- where the dream stands as parts are walked -/
def oS (A : Nat → Nat → Int32) (W : Nat → (Nat → Int32) → Int32) (H S N R lb t : Nat) (g hh : Int32) (r : Nat) (I0 : sm_MI) (ν : Nat) (I : sm_MI) : Prop :=
  cD (E0 A lb g) W H S N R I0 ν I ∧ I 53 14 = nI t ∧ I 53 15 = hh ∧ I 53 16 = nI r
theorem oS_up {P : Nat → Nat → Bool} {r : Nat} (h : oS A W H S N R lb t g hh r I0 ν I) (hf : Fr P I I') (hp : ∀ k j, PN k j = false → P k j = false) (hn : I' 53 1 = nI ν') (hC : Cok (E0 A lb g) W S I') : oS A W H S N R lb t g hh r I0 ν' I' :=
  ⟨cD_up h.1 hf hp hn hC, (hf 53 14 (hp _ _ rfl)).trans h.2.1, (hf 53 15 (hp _ _ rfl)).trans h.2.2.1, (hf 53 16 (hp _ _ rfl)).trans h.2.2.2⟩
theorem s_parts_l (hB : sm_Bs T) (hR : sRL T W R I0) (hV : vE (E0 A lb g) H S N R) (hS : 0 < S) (ht : t < N) {r : Nat} (hr : r ≤ 100) :
    ∀ (m c n : Nat) (x : sm_Cx) (F : Int64 → sm_MI → sm_ML → Prop) (I : sm_MI) (L : sm_ML) (w left ν dep i : Nat) (a1 a2 : Int32) (P : Int64), w ≤ S → m + w = left * S → left ≤ 8 → (w = S → 0 < left) → ν + left + 2 < 2 ^ 31 → i + m ≤ 40 → cfv A S m (if w = S then 0 else w) ≤ c → dep + c ≤ 12 → oP P →
      sm_Ok x mX0_partsFrom (n + 2 * c + 8) (sm_KL T F) → oS A W H S N R lb t g hh r I0 ν I →
      (∀ I', Fr PN I I' → Cok (E0 A lb g) W S I' → F (od A W H S N lb t hh (nI r) m (if w = S then 0 else w) (if w = S then ν + 1 else ν) (cU N (I 53 0)) (I 53 13) P) I' L) →
      sm_V x 0 0 T I L 9 [some (.ref 53), some (.int a1), some (.int a2), some (.long P), none, some (.int (nI dep)), some (.int (nI w)), some (.int (nI left)), some (.int (nI i))] [] := by
  have v3 := hV.2.2.1
  intro m
  induction m with
  | zero =>
    intro c n x F I L w left ν dep i a1 a2 P hw hm hl hw0 hν hi hc hd hP hx hO hF
    obtain ⟨hD, o14, o15, o16⟩ := hO
    have e24 : I 24 1 = nI S := hD.1.1.2.1
    have hi40 : ¬ (40 : Int32) < nI i := nI_nlt (a := 40) (b := i) (by omega) (by decide)
    have fin : ∀ I2 : sm_MI, Fr PN I I2 → I2 53 0 = I 53 0 → Cok (E0 A lb g) W S I2 → sm_CI (n + 2 * c + 7) mX11_placeIn T I2 L [.int (I2 53 0), .int (I2 53 14)] (fun r7 I6 L6 => (¬ r7 = (I6 53 15) → F 0 I6 L6) ∧ (r7 = (I6 53 15) → F P I6 L6)) := by
      intro I2 f2 e0 hC2
      refine s_placeIn hB ?_
      have e14 : I2 53 14 = nI t := (f2 53 14 rfl).trans o14
      have e15 : I2 53 15 = hh := (f2 53 15 rfl).trans o15
      have g1 := hF I2 f2 hC2
      unfold od at g1
      rw [e0, e14, e15, ← cU_at (N := N) _ ht]
      refine ⟨fun q => ?_, fun q => ?_⟩
      · rw [if_neg q] at g1; exact g1
      · rw [if_pos q] at g1; exact g1
    by_cases hwS : w = S
    · subst hwS
      have hl1 : left = 1 := by
        have : 1 * w = left * w := by omega
        exact (Nat.eq_of_mul_eq_mul_right hS this).symm
      subst hl1
      refine u_X0_partsFrom_9 hB hx ⟨fun q => absurd q hi40, fun _ => ⟨fun q => absurd (by rw [e24] at q; exact q) (nI_nlt (Nat.le_refl _) (by omega)), fun _ => ⟨fun q => absurd q (by decide), fun _ I13 h13 => ?_⟩⟩⟩
      subst h13
      exact fin _ (Fr.rf.u rfl) rfl (Cok_fr hD.2.2.1 (sm_uI_ne (by decide)) (sm_uI_ne (by decide)))
    · have hw2 : w = 0 ∧ left = 0 := by
        rcases Nat.eq_zero_or_pos left with q | q
        · subst q; omega
        · have : S ≤ left * S := Nat.le_mul_of_pos_left S q
          omega
      obtain ⟨rfl, rfl⟩ := hw2
      refine u_X0_partsFrom_9 hB hx ⟨fun q => absurd q hi40, fun _ => ⟨fun _ => ⟨fun q => absurd q (by decide), fun _ => fin I Fr.rf rfl hD.2.2.1⟩, fun q => absurd (by rw [e24]; exact nI_lt hS (by omega)) q⟩⟩
  | succ m ih =>
    intro c n x F I L w left ν dep i a1 a2 P hw hm hl hw0 hν hi hc hd hP hx hO hF
    have hO' := hO
    obtain ⟨hD, o14, o15, o16⟩ := hO'
    have e24 : I 24 1 = nI S := hD.1.1.2.1
    have hi40 : ¬ (40 : Int32) < nI i := nI_nlt (a := 40) (b := i) (by omega) (by decide)
    -- from a place w2 < S, night ν2
    have go : ∀ (I2 : sm_MI) (w2 left2 ν2 : Nat), w2 < S → m + 1 + w2 = left2 * S → left2 ≤ 8 → ν2 + left2 + 2 < 2 ^ 31 → cfv A S (m + 1) w2 ≤ c → oS A W H S N R lb t g hh r I0 ν2 I2 → Fr PN I I2 → (∀ I', Fr PN I I' → Cok (E0 A lb g) W S I' → F (od A W H S N lb t hh (nI r) (m + 1) w2 ν2 (cU N (I2 53 0)) (I2 53 13) P) I' L) →
        sm_CI (n + 2 * c + 7) mX3_at T I2 L [.ref 29, .int (nI w2)] (fun r2 I1 L1 => (¬ r2 = 3 → sm_CV (n + 2 * c + 7) mX0_walk T I1 L1 [.ref 53, .int (nI w2)] (fun I3 L3 => sm_V x 0 0 T I3 L3 9 [some (.ref 53), some (.int a1), some (.int a2), some (.long P), none, some (.int (nI dep)), some (.int (nI w2 + 1)), some (.int (nI left2)), some (.int (nI i + 1))] [])) ∧ (r2 = 3 → sm_CL (n + 2 * c + 7) mX0_splitParts T I1 L1 [.ref 53, .int (nI w2), .int (nI left2), .long P, .int (nI dep)] (fun r5 I4 L4 => F r5 I4 L4))) := by
      intro I2 w2 left2 ν2 h1 h2 h3 h4 h5 hO2 f2 hF2
      refine s_at (t_29 hB) (t_30 hB) (by omega) (by decide) ?_
      have e3 : I2 30 w2 = A 3 w2 := (hO2.1.1.2.1 w2 h1).2.2.1
      rw [e3]
      have hcf : cfv A S (m + 1) w2 = (if A 3 w2 = 3 then 1 else 0) + cfv A S m (nxw S w2) := rfl
      -- where it stands behind w2
      have hnw : (if w2 + 1 = S then 0 else w2 + 1) = nxw S w2 := rfl
      have hnn : (if w2 + 1 = S then ν2 + 1 else ν2) = nxn S w2 ν2 := rfl
      refine ⟨fun q => ?_, fun q => ?_⟩
      · refine s_walk_o (n := n + 2 * c + 2) hB hR hV hO2.1 h1 (by omega) (fun I3 f3 hD3 hu3 hs3 => ?_)
        have hO3 : oS A W H S N R lb t g hh r I0 ν2 I3 := oS_up hO2 f3 PW_PN hD3.2.1 hD3.2.2.1
        rw [nI_1, nI_1]
        rw [hcf, if_neg q, Nat.zero_add] at h5
        refine ih c n x F I3 L (w2 + 1) left2 ν2 dep (i + 1) a1 a2 P (by omega) (by omega) h3 (fun e => ?_) h4 (by omega) (by rw [hnw]; exact h5) hd hP hx hO3 (fun I' f' hC' => ?_)
        · rcases Nat.eq_zero_or_pos left2 with y | y
          · rw [y, Nat.zero_mul] at h2; omega
          · exact y
        · have g1 := hF2 I' ((f2.tr (f3.mono PW_PN)).tr f') hC'
          unfold od at g1
          rw [if_neg q, if_pos (by decide), Int64.sub_zero, Int64.add_zero] at g1
          rw [hnw, hnn, hu3, hs3]
          exact g1
      · rw [hcf, if_pos q] at h5
        obtain ⟨c', rfl⟩ : ∃ c', c = c' + 1 := ⟨c - 1, by omega⟩
        obtain ⟨b1, b2, b3⟩ := odF_in hP hr
        have e16 : I2 53 16 = nI r := hO2.2.2.2
        have hod : ∀ s', od A W H S N lb t hh (nI r) (m + 1) w2 ν2 (cU N (I2 53 0)) s' P = od A W H S N lb t hh (nI r) (m + 1) w2 ν2 (cU N (I2 53 0)) (I2 53 13) P := by
          intro s'
          have es : strE (E0 A lb 0) W N ν2 w2 false s' (cU N (I2 53 0)) = strE (E0 A lb 0) W N ν2 w2 false (I2 53 13) (cU N (I2 53 0)) := by
            unfold strE
            have : ¬ ((E0 A lb 0) 3 w2 = 2 ∧ 0 < w2) := fun y => by
              have y1 : A 3 w2 = 2 := y.1
              rw [q] at y1; exact absurd y1 (by decide)
            rw [if_neg this, if_neg this]
          unfold od
          rw [es]
        have hunf : od A W H S N lb t hh (nI r) (m + 1) w2 ν2 (cU N (I2 53 0)) (I2 53 13) P = od A W H S N lb t hh (nI r) m (nxw S w2) (nxn S w2 ν2) (crU (cU N (I2 53 0)) (w_o (E0 A lb 0) H N w2 (strE (E0 A lb 0) W N ν2 w2 false (I2 53 13) (cU N (I2 53 0))) (cU N (I2 53 0))) (w_b (E0 A lb 0) H w2 (strE (E0 A lb 0) W N ν2 w2 false (I2 53 13) (cU N (I2 53 0))))) (strE (E0 A lb 0) W N ν2 w2 false (I2 53 13) (cU N (I2 53 0))) (P - odF P (nI r)) + (if lg_cmp (odF P (nI r)) 0 ≤ 0 then 0 else od A W H S N lb t hh (nI r) m (nxw S w2) (nxn S w2 ν2) (cU N (I2 53 0)) 0 (odF P (nI r))) := by
          rw [od, if_pos q]
        have hl2 : 0 < left2 := by
          rcases Nat.eq_zero_or_pos left2 with y | y
          · rw [y, Nat.zero_mul] at h2; omega
          · exact y
        -- the calm half, from any state that stands so
        have calm : ∀ (I3 : sm_MI) (G : Int64 → sm_MI → sm_ML → Prop), oS A W H S N R lb t g hh r I0 ν2 I3 → I3 53 0 = I2 53 0 → (∀ I', Fr PN I3 I' → Cok (E0 A lb g) W S I' → G (od A W H S N lb t hh (nI r) m (nxw S w2) (nxn S w2 ν2) (crU (cU N (I2 53 0)) (w_o (E0 A lb 0) H N w2 (strE (E0 A lb 0) W N ν2 w2 false (I2 53 13) (cU N (I2 53 0))) (cU N (I2 53 0))) (w_b (E0 A lb 0) H w2 (strE (E0 A lb 0) W N ν2 w2 false (I2 53 13) (cU N (I2 53 0))))) (strE (E0 A lb 0) W N ν2 w2 false (I2 53 13) (cU N (I2 53 0))) (P - odF P (nI r))) I' L) →
            sm_CV (n + 2 * c' + 8) mX0_walk T I3 L [.ref 53, .int (nI w2)] (fun I6 L6 => sm_CL (n + 2 * c' + 8) mX0_partsFrom T I6 L6 [.ref 53, .int (nI (w2 + 1)), .int (nI left2), .long (P - odF P (nI r)), .int (nI (dep + 1))] (fun r8 I7 L7 => G r8 I7 L7)) := by
          intro I3 G hO3 e30 hG
          refine s_walk_o (n := n + 2 * c' + 3) hB hR hV hO3.1 h1 (by omega) (fun I4 f4 hD4 hu4 hs4 => ?_)
          have es : strE (E0 A lb 0) W N ν2 w2 false (I3 53 13) (cU N (I3 53 0)) = strE (E0 A lb 0) W N ν2 w2 false (I2 53 13) (cU N (I2 53 0)) := by
            rw [e30]
            unfold strE
            have : ¬ ((E0 A lb 0) 3 w2 = 2 ∧ 0 < w2) := fun y => by
              have y1 : A 3 w2 = 2 := y.1
              rw [q] at y1; exact absurd y1 (by decide)
            rw [if_neg this, if_neg this]
          rw [es] at hu4 hs4
          rw [e30] at hu4
          have hO4 : oS A W H S N R lb t g hh r I0 ν2 I4 := oS_up hO3 f4 PW_PN hD4.2.1 hD4.2.2.1
          refine c_X0_partsFrom hB (fun x2 hx2 => ?_)
          refine ih c' n x2 _ I4 L (w2 + 1) left2 ν2 (dep + 1) 0 (nI (w2 + 1)) (nI left2) (P - odF P (nI r)) (by omega) (by omega) h3 (fun _ => hl2) h4 (by omega) (by rw [hnw]; omega) (by omega) b3 hx2 hO4 (fun I' f' hC' => ?_)
          rw [hnw, hnn, hu4, hs4]
          exact hG I' ((f4.mono PW_PN).tr f') hC'
        refine c_X0_splitParts hB ⟨fun _ => ?_, fun y => absurd (nI_lt (a := dep) (b := 12) (by omega) (by decide)) y⟩
        rw [e16, nI_1, nI_1]
        refine ⟨fun y => ⟨fun y2 => ?_, fun y2 => calm I2 _ hO2 rfl (fun I' f' hC' => ?_)⟩, fun y => ?_⟩
        · have y' : lg_cmp (odF P (nI r)) 0 ≤ 0 := y
          have y2' : 0 ≤ lg_cmp (odF P (nI r)) P := y2
          rw [lg_le] at y'
          rw [lg_ge] at y2'
          have e0 : (0 : Int64).toInt = 0 := by decide
          have hP0 : P = 0 := Int64.toInt_inj.mp (by have := hP.1; omega)
          have g1 := hF2 I2 f2 hO2.1.2.2.1
          rw [hP0, od_0] at g1
          exact g1
        · have g1 := hF2 I' (f2.tr f') hC'
          have y' : lg_cmp (odF P (nI r)) 0 ≤ 0 := y
          rw [hunf, if_pos y', Int64.add_zero] at g1
          rw [Int64.zero_add]
          exact g1
        · have y' : ¬ lg_cmp (odF P (nI r)) 0 ≤ 0 := y
          have hO3 : oS A W H S N R lb t g hh r I0 ν2 (sm_uI I2 53 13 0) := oS_up (P := PN) hO2 (Fr.rf.u rfl) (fun _ _ h => h) hO2.1.2.1 (Cok_fr hO2.1.2.2.1 (sm_uI_ne (by decide)) (sm_uI_ne (by decide)))
          refine c_X0_partsFrom hB (fun x2 hx2 => ?_)
          refine ih c' n x2 _ (sm_uI I2 53 13 0) L (w2 + 1) left2 ν2 (dep + 1) 0 (nI (w2 + 1)) (nI left2) (odF P (nI r)) (by omega) (by omega) h3 (fun _ => hl2) h4 (by omega) (by rw [hnw]; omega) (by omega) b1 hx2 hO3 (fun I4 f4 hC4 => ?_)
          have f4' : Fr PN I2 I4 := (Fr.u (P := PN) Fr.rf rfl).tr f4
          have f5 : Fr PN I2 (sm_uI (sm_uI I4 53 0 (I2 53 0)) 53 1 (I2 53 1)) := (f4'.u rfl).u rfl
          have hC5 : Cok (E0 A lb g) W S (sm_uI (sm_uI I4 53 0 (I2 53 0)) 53 1 (I2 53 1)) := Cok_fr hC4 (by rw [sm_uI_ne (by decide), sm_uI_ne (by decide)]) (by rw [sm_uI_ne (by decide), sm_uI_ne (by decide)])
          have hO5 : oS A W H S N R lb t g hh r I0 ν2 (sm_uI (sm_uI I4 53 0 (I2 53 0)) 53 1 (I2 53 1)) := oS_up hO2 f5 (fun _ _ h => h) (by rw [sm_uI_at, pk_us]; exact hO2.1.2.1) hC5
          have ev : od A W H S N lb t hh (nI r) m (if w2 + 1 = S then 0 else w2 + 1) (if w2 + 1 = S then ν2 + 1 else ν2) (cU N ((sm_uI I2 53 13 0) 53 0)) ((sm_uI I2 53 13 0) 53 13) (odF P (nI r)) = od A W H S N lb t hh (nI r) m (nxw S w2) (nxn S w2 ν2) (cU N (I2 53 0)) 0 (odF P (nI r)) := rfl
          rw [ev]
          refine ⟨fun y2 => ?_, fun y2 => calm _ _ hO5 rfl (fun I' f' hC' => ?_)⟩
          · have y2' : 0 ≤ lg_cmp (odF P (nI r)) P := y2
            rw [lg_ge] at y2'
            have hPe : P - odF P (nI r) = 0 := by
              have : P = odF P (nI r) := Int64.toInt_inj.mp (by omega)
              rw [← this]
              exact Int64.sub_self P
            have g1 := hF2 _ (f2.tr f5) hC5
            rw [hunf, if_neg y', hPe, od_0, Int64.zero_add] at g1
            exact g1
          · have g1 := hF2 I' ((f2.tr f5).tr f') hC'
            rw [hunf, if_neg y', Int64.add_comm] at g1
            exact g1
    by_cases hwS : w = S
    · subst hwS
      rw [if_pos rfl] at hc
      rw [if_pos rfl, if_pos rfl] at hF
      have hl0 : 0 < left := hw0 rfl
      have hO2 : oS A W H w N R lb t g hh r I0 (ν + 1) (sm_uI I 53 1 (I 53 1 + 1)) := oS_up (P := PN) hO (Fr.rf.u rfl) (fun _ _ h => h) (by rw [sm_uI_at, pk_us, hD.2.1, nI_1]) (Cok_fr hD.2.2.1 (sm_uI_ne (by decide)) (sm_uI_ne (by decide)))
      have el : nI left + (-1) = nI (left - 1) := by
        have e1 : nI left - 1 = nI (left - 1) := pk_sub (a := left) (b := 1) hl0
        rw [← e1, Int32.sub_eq_add_neg]
      have hml : m + 1 + 0 = (left - 1) * w := by
        obtain ⟨l', rfl⟩ : ∃ l', left = l' + 1 := ⟨left - 1, by omega⟩
        rw [Nat.succ_mul] at hm
        rw [Nat.add_sub_cancel]
        omega
      have hl2 : 0 < left - 1 := by
        rcases Nat.eq_zero_or_pos (left - 1) with y | y
        · rw [y, Nat.zero_mul] at hml; omega
        · exact y
      refine u_X0_partsFrom_9 hB hx ⟨fun q => absurd q hi40, fun _ => ⟨fun q => absurd (by rw [e24] at q; exact q) (nI_nlt (Nat.le_refl _) (by omega)), fun _ => ?_⟩⟩
      rw [el]
      refine ⟨fun _ => go _ 0 (left - 1) (ν + 1) hS hml (by omega) (by omega) hc hO2 (Fr.rf.u rfl) hF, fun q => absurd (nI_lt (a := 0) hl2 (by omega)) q⟩
    · rw [if_neg hwS] at hc
      rw [if_neg hwS, if_neg hwS] at hF
      have hl0 : 0 < left := by
        rcases Nat.eq_zero_or_pos left with y | y
        · rw [y, Nat.zero_mul] at hm; omega
        · exact y
      refine u_X0_partsFrom_9 hB hx ⟨fun q => absurd q hi40, fun _ => ⟨fun _ => ⟨fun _ => go I w left ν (by omega) (by omega) hl (by omega) hc hO Fr.rf hF, fun q => absurd (nI_lt (a := 0) hl0 (by omega)) q⟩, fun q => absurd (by rw [e24]; exact nI_lt (by omega) (by omega)) q⟩⟩
end
