/-! ===== homing: starts as numbers ===== -/
def dgt (H N st t : Nat) : Nat := (st / H ^ (N - 1 - t)) % H
def plL (H N st : Nat) : Nat → Int32 := fun t => if t < N then nI (dgt H N st t) else 0
/-- the number of a start, of places as naturals -/
def stF (H : Nat) (v : Nat → Nat) : Nat → Nat
  | 0 => 0
  | t + 1 => stF H v t * H + v t
theorem stF_lt {H : Nat} {v : Nat → Nat} : ∀ {k : Nat}, (∀ t, t < k → v t < H) → stF H v k < H ^ k
  | 0, _ => by simp [stF]
  | k + 1, h => by
    have h1 := stF_lt (fun t ht => h t (by omega) : ∀ t, t < k → v t < H)
    have h2 := h k (by omega)
    rw [stF, Nat.pow_succ]
    have h3 : (stF H v k + 1) * H ≤ H ^ k * H := Nat.mul_le_mul_right H h1
    rw [Nat.succ_mul] at h3
    omega
theorem stF_div {H : Nat} {v : Nat → Nat} (k : Nat) : ∀ d, (∀ t, t < k + d → v t < H) → stF H v (k + d) / H ^ d = stF H v k
  | 0, _ => by rw [Nat.pow_zero, Nat.div_one]; rfl
  | d + 1, h => by
    have h2 := h (k + d) (by omega)
    have e : (stF H v (k + d) * H + v (k + d)) / H = stF H v (k + d) := by
      rw [Nat.mul_comm, Nat.mul_add_div (by omega), Nat.div_eq_of_lt h2, Nat.add_zero]
    show (stF H v (k + d) * H + v (k + d)) / H ^ (d + 1) = _
    rw [Nat.pow_succ, Nat.mul_comm (H ^ d) H, ← Nat.div_div_eq_div_mul, e]
    exact stF_div k d (fun t ht => h t (by omega))
theorem dgt_stF {H N t : Nat} {v : Nat → Nat} (h : ∀ t, t < N → v t < H) (ht : t < N) : dgt H N (stF H v N) t = v t := by
  unfold dgt
  have e := stF_div (H := H) (v := v) (t + 1) (N - 1 - t) (fun s hs => h s (by omega))
  rw [show t + 1 + (N - 1 - t) = N by omega] at e
  rw [e]
  show (stF H v t * H + v t) % H = v t
  rw [Nat.mul_comm, Nat.mul_add_mod, Nat.mod_eq_of_lt (h t ht)]
theorem stF_dgt {H N st : Nat} (h0 : 0 < H) (hst : st < H ^ N) : ∀ k, k ≤ N → stF H (dgt H N st) k = st / H ^ (N - k)
  | 0, _ => by
    rw [Nat.sub_zero, Nat.div_eq_of_lt hst]; rfl
  | k + 1, hk => by
    rw [stF, stF_dgt h0 hst k (by omega)]
    unfold dgt
    have e : H ^ (N - k) = H ^ (N - 1 - k) * H := by rw [show N - k = (N - 1 - k) + 1 by omega, Nat.pow_succ]
    rw [e, ← Nat.div_div_eq_div_mul, show N - (k + 1) = N - 1 - k by omega, Nat.mul_comm]
    exact Nat.div_add_mod _ H
theorem stF_inj {H N : Nat} {v v' : Nat → Nat} (h : ∀ t, t < N → v t < H) (h' : ∀ t, t < N → v' t < H) (e : stF H v N = stF H v' N) : ∀ t, t < N → v t = v' t := by
  intro t ht
  rw [← dgt_stF h ht, e, dgt_stF h' ht]
theorem stF_cong {H : Nat} {v v' : Nat → Nat} : ∀ {k : Nat}, (∀ t, t < k → v t = v' t) → stF H v k = stF H v' k
  | 0, _ => rfl
  | k + 1, h => by rw [stF, stF, stF_cong (fun t ht => h t (by omega)), h k (by omega)]
def vO (u : Nat → Int32) : Nat → Nat := fun t => (u t).toNatClampNeg
theorem vO_in {H N : Nat} {u : Nat → Int32} (hH : H ≤ 8) (h : gR H N u) {t : Nat} (ht : t < N) : vO u t < H ∧ u t = nI (vO u t) := by
  obtain ⟨k, hk, e⟩ := h t ht
  unfold vO
  rw [e, nI_clamp (by omega)]
  exact ⟨hk, rfl⟩
theorem plL_gR {H N st : Nat} (h0 : 0 < H) : gR H N (plL H N st) := by
  intro t ht
  refine ⟨dgt H N st t, Nat.mod_lt _ h0, ?_⟩
  unfold plL
  rw [if_pos ht]
theorem vO_pl {H N st t : Nat} (h0 : 0 < H) (hH : H ≤ 8) (ht : t < N) : vO (plL H N st) t = dgt H N st t := by
  have hd : dgt H N st t < H := Nat.mod_lt _ h0
  unfold vO plL
  rw [if_pos ht, nI_clamp (by omega)]
theorem st_pl {H N st : Nat} (h0 : 0 < H) (hH : H ≤ 8) (hst : st < H ^ N) : stF H (vO (plL H N st)) N = st := by
  rw [stF_cong (fun t ht => vO_pl h0 hH ht), stF_dgt h0 hst N (Nat.le_refl _), Nat.sub_self, Nat.pow_zero, Nat.div_one]
theorem pl_st {H N : Nat} {u : Nat → Int32} (hH : H ≤ 8) (h : gR H N u) (hz : ∀ t, N ≤ t → u t = 0) : plL H N (stF H (vO u) N) = u := by
  funext t
  unfold plL
  by_cases ht : t < N
  · rw [if_pos ht, dgt_stF (fun s hs => (vO_in hH h hs).1) ht]
    exact ((vO_in hH h ht).2).symm
  · rw [if_neg ht, hz t (by omega)]
/-- digits to the base 10 -/
def dgF (v : Nat → Nat) : Nat → Nat := stF 10 v
/-- the same from the last thing on -/
def dgS (v : Nat → Nat) (N : Nat) : Nat → Nat
  | 0 => 0
  | d + 1 => dgS v N d + 10 ^ d * v (N - 1 - d)
theorem dgS_F {v : Nat → Nat} {N : Nat} : ∀ d, d ≤ N → dgF v (N - d) * 10 ^ d + dgS v N d = dgF v N
  | 0, _ => by rw [Nat.sub_zero, Nat.pow_zero, Nat.mul_one]; rfl
  | d + 1, h => by
    have ih := dgS_F (v := v) (N := N) d (by omega)
    have e : dgF v (N - d) = dgF v (N - (d + 1)) * 10 + v (N - 1 - d) := by
      rw [show N - d = (N - (d + 1)) + 1 by omega, show N - 1 - d = N - (d + 1) by omega]
      rfl
    rw [← ih, e, dgS, Nat.pow_succ, Nat.add_mul, Nat.mul_assoc, Nat.mul_comm (v (N - 1 - d)) (10 ^ d), Nat.mul_comm 10 (10 ^ d)]
    omega
theorem dgS_all {v : Nat → Nat} {N : Nat} : dgS v N N = dgF v N := by
  have h := dgS_F (v := v) (N := N) N (Nat.le_refl _)
  rw [Nat.sub_self] at h
  have e : dgF v 0 = 0 := rfl
  rw [e, Nat.zero_mul, Nat.zero_add] at h
  exact h
def cnS (f : Nat → Bool) (N : Nat) : Nat → Nat
  | 0 => 0
  | d + 1 => cnS f N d + (if f (N - 1 - d) then 1 else 0)
theorem cnS_all {f : Nat → Bool} {N : Nat} : cnS f N N = cntOf f N := by
  have key : ∀ d, d ≤ N → cntOf f (N - d) + cnS f N d = cntOf f N := by
    intro d
    induction d with
    | zero => intro _; rfl
    | succ d ih =>
      intro h
      have g := ih (by omega)
      have e : cntOf f (N - d) = cntOf f (N - (d + 1)) + (if f (N - 1 - d) then 1 else 0) := by
        rw [show N - d = (N - (d + 1)) + 1 by omega, show N - 1 - d = N - (d + 1) by omega]
        rfl
      rw [cnS]
      omega
  have h := key N (Nat.le_refl _)
  rw [Nat.sub_self] at h
  have e : cntOf f 0 = 0 := rfl
  omega
/-- the search: the least moved so far and its digits; none: (-1, -1) -/
def hoF (c : Nat → Bool) (mv dg : Nat → Nat) : Nat → Int32 × Int32
  | 0 => (-1, -1)
  | s + 1 => if c s = true ∧ ((hoF c mv dg s).1 = -1 ∨ ¬ (hoF c mv dg s).1 ≤ nI (mv s)) then (nI (mv s), nI (dg s)) else hoF c mv dg s
/-- the model's: (digits, moved), none: (-1, 0) -/
def hoM (c : Nat → Bool) (mv dg : Nat → Nat) : Nat → Int32 × Int32
  | 0 => (-1, 0)
  | s + 1 => if ((hoM c mv dg s).1 = -1 ∨ ¬ (hoM c mv dg s).2 ≤ nI (mv s)) ∧ c s = true then (nI (dg s), nI (mv s)) else hoM c mv dg s
theorem nI_m1 {k : Nat} (h : k < 2 ^ 31) : nI k ≠ -1 := by
  intro g
  have h1 : (nI k).toInt = (-1 : Int32).toInt := by rw [g]
  rw [nI_toInt h] at h1
  have : (-1 : Int32).toInt = -1 := by decide
  omega
theorem hoM_F {c : Nat → Bool} {mv dg : Nat → Nat} (h1 : ∀ s, mv s < 2 ^ 31) (h2 : ∀ s, dg s < 2 ^ 31) : ∀ s, ((hoM c mv dg s).1 = -1 ↔ (hoF c mv dg s).1 = -1) ∧ ((hoM c mv dg s).1 = -1 → hoF c mv dg s = (-1, -1)) ∧ ((hoM c mv dg s).1 ≠ -1 → hoF c mv dg s = ((hoM c mv dg s).2, (hoM c mv dg s).1))
  | 0 => ⟨⟨fun _ => rfl, fun _ => rfl⟩, fun _ => rfl, fun h => absurd rfl h⟩
  | s + 1 => by
    obtain ⟨g1, g2, g3⟩ := hoM_F h1 h2 (c := c) s
    have hc : (c s = true ∧ ((hoF c mv dg s).1 = -1 ∨ ¬ (hoF c mv dg s).1 ≤ nI (mv s))) ↔ (((hoM c mv dg s).1 = -1 ∨ ¬ (hoM c mv dg s).2 ≤ nI (mv s)) ∧ c s = true) := by
      by_cases q : (hoM c mv dg s).1 = -1
      · have q2 := g1.mp q
        exact ⟨fun y => ⟨Or.inl q, y.1⟩, fun y => ⟨y.2, Or.inl q2⟩⟩
      · have q2 : (hoF c mv dg s).1 ≠ -1 := fun y => q (g1.mpr y)
        have e : (hoF c mv dg s).1 = (hoM c mv dg s).2 := by rw [g3 q]
        rw [e] at q2 ⊢
        exact ⟨fun y => ⟨Or.inr (y.2.resolve_left q2), y.1⟩, fun y => ⟨y.2, Or.inr (y.1.resolve_left q)⟩⟩
    rw [hoF, hoM]
    by_cases y : ((hoM c mv dg s).1 = -1 ∨ ¬ (hoM c mv dg s).2 ≤ nI (mv s)) ∧ c s = true
    · rw [if_pos y, if_pos (hc.mpr y)]
      exact ⟨⟨fun z => absurd z (nI_m1 (h2 s)), fun z => absurd z (nI_m1 (h1 s))⟩, fun z => absurd z (nI_m1 (h2 s)), fun _ => rfl⟩
    · rw [if_neg y, if_neg (fun z => y (hc.mp z))]
      exact ⟨g1, g2, g3⟩
