/-! ===== the class's small helpers ===== -/
def qW (a lo hi : Int32) : Bool := if a < lo then false else if hi < a then false else true
def qFu (per ful a : Int32) : Bool := if per ≤ 0 then false else if a < ful then false else decide ((a - ful) - (a - ful) / per * per = 0)
def qMs (per ful a : Int32) : Int32 := if per ≤ 0 then 0 else qFM (a - ful) per
/-- where things lie, out of the packed number; behind the last thing what else stands in it -/
def cU (N : Nat) (p : Int32) : Nat → Int32 := fun t => if t < N then qPl p (nI t) else if t = N then q_s p (nI (3 * N)) else 0
theorem cU_at {N t : Nat} (p : Int32) (h : t < N) : cU N p t = qPl p (nI t) := if_pos h
theorem bt_s (p : Int32) {k : Nat} (hk : k < 32) (i : Nat) : bt (q_s p (nI k)) i = bt p (k + i) := b_ushr k hk p i
theorem cU_Pd {N t k : Nat} (p : Int32) (hN : N ≤ 8) (ht : t < N) (hk : k < 8) : cU N (qPd p (nI t) (nI k)) = upd (cU N p) t (nI k) := by
  funext s
  unfold cU
  by_cases hs : s < N
  · rw [if_pos hs, qPl_Pd p (by omega) (by omega) hk]
    by_cases e : s = t
    · subst e; rw [if_pos rfl, pk_us]
    · rw [if_neg e, pk_un e, if_pos hs]
  · rw [if_neg hs, pk_un (by omega), if_neg hs]
    by_cases e : s = N
    · rw [if_pos e, if_pos e]
      apply b_ext
      intro i hi
      rw [bt_s _ (by omega), bt_s _ (by omega)]
      rcases Nat.lt_or_ge (3 * N + i) 32 with h3 | h3
      · rw [bt_Pd p (by omega) h3]
        have h1 : 3 * t ≤ 3 * N + i := by omega
        have h4 : ¬ 3 * N + i - 3 * t < 3 := by omega
        simp [h1, h4, bt_k8 hk (show 3 ≤ 3 * N + i - 3 * t by omega)]
      · rw [b_big h3, b_big h3]
    · rw [if_neg e, if_neg e]
theorem cU_lt {N t : Nat} (p : Int32) (h : t < N) : ∃ k, k < 8 ∧ cU N p t = nI k := by
  rw [cU_at p h]
  exact qPl_lt p _
theorem cU_inj {N : Nat} (hN : N ≤ 8) {p p' : Int32} (h : cU N p = cU N p') : p = p' := by
  apply b_ext
  intro i hi
  rcases Nat.lt_or_ge i (3 * N) with g | g
  · have e := congrFun h (i / 3)
    rw [cU_at p (by omega), cU_at p' (by omega)] at e
    have e2 := congrArg (fun x => bt x (i % 3)) e
    simp only [bt_Pl _ (show i / 3 < 8 by omega)] at e2
    have h3 : i % 3 < 3 := Nat.mod_lt _ (by decide)
    rw [Nat.div_add_mod] at e2
    simpa [h3] using e2
  · have e := congrFun h N
    unfold cU at e
    rw [if_neg (Nat.lt_irrefl N), if_neg (Nat.lt_irrefl N), if_pos rfl, if_pos rfl] at e
    have e2 := congrArg (fun x => bt x (i - 3 * N)) e
    simp only [bt_s _ (show 3 * N < 32 by omega)] at e2
    rwa [show 3 * N + (i - 3 * N) = i by omega] at e2
/-- the things in a house, as bits -/
def thS (u : Nat → Int32) (h : Int32) (N : Nat) : Nat := bitsOf (fun t => decide (u t = h)) N
def elS (u v : Nat → Int32) (N : Nat) : Nat := bitsOf (fun t => decide (u t ≠ v t)) N
theorem qW_ok {a lo hi : Int32} : qW a lo hi = true ↔ ¬ a < lo ∧ ¬ hi < a := by
  unfold qW
  split
  · rename_i h; simp [h]
  · split
    · rename_i h; simp [h]
    · rename_i h1 h2; simp [h1, h2]
theorem qW_nat {a : Int32} {N : Nat} (hN : N < 2 ^ 31) (h : qW a 0 (nI N - 1) = true) : ∃ k, k < N ∧ a = nI k := by
  have ⟨h1, h2⟩ := qW_ok.mp h
  obtain ⟨j, hj, e⟩ := nI_of h1
  subst e
  rcases Nat.eq_zero_or_pos N with z | z
  · subst z
    exact absurd (by
      rw [fa_lt, nI_toInt hj]
      have : (nI 0 - 1).toInt = -1 := by decide +kernel
      omega) h2
  · have e : nI N - 1 = nI (N - 1) := pk_sub (a := N) (b := 1) z
    rw [e] at h2
    refine ⟨j, ?_, rfl⟩
    rcases Nat.lt_or_ge j N with q | q
    · exact q
    · exact absurd (nI_lt (by omega) hj) h2
theorem qW_natI {k N : Nat} (hk : k < N) (hN : N < 2 ^ 31) : qW (nI k) 0 (nI N - 1) = true := by
  rw [qW_ok]
  refine ⟨nI_pos (by omega), ?_⟩
  have e : nI N - 1 = nI (N - 1) := pk_sub (a := N) (b := 1) (by omega)
  rw [e]
  exact nI_nlt (by omega) (by omega)
theorem qW_rng {a : Int32} {lo hi : Nat} (hl : lo < 2 ^ 31) (hh : hi < 2 ^ 31) (h : qW a (nI lo) (nI hi) = true) : ∃ k, lo ≤ k ∧ k ≤ hi ∧ a = nI k := by
  have ⟨h1, h2⟩ := qW_ok.mp h
  have h0 : ¬ a < 0 := by
    intro q
    rw [fa_lt] at q h1
    rw [nI_toInt hl] at h1
    have : (0 : Int32).toInt = 0 := by decide
    omega
  obtain ⟨j, hj, e⟩ := nI_of h0
  subst e
  refine ⟨j, ?_, ?_, rfl⟩
  · rcases Nat.lt_or_ge j lo with q | q
    · exact absurd (nI_lt q (by omega)) h1
    · exact q
  · rcases Nat.lt_or_ge hi j with q | q
    · exact absurd (nI_lt q hj) h2
    · exact q
section
variable {n : Nat} {T : List sm_Sh} {I : sm_MI} {L : sm_ML}
theorem s_placeIn {F : Int32 → sm_MI → sm_ML → Prop} {p t : Int32} (hB : sm_Bs T) (h : F (qPl p t) I L) : sm_CI n mX11_placeIn T I L [.int p, .int t] F := c_X11_placeIn hB h
theorem s_placed {F : Int32 → sm_MI → sm_ML → Prop} {p t k : Int32} (hB : sm_Bs T) (h : F (qPd p t k) I L) : sm_CI n mX11_placed T I L [.int p, .int t, .int k] F := c_X11_placed hB h
theorem s_bitOf {F : Int32 → sm_MI → sm_ML → Prop} {p t : Int32} (hB : sm_Bs T) (h : F (qBo p t) I L) : sm_CI n mX11_bitOf T I L [.int p, .int t] F := c_X11_bitOf hB h
theorem s_within {F : Bool → sm_MI → sm_ML → Prop} {a lo hi : Int32} (hB : sm_Bs T) (h : F (qW a lo hi) I L) : sm_CZ n mX11_within T I L [.int a, .int lo, .int hi] F :=
  c_X11_within hB ⟨fun p => by unfold qW at h; rw [if_pos p] at h; exact h, fun p => ⟨fun q => by unfold qW at h; rw [if_neg p, if_pos q] at h; exact h, fun q => by unfold qW at h; rw [if_neg p, if_neg q] at h; exact h⟩⟩
theorem s_isTold {F : Bool → sm_MI → sm_ML → Prop} (hB : sm_Bs T) (h : F (decide (¬ I 24 0 ≤ 0)) I L) : sm_CZ n mX8_isTold T I L [.ref 24] F :=
  c_X8_isTold hB ⟨fun p => by rw [decide_eq_false (fun q => q p)] at h; exact h, fun p => by rw [decide_eq_true p] at h; exact h⟩
theorem s_hasHouse {F : Bool → sm_MI → sm_ML → Prop} {a : Int32} (hB : sm_Bs T) (h : F (qW a 0 (I 24 0 - 1)) I L) : sm_CZ (n + 1) mX8_hasHouse T I L [.ref 24, .int a] F := c_X8_hasHouse hB (s_within hB h)
theorem s_hasSleeper {F : Bool → sm_MI → sm_ML → Prop} {a : Int32} (hB : sm_Bs T) (h : F (qW a 0 (I 24 1 - 1)) I L) : sm_CZ (n + 1) mX8_hasSleeper T I L [.ref 24, .int a] F := c_X8_hasSleeper hB (s_within hB h)
theorem s_hasThing {F : Bool → sm_MI → sm_ML → Prop} {a : Int32} (hB : sm_Bs T) (h : F (qW a 0 (I 24 2 - 1)) I L) : sm_CZ (n + 1) mX8_hasThing T I L [.ref 24, .int a] F := c_X8_hasThing hB (s_within hB h)
theorem s_isFull {F : Bool → sm_MI → sm_ML → Prop} {a : Int32} (hB : sm_Bs T) (h : F (qFu (I 24 4) (I 24 5) a) I L) : sm_CZ n mX8_isFull T I L [.ref 24, .int a] F :=
  c_X8_isFull hB ⟨fun p => by unfold qFu at h; rw [if_pos p] at h; exact h, fun p => ⟨fun q => by unfold qFu at h; rw [if_neg p, if_pos q] at h; exact h, fun q => ⟨fun z => p (by rw [z]; decide), fun z => by unfold qFu at h; rw [if_neg p, if_neg q, decide_eq_false z] at h; exact h, fun z => by unfold qFu at h; rw [if_neg p, if_neg q, decide_eq_true z] at h; exact h⟩⟩⟩
theorem s_moonStand {F : Int32 → sm_MI → sm_ML → Prop} {a : Int32} (hB : sm_Bs T) (h : F (qMs (I 24 4) (I 24 5) a) I L) : sm_CI (n + 1) mX8_moonStand T I L [.ref 24, .int a] F :=
  c_X8_moonStand hB ⟨fun p => by unfold qMs at h; rw [if_pos p] at h; exact h, fun p => s_FM (fun z => p (by rw [z]; decide)) (by unfold qMs at h; rw [if_neg p] at h; exact h)⟩
theorem s_around {F : Int32 → sm_MI → sm_ML → Prop} {a b : Int32} {H : Nat} (hB : sm_Bs T) (hH : I 24 0 = nI H) (h0 : 0 < H) (h8 : H ≤ 8) (h : F (nI (fmN (a + b) H)) I L) : sm_CI (n + 1) mX8_around T I L [.ref 24, .int a, .int b] F :=
  c_X8_around hB ⟨fun p => absurd p (by rw [hH]; exact nI_nle h0 (by omega)), fun p => s_FM (fun z => p (by rw [z]; decide)) (by rw [hH, qFM_nat h0 (by omega)]; exact h)⟩
theorem s_thingsIn_l {F : Int32 → sm_MI → sm_ML → Prop} {p a : Int32} {N : Nat} {x : sm_Cx} (hB : sm_Bs T) (hN : I 24 2 = nI N) (h8 : N ≤ 8) (hx : sm_Ok x mX8_thingsIn (n + 1) (sm_KI T F)) (h : F (nI (thS (cU N p) a N)) I L) :
    ∀ d t, t + d = N → sm_V x 0 0 T I L 5 [some (.ref 24), some (.int p), some (.int a), some (.int (nI (thS (cU N p) a t))), some (.int (nI t))] []
  | 0, t, e => u_X8_thingsIn_5 hB hx ⟨fun _ => by rw [show t = N by omega]; exact h, fun q => absurd (by rw [hN]; exact nI_le (by omega) (by omega)) q⟩
  | d + 1, t, e => u_X8_thingsIn_5 hB hx ⟨fun q => absurd q (by rw [hN]; exact nI_ge (by omega) (by omega)), fun _ => s_placeIn hB ⟨fun q => by
      have := s_thingsIn_l hB hN h8 hx h d (t + 1) (by omega)
      unfold thS at this ⊢
      rw [bitsOf_no (by rw [cU_at p (by omega)]; exact decide_eq_false q)] at this
      rw [nI_1]
      exact this, fun q => by
      have := s_thingsIn_l hB hN h8 hx h d (t + 1) (by omega)
      unfold thS at this ⊢
      rw [bitsOf_or (by omega) (by rw [cU_at p (by omega)]; exact decide_eq_true q), nI_1]
      exact this⟩⟩
theorem s_thingsIn {F : Int32 → sm_MI → sm_ML → Prop} {p a : Int32} {N : Nat} (hB : sm_Bs T) (hN : I 24 2 = nI N) (h8 : N ≤ 8) (h : F (nI (thS (cU N p) a N)) I L) : sm_CI (n + 1) mX8_thingsIn T I L [.ref 24, .int p, .int a] F :=
  c_X8_thingsIn hB (fun x hx => s_thingsIn_l hB hN h8 hx h N 0 (by omega))
theorem s_elsewhere_l {F : Int32 → sm_MI → sm_ML → Prop} {p a : Int32} {N : Nat} {x : sm_Cx} (hB : sm_Bs T) (hN : I 24 2 = nI N) (h8 : N ≤ 8) (hx : sm_Ok x mX8_elsewhere (n + 1) (sm_KI T F)) (h : F (nI (elS (cU N p) (cU N a) N)) I L) :
    ∀ d t, t + d = N → sm_V x 0 0 T I L 5 [some (.ref 24), some (.int p), some (.int a), some (.int (nI (elS (cU N p) (cU N a) t))), some (.int (nI t))] []
  | 0, t, e => u_X8_elsewhere_5 hB hx ⟨fun _ => by rw [show t = N by omega]; exact h, fun q => absurd (by rw [hN]; exact nI_le (by omega) (by omega)) q⟩
  | d + 1, t, e => u_X8_elsewhere_5 hB hx ⟨fun q => absurd q (by rw [hN]; exact nI_ge (by omega) (by omega)), fun _ => s_placeIn hB (s_placeIn hB ⟨fun q => by
      have := s_elsewhere_l hB hN h8 hx h d (t + 1) (by omega)
      unfold elS at this ⊢
      rw [bitsOf_no (by rw [cU_at p (by omega), cU_at a (by omega)]; exact decide_eq_false (fun z => z q))] at this
      rw [nI_1]
      exact this, fun q => by
      have := s_elsewhere_l hB hN h8 hx h d (t + 1) (by omega)
      unfold elS at this ⊢
      rw [bitsOf_or (by omega) (by rw [cU_at p (by omega), cU_at a (by omega)]; exact decide_eq_true q), nI_1]
      exact this⟩)⟩
theorem s_elsewhere {F : Int32 → sm_MI → sm_ML → Prop} {p a : Int32} {N : Nat} (hB : sm_Bs T) (hN : I 24 2 = nI N) (h8 : N ≤ 8) (h : F (nI (elS (cU N p) (cU N a) N)) I L) : sm_CI (n + 1) mX8_elsewhere T I L [.ref 24, .int p, .int a] F :=
  c_X8_elsewhere hB (fun x hx => s_elsewhere_l hB hN h8 hx h N 0 (by omega))
end
