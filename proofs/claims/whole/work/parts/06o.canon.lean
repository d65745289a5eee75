/-! ===== lies after calm nights hang on the lies alone ===== -/
def zz (u : Nat → Int32) : w_St := (u, 0, 0, fun _ => 0, fun _ => 0)
section
variable {n : Nat} {T : List sm_Sh} {I I' : sm_MI} {L L' : sm_ML} {A : Nat → Nat → Int32} {H S N R ν lb b ν' lb' b' : Nat} {W : Nat → (Nat → Int32) → Int32} {lk bed gh g g' : Int32} {f : Nat → Int32}
theorem strE_mk {w : Nat} {s : Int32} {u : Nat → Int32} : strE (mkE A lk bed 0 gh g f) W N ν w false s u = strE (mkE A lk bed 0 gh g' f) W N ν w false s u := by
  unfold strE ownE ownR
  rw [ltE_mk (A := A) (gs := g) (lk' := lk) (bed' := bed) (rk' := 0) (gh' := gh) (gs' := g') (f' := f)]
  rfl
theorem strE_0 {E : Nat → Nat → Int32} {w : Nat} {s s' : Int32} {u : Nat → Int32} (h : w = 0 ∨ s = s') : strE E W N ν w false s u = strE E W N ν w false s' u := by
  unfold strE
  rcases h with h | h
  · subst h
    by_cases q : nI 0 = E 0 1
    · rw [if_pos q, if_pos q]
    · simp [q]
  · rw [h]
theorem nst_cong {z z' : w_St} (hu : z.1 = z'.1) : ∀ w, (nst (mkE A lk bed 0 gh g f) W H N ν w z).1 = (nst (mkE A lk bed 0 gh g' f) W H N ν w z').1 ∧ (0 < w → (nst (mkE A lk bed 0 gh g f) W H N ν w z).2.1 = (nst (mkE A lk bed 0 gh g' f) W H N ν w z').2.1)
  | 0 => ⟨hu, fun q => absurd q (by decide)⟩
  | w + 1 => by
    obtain ⟨h1, h2⟩ := nst_cong hu w
    have hs : strE (mkE A lk bed 0 gh g f) W N ν w (fvB (mkE A lk bed 0 gh g f) w (nst (mkE A lk bed 0 gh g f) W H N ν w z).2.2.1) (nst (mkE A lk bed 0 gh g f) W H N ν w z).2.1 (nst (mkE A lk bed 0 gh g f) W H N ν w z).1 = strE (mkE A lk bed 0 gh g' f) W N ν w (fvB (mkE A lk bed 0 gh g' f) w (nst (mkE A lk bed 0 gh g' f) W H N ν w z').2.2.1) (nst (mkE A lk bed 0 gh g' f) W H N ν w z').2.1 (nst (mkE A lk bed 0 gh g' f) W H N ν w z').1 := by
      rw [fvB_0 rfl, fvB_0 rfl, h1, strE_mk (g' := g')]
      apply strE_0
      rcases Nat.eq_zero_or_pos w with q | q
      · exact Or.inl q
      · exact Or.inr (h2 q)
    constructor
    · show crU (nst (mkE A lk bed 0 gh g f) W H N ν w z).1 (w_o (mkE A lk bed 0 gh g f) H N w _ _) (w_b (mkE A lk bed 0 gh g f) H w _) = crU (nst (mkE A lk bed 0 gh g' f) W H N ν w z').1 (w_o (mkE A lk bed 0 gh g' f) H N w _ _) (w_b (mkE A lk bed 0 gh g' f) H w _)
      rw [hs, h1]
      rfl
    · intro _
      exact hs
theorem ngs_cong {z z' : w_St} (hu : z.1 = z'.1) : ∀ i, (ngs (mkE A lk bed 0 (-1) g f) W H S N ν i z).1 = (ngs (mkE A lk bed 0 (-1) g' f) W H S N ν i z').1
  | 0 => hu
  | i + 1 => by
    show (ngt (mkE A lk bed 0 (-1) g f) W H S N (ν + i) (ngs (mkE A lk bed 0 (-1) g f) W H S N ν i z)).1 = (ngt (mkE A lk bed 0 (-1) g' f) W H S N (ν + i) (ngs (mkE A lk bed 0 (-1) g' f) W H S N ν i z')).1
    rw [ngt_n rfl, ngt_n rfl]
    exact (nst_cong (ngs_cong hu i) S).1
/-- lies after i calm nights: locks, bed, forced steps -/
def nU (A : Nat → Nat → Int32) (W : Nat → (Nat → Int32) → Int32) (H S N ν : Nat) (lk bed : Int32) (f : Nat → Int32) (i : Nat) (u : Nat → Int32) : Nat → Int32 := (ngs (mkE A lk bed 0 (-1) 0 f) W H S N ν i (zz u)).1
theorem nU_eq {z : w_St} {u : Nat → Int32} (hu : z.1 = u) (i : Nat) : (ngs (mkE A lk bed 0 (-1) g f) W H S N ν i z).1 = nU A W H S N ν lk bed f i u := ngs_cong hu i
/-- how many lie elsewhere -/
def elC (u v : Nat → Int32) (N : Nat) : Nat := cntOf (fun t => decide (u t ≠ v t)) N
theorem elC_BC {u v : Nat → Int32} (h8 : N ≤ 8) : qBC (nI (elS u v N)) = nI (elC u v N) := qBC_bits _ N h8
theorem s_m_elsewhere_l {F : Int32 → sm_MI → sm_ML → Prop} {x : sm_Cx} (hB : sm_Bs T) (hN : I 76 28 = nI N) (h8 : N ≤ 8) (hx : sm_Ok x mX12_elsewhere n (sm_KI T F)) (h : F (nI (elC (mU N (I 92)) (mU N (I 107)) N)) I L) :
    ∀ d t, t + d = N → sm_V x 0 0 T I L 4 [some (.ref 76), some (.int (nI (elC (mU N (I 92)) (mU N (I 107)) t))), some (.int (nI t))] []
  | 0, t, e => u_X12_elsewhere_4 hB hx ⟨fun _ => by rw [show t = N by omega]; exact h, fun q => absurd (by rw [hN]; exact nI_le (by omega) (by omega)) q⟩
  | d + 1, t, e => u_X12_elsewhere_4 hB hx ⟨fun q => absurd q (by rw [hN]; exact nI_ge (by omega) (by omega)), fun _ => ⟨vp_in_nI (by omega) (by decide), vp_in_nI (by omega) (by decide), by
      have go := s_m_elsewhere_l hB hN h8 hx h d (t + 1) (by omega)
      rw [nI_clamp (by omega), nI_1]
      have e1 : mU N (I 92) t = I 92 t := mU_at _ (by omega)
      have e2 : mU N (I 107) t = I 107 t := mU_at _ (by omega)
      refine ⟨fun q => ?_, fun q => ?_⟩
      · have : elC (mU N (I 92)) (mU N (I 107)) (t + 1) = elC (mU N (I 92)) (mU N (I 107)) t := by
          unfold elC
          rw [cntOf, if_neg (by rw [e1, e2]; simpa using q), Nat.add_zero]
        rw [this] at go
        rw [Int32.add_zero]
        exact go
      · have : elC (mU N (I 92)) (mU N (I 107)) (t + 1) = elC (mU N (I 92)) (mU N (I 107)) t + 1 := by
          unfold elC
          rw [cntOf, if_pos (by rw [e1, e2]; simpa using q)]
        rw [this] at go
        rw [nI_1]
        exact go⟩⟩
theorem s_m_elsewhere {F : Int32 → sm_MI → sm_ML → Prop} (hB : sm_Bs T) (hN : I 76 28 = nI N) (h8 : N ≤ 8) (h : F (nI (elC (mU N (I 92)) (mU N (I 107)) N)) I L) : sm_CI n mX12_elsewhere T I L [.ref 76] F :=
  c_X12_elsewhere hB (fun x hx => s_m_elsewhere_l hB hN h8 hx h N 0 (by omega))
/-- ends noted: in 107 stands where things lie after k nights -/
theorem s_m_noteEnds {F : sm_MI → sm_ML → Prop} {k : Nat} (hR : RR A W H S N R ν lb b T I L) (h0 : 0 < H) (hk : k < 2 ^ 30)
    (h : ∀ I', RR A W H S N R ν lb b T I' L → mU N (I' 107) = nU A W H S N ν (nI lb) (-1) (fun _ => -1) k (mU N (I 92)) → mU N (I' 92) = mU N (I 92) → F I' L) : sm_CV (n + 9) mX12_noteEnds T I L [.ref 76, .int (nI k)] F := by
  have hB := hR.hB
  have v4 := hR.va.2.2.2.1
  refine c_X12_noteEnds hB (fun x hx => s_m_aside hB (fun I3 ha h92 h34 => s_m_calmNights (n := n) (E := E0 A lb 0) (z := zz (mU N (I 92))) hB hR.ml (vE_mk hR.va h0) hR.now.2.1 rfl rfl rfl hk (mD_frQ (mD_now hR (gh := -1) (gs := 0)) ha.1) (h34.trans hR.n34) (by rw [h92]; rfl) (fun I4 f4 hD4 _ hu4 => ?_)))
  have ha4 := ha.go f4
  have key : ∀ d t (I5 : sm_MI), t + d = N → mAs I I5 → I5 76 28 = nI N → mU N (I5 92) = (ngs (E0 A lb 0) W H S N ν k (zz (mU N (I 92)))).1 → (∀ s, s < t → I5 107 s = I5 92 s) → sm_V x 0 0 T I5 L 11 [some (.ref 76), some (.int (nI k)), some (.int (nI t))] [] := by
    intro d
    induction d with
    | zero =>
      intro t I5 e ha5 hn5 hu5 h107
      refine u_X12_noteEnds_11 hB hx ⟨fun _ => ?_, fun q => absurd (by rw [hn5]; exact nI_le (by omega) (by omega)) q⟩
      refine s_m_takeBack hB ?_
      have hf : Fr qMQ I (sm_uI (sm_fill I5 92 8 (I5 97)) 76 34 (I5 76 44)) := (ha5.1.f (fun _ => rfl)).u rfl
      have h92' : ∀ j, j < 8 → (sm_uI (sm_fill I5 92 8 (I5 97)) 76 34 (I5 76 44)) 92 j = I 92 j := by
        intro j hj
        rw [sm_uI_ne (by decide)]
        simp only [sm_fill, if_true, hj]
        exact ha5.2.1 j hj
      have hm92 : mU N ((sm_uI (sm_fill I5 92 8 (I5 97)) 76 34 (I5 76 44)) 92) = mU N (I 92) := by
        funext t
        unfold mU
        by_cases ht : t < N
        · rw [if_pos ht, if_pos ht, h92' t (by omega)]
        · rw [if_neg ht, if_neg ht]
      refine h _ (RR_q hR (hf.mono MQ_qM) rfl hm92 ?_ (Cok_fr hR.c (hf.at 65 (fun _ => rfl)) (hf.at 67 (fun _ => rfl))) (fun k h1 h2 => hf.at k (fun j => MQ_code h1 h2))) ?_ hm92
      · rw [sm_uI_at, pk_us, ha5.2.2]
      · have e107 : (sm_uI (sm_fill I5 92 8 (I5 97)) 76 34 (I5 76 44)) 107 = I5 107 := by
          rw [sm_uI_ne (by decide)]; funext j; simp [sm_fill]
        rw [e107]
        show mU N (I5 107) = (ngs (E0 A lb 0) W H S N ν k (zz (mU N (I 92)))).1
        rw [← hu5]
        funext s
        unfold mU
        by_cases hs : s < N
        · rw [if_pos hs, if_pos hs, h107 s (by omega)]
        · rw [if_neg hs, if_neg hs]
    | succ d ih =>
      intro t I5 e ha5 hn5 hu5 h107
      refine u_X12_noteEnds_11 hB hx ⟨fun q => absurd q (by rw [hn5]; exact nI_ge (by omega) (by omega)), fun _ => ⟨vp_in_nI (by omega) (by decide), vp_in_nI (by omega) (by decide), ?_⟩⟩
      rw [nI_clamp (by omega), nI_1]
      refine ih (t + 1) _ (by omega) ⟨ha5.1.u rfl, fun j hj => (ha5.2.1 j hj), ha5.2.2⟩ hn5 ?_ (fun s hs => ?_)
      · rw [sm_uI_ne (by decide)]; exact hu5
      · rw [sm_uI_at, sm_uI_ne (by decide)]
        by_cases es : s = t
        · subst es; rw [pk_us]
        · rw [pk_un es]; exact h107 s (by omega)
  exact key N 0 I4 (by omega) ha4 hD4.1.1.2.2.1 hu4 (fun s hs => absurd hs (by omega))
end
