/-! ===== nights of the class's, with what is kept of them ===== -/
def PKc (k j : Nat) : Bool := k == 39 || k == 41 || k == 43 || (k == 37 && (j == 3 || j == 4))
def PNt (k j : Nat) : Bool := PQ k j || PKc k j || k == 35
def pCst (N : Nat) (h : Nat → uD) (tot nx ct : Nat) (I : sm_MI) : Prop := nx < 60 ∧ ct = min tot 60 ∧ I 37 3 = nI nx ∧ I 37 4 = nI ct ∧ ∀ m, m < ct → cU N (I 39 ((nx + 60 - ct + m) % 60)) = (h (tot - ct + m)).1 ∧ qDw (I 41 ((nx + 60 - ct + m) % 60)) (I 43 ((nx + 60 - ct + m) % 60)) = (h (tot - ct + m)).2
theorem pCst_fr {N : Nat} {h : Nat → uD} {tot nx ct : Nat} {I I' : sm_MI} (hp : pCst N h tot nx ct I) (e1 : I' 37 3 = I 37 3) (e2 : I' 37 4 = I 37 4) (e3 : I' 39 = I 39) (e4 : I' 41 = I 41) (e5 : I' 43 = I 43) : pCst N h tot nx ct I' := by
  unfold pCst
  rw [e1, e2, e3, e4, e5]
  exact hp
theorem PNt_big {k j : Nat} (h : 76 ≤ k) : PNt k j = false := by
  have e1 := PQ_big (j := j) h
  have e2 : (k == 39) = false := by simp; omega
  have e3 : (k == 41) = false := by simp; omega
  have e4 : (k == 43) = false := by simp; omega
  have e5 : (k == 37) = false := by simp; omega
  have e6 : (k == 35) = false := by simp; omega
  simp only [PNt, PKc, e1, e2, e3, e4, e5, e6, Bool.false_and, Bool.or_false]
theorem PKc_PNt (k j : Nat) (h : PNt k j = false) : PKc k j = false := (Bool.or_eq_false_iff.mp (Bool.or_eq_false_iff.mp h).1).2
theorem PQ_PNt (k j : Nat) (h : PNt k j = false) : PQ k j = false := (Bool.or_eq_false_iff.mp (Bool.or_eq_false_iff.mp h).1).1
section
variable {n : Nat} {T : List sm_Sh} {I I' I1 : sm_MI} {L L' : sm_ML} {A : Nat → Nat → Int32} {H S N R ν lb b ν' lb' b' : Nat} {W : Nat → (Nat → Int32) → Int32} {f u : Nat → Int32} {g g' : Int32} {r : Nat}
theorem s_keep {F : sm_MI → sm_ML → Prop} {h : Nat → uD} {tot nx ct : Nat} (hB : sm_Bs T) (hp : pCst N h tot nx ct I) (hu : cU N (I 35 0) = (h tot).1) (hd : L 35 3 = (h tot).2)
    (k : ∀ I', Fr PKc I I' → (∃ nx' ct', pCst N h (tot + 1) nx' ct' I') → F I' L) : sm_CV (n + 1) mX1_keep T I L [.ref 37, .ref 35] F := by
  obtain ⟨h1, h2, h3, h4, h5⟩ := hp
  refine c_X1_keep hB ?_
  rw [h3]
  refine s_set (t_38 hB) (t_39 hB) h1 (by decide) ?_
  rw [show (sm_uI I 39 nx (I 35 0)) 37 3 = nI nx from h3]
  refine s_set (t_40 hB) (t_41 hB) h1 (by decide) ?_
  generalize hhi : Int64.toInt32 ((Int64.toUInt64 (L 35 3) >>> ((Int32.toInt64 32).toUInt64 &&& Int64.toUInt64 63)).toInt64) = hi
  rw [show (sm_uI (sm_uI I 39 nx (I 35 0)) 41 nx hi) 37 3 = nI nx from h3]
  refine s_set (t_42 hB) (t_43 hB) h1 (by decide) ?_
  generalize hlo : Int64.toInt32 (L 35 3) = lo
  intro I4 e4
  rw [show (sm_uI (sm_uI (sm_uI I 39 nx (I 35 0)) 41 nx hi) 43 nx lo) 37 3 = nI nx from h3] at e4
  have hrem : (nI nx + 1) - (nI nx + 1) / 60 * 60 = nI ((nx + 1) % 60) := by
    rw [nI_1]
    exact pk_rem (d := 60) (by omega) (by decide) (by decide)
  rw [hrem] at e4
  have e374 : I4 37 4 = nI ct := by rw [e4]; exact h4
  have hmin : (if 60 < (nI ct + 1) then (60 : Int32) else nI ct + 1) = nI (min (ct + 1) 60) := by
    rw [nI_1]
    by_cases q : ct = 60
    · rw [if_pos (by rw [q]; decide), q]; rfl
    · rw [if_neg (show ¬ (60 : Int32) < nI (ct + 1) from nI_nlt (a := 60) (b := ct + 1) (by omega) (by decide)), Nat.min_eq_left (by omega)]
  rw [e374, hmin]
  subst e4
  have hq : qDw hi lo = (h tot).2 := by rw [← hhi, ← hlo, qDw_halves, hd]
  refine k _ (((((Fr.rf.u rfl).u rfl).u rfl).u rfl).u rfl) ⟨(nx + 1) % 60, min (ct + 1) 60, Nat.mod_lt _ (by decide), by omega, rfl, rfl, fun m hm => ?_⟩
  have e39 : (sm_uI (sm_uI (sm_uI (sm_uI (sm_uI I 39 nx (I 35 0)) 41 nx hi) 43 nx lo) 37 3 (nI ((nx + 1) % 60))) 37 4 (nI (min (ct + 1) 60))) 39 = upd (I 39) nx (I 35 0) := by
    rw [sm_uI_ne (by decide), sm_uI_ne (by decide), sm_uI_ne (by decide), sm_uI_ne (by decide), sm_uI_at]
  have e41 : (sm_uI (sm_uI (sm_uI (sm_uI (sm_uI I 39 nx (I 35 0)) 41 nx hi) 43 nx lo) 37 3 (nI ((nx + 1) % 60))) 37 4 (nI (min (ct + 1) 60))) 41 = upd (I 41) nx hi := by
    rw [sm_uI_ne (by decide), sm_uI_ne (by decide), sm_uI_ne (by decide), sm_uI_at, sm_uI_ne (by decide)]
  have e43 : (sm_uI (sm_uI (sm_uI (sm_uI (sm_uI I 39 nx (I 35 0)) 41 nx hi) 43 nx lo) 37 3 (nI ((nx + 1) % 60))) 37 4 (nI (min (ct + 1) 60))) 43 = upd (I 43) nx lo := by
    rw [sm_uI_ne (by decide), sm_uI_ne (by decide), sm_uI_at, sm_uI_ne (by decide), sm_uI_ne (by decide)]
  rw [e39, e41, e43]
  by_cases q : m + 1 = min (ct + 1) 60
  · have es : ((nx + 1) % 60 + 60 - min (ct + 1) 60 + m) % 60 = nx := by omega
    have et : tot + 1 - min (ct + 1) 60 + m = tot := by omega
    rw [es, et, pk_us, pk_us, pk_us]
    exact ⟨hu, hq⟩
  · obtain ⟨m', hm', es, et⟩ : ∃ m', m' < ct ∧ ((nx + 1) % 60 + 60 - min (ct + 1) 60 + m) % 60 = (nx + 60 - ct + m') % 60 ∧ tot + 1 - min (ct + 1) 60 + m = tot - ct + m' := by
      by_cases q2 : ct = 60
      · exact ⟨m + 1, by omega, by omega, by omega⟩
      · exact ⟨m, by omega, by omega, by omega⟩
    have hne : (nx + 60 - ct + m') % 60 ≠ nx := by omega
    rw [es, et, pk_un hne, pk_un hne, pk_un hne]
    exact h5 m' hm'
theorem cD_r {I' : sm_MI} (h : RR A W H S N R ν lb b T I L) (hf : Fr PNt I I') (e1 : I' 53 1 = nI ν') (e2 : I' 53 2 = nI lb) (e9 : I' 53 9 = nI r) (e10 : I' 53 10 = -1) (e11 : I' 53 11 = -1) (e12 : I' 53 12 = g) (e55 : ∀ w, w < 5 → I' 55 w = -1) (hC : Cok (mkE A 0 0 0 0 0 (fun _ => 0)) W S I') : cD (Er A lb r g) W H S N R I ν' I' := by
  obtain ⟨⟨a1, a2, a3, a4, a5⟩, b1, _, _, _⟩ := h.st
  have v3 := h.va.2.2.1
  have g : ∀ k j, PNt k j = false → I' k j = I k j := hf
  refine ⟨⟨⟨(g 24 0 rfl).trans a1, (g 24 1 rfl).trans a2, (g 24 2 rfl).trans a3, (g 24 4 rfl).trans a4, (g 24 5 rfl).trans a5⟩, fun w hw => ?_, e2, e10, e9, e11, e12⟩, e1, Cok_mk hC, (g 23 2 rfl).trans h.rest.1, fun k hk => hf.at k (fun j => PNt_big (by omega))⟩
  obtain ⟨c1, c2, c3, c4, c5⟩ := b1 w hw
  exact ⟨(g 26 w rfl).trans c1, (g 28 w rfl).trans c2, (g 30 w rfl).trans c3, (g 32 w rfl).trans c4, (g 34 w rfl).trans c5, e55 w (by omega)⟩
/-- the class after i nights -/
def nCI (A : Nat → Nat → Int32) (W : Nat → (Nat → Int32) → Int32) (H S N lb r ν : Nat) (q0 : uD) (h : Nat → uD) (tot : Nat) (I : sm_MI) (L : sm_ML) (i : Nat) (Ic : sm_MI) (Lc : sm_ML) : Prop :=
  Fr PNt I Ic ∧ cU N (Ic 35 0) = (nSq A W H S N lb r ν q0 i).1 ∧ Ic 35 1 = nI (ν + i) ∧ Ic 35 2 = nI lb ∧ Lc 35 3 = (nSq A W H S N lb r ν q0 i).2 ∧ Cok (mkE A 0 0 0 0 0 (fun _ => 0)) W S Ic ∧ (∃ nx ct, pCst N h (tot + i) nx ct Ic) ∧ Lc 36 = L 36 ∧ Lc 76 = L 76 ∧ Lc 96 = L 96
theorem s_nights_l {F : Int32 → sm_MI → sm_ML → Prop} {x : sm_Cx} {q0 : uD} {h : Nat → uD} {tot k : Nat} (hR : RR A W H S N R ν lb b T I L) (h0 : 0 < H) (hk : k ≤ 60) (hx : sm_Ok x mX11_nights (n + 7) (sm_KI T F)) (hr : I 0 11 = nI r) (hh : ∀ i, h (tot + i) = nSq A W H S N lb r ν q0 i)
    (hfin : ∀ Ic Lc, nCI A W H S N lb r ν q0 h tot I L k Ic Lc → F (nI (ν + k)) Ic Lc) :
    ∀ d i (Ic : sm_MI) (Lc : sm_ML), i + d = k → nCI A W H S N lb r ν q0 h tot I L i Ic Lc → sm_V x 0 0 T Ic Lc 24 [some (.ref 0), some (.int (nI k)), some (.int (nI i))] [] := by
  have hB := hR.hB
  have hb := hR.bb
  have hν := hR.now.1
  intro d
  induction d with
  | zero =>
    intro i Ic Lc e hI
    have : i = k := by omega
    subst this
    refine u_X11_nights_24 hB hx ⟨fun _ => ?_, fun q => absurd (nI_le (Nat.le_refl _) (by omega)) q⟩
    rw [hI.2.2.1]
    exact hfin Ic Lc hI
  | succ d ih =>
    intro i Ic Lc e hI
    obtain ⟨i1, i2, i3, i4, i5, i6, ⟨nx, ct, i7⟩, i8, i9, i10⟩ := hI
    refine u_X11_nights_24 hB hx ⟨fun q => absurd q (nI_ge (by omega) (by omega)), fun _ => s_keep (n := n + 5) hB i7 (by rw [i2, hh]) (by rw [i5, hh]) (fun I1 f1 hp1 => s_begin (n := n + 5) hB (fun I2 f2 e0 e1 e2 e9 e10 e11 e55 e57 e59 => ?_))⟩
    have fB : Fr PNt I I2 := (i1.tr (f1.mono PKc_PNt)).tr (f2.mono (fun k j q => PB_PQ k j (PQ_PNt k j q)))
    have fC : Fr PNt I (sm_uI I2 53 9 (I2 0 11)) := fB.u rfl
    have e11' : I2 0 11 = nI r := (fB 0 11 rfl).trans hr
    have hC2 : Cok (mkE A 0 0 0 0 0 (fun _ => 0)) W S (sm_uI I2 53 9 (I2 0 11)) := Cok_fr i6 (by rw [sm_uI_ne (by decide), f2.at 65 (fun _ => rfl), f1.at 65 (fun _ => rfl)]) (by rw [sm_uI_ne (by decide), f2.at 67 (fun _ => rfl), f1.at 67 (fun _ => rfl)])
    have hD : cD (Er A lb r (I2 53 12)) W H S N R I (ν + i) (sm_uI I2 53 9 (I2 0 11)) := cD_r hR fC (e1.trans ((f1 35 1 rfl).trans i3)) (e2.trans ((f1 35 2 rfl).trans i4)) (by rw [sm_uI_at, pk_us, e11']) e10 e11 rfl (fun w hw => e55 w hw) hC2
    have hz : cZ N (sm_uI I2 53 9 (I2 0 11)) (sm_uL Lc 53 3 (Lc 35 3)) (cU N (I2 53 0), I2 53 13, Lc 35 3, I2 57, I2 59) := ⟨rfl, rfl, sm_uL_s, sm_uI_ne (by decide), sm_uI_ne (by decide)⟩
    have hzu : cU N (I2 53 0) = (nSq A W H S N lb r ν q0 i).1 := by rw [e0, f1 35 0 rfl, i2]
    refine s_goOneNight (n := n) hB hR.rl (vE_mk hR.va h0) (Or.inl rfl) (by omega) hD hz (fun I3 f3 hD3 hz3 => c_X7_copy_nd hB (fun I4 h4 I5 h5 => ?_))
    rw [sm_uL_2] at hz3 ⊢
    rw [ngt_n rfl] at hz3 ⊢
    obtain ⟨q1, q2⟩ := ngF_eq (A := A) (W := W) (H := H) (S := S) (N := N) (lb := lb) (r := r) (ν := ν + i) (g := I2 53 12) (z := (cU N (I2 53 0), I2 53 13, Lc 35 3, I2 57, I2 59)) (q := nSq A W H S N lb r ν q0 i) hzu i5
    obtain ⟨z1, z2, z3, z4, z5⟩ := hz3
    rw [q1] at z1
    rw [q2] at z3 ⊢
    have fN : Fr PNt I I3 := fC.tr (f3.mono (fun k j q => PN_PQ k j (PQ_PNt k j q)))
    have g1 : I5 = sm_uI (sm_uI I3 35 0 (I3 53 0)) 35 1 (I3 53 1) := by rw [h5, h4]; rfl
    have g2 : I5 53 2 = nI lb := by rw [g1]; exact hD3.1.2.2.1
    have g3 : I3 53 1 = nI (ν + i + 1) := hD3.2.1
    rw [g2]
    rw [g1, g3, nI_1]
    clear h4 h5 g1 g2
    have lz : (sm_uL Lc 53 3 (ngF A W H S N lb r (ν + i) (nSq A W H S N lb r ν q0 i)).2) 53 3 = (ngF A W H S N lb r (ν + i) (nSq A W H S N lb r ν q0 i)).2 := sm_uL_s
    rw [lz]
    have pt : ∀ k, k = 37 ∨ k = 39 ∨ k = 41 ∨ k = 43 → (sm_uI (sm_uI (sm_uI I3 35 0 (I3 53 0)) 35 1 (nI (ν + i + 1))) 35 2 (nI lb)) k = I1 k := by
      intro k hk
      have hk35 : k ≠ 35 := by omega
      rw [sm_uI_ne hk35, sm_uI_ne hk35, sm_uI_ne hk35]
      have e1 : I3 k = (sm_uI I2 53 9 (I2 0 11)) k := by rcases hk with q | q | q | q <;> subst q <;> exact f3.at _ (fun _ => rfl)
      have e2 : I2 k = I1 k := by rcases hk with q | q | q | q <;> subst q <;> exact f2.at _ (fun _ => rfl)
      rw [e1, sm_uI_ne (by omega), e2]
    obtain ⟨nx', ct', hp'⟩ := hp1
    refine ih (i + 1) _ _ (by omega) ⟨((fN.u rfl).u rfl).u rfl, z1, rfl, rfl, sm_uL_s, ?_, ⟨nx', ct', pCst_fr hp' (by rw [pt 37 (Or.inl rfl)]) (by rw [pt 37 (Or.inl rfl)]) (pt 39 (Or.inr (Or.inl rfl))) (pt 41 (Or.inr (Or.inr (Or.inl rfl)))) (pt 43 (Or.inr (Or.inr (Or.inr rfl))))⟩, ?_, ?_, ?_⟩
    · exact Cok_fr (Cok_of hD3) (by rw [sm_uI_ne (by decide), sm_uI_ne (by decide), sm_uI_ne (by decide)]) (by rw [sm_uI_ne (by decide), sm_uI_ne (by decide), sm_uI_ne (by decide)])
    · rw [sm_uL_ne (by decide), sm_uL_ne (by decide), i8]
    · rw [sm_uL_ne (by decide), sm_uL_ne (by decide), i9]
    · rw [sm_uL_ne (by decide), sm_uL_ne (by decide), i10]
end
