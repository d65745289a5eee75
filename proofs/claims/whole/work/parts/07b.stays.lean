/-- does it lie in its house after each of k nights, with locks l -/
def stB (A : Nat → Nat → Int32) (W : Nat → (Nat → Int32) → Int32) (H S N ν l t : Nat) (u : Nat → Int32) : Nat → Bool
  | 0 => true
  | i + 1 => stB A W H S N ν l t u i && decide (nU A W H S N ν (nI l) (-1) (fun _ => -1) (i + 1) u t = u t)
section
variable {n : Nat} {T : List sm_Sh} {I I' I1 : sm_MI} {L L' : sm_ML} {A : Nat → Nat → Int32} {H S N R ν lb b ν' lb' b' : Nat} {W : Nat → (Nat → Int32) → Int32} {f u : Nat → Int32}
theorem stB_no {l t i : Nat} (h : stB A W H S N ν l t u i = false) : ∀ d, stB A W H S N ν l t u (i + d) = false
  | 0 => h
  | d + 1 => by
    show (stB A W H S N ν l t u (i + d) && _) = false
    rw [stB_no h d, Bool.false_and]
theorem s_stays {F : Bool → sm_MI → sm_ML → Prop} {l t k : Nat} (hR : RR A W H S N R ν lb b T I L) (h0 : 0 < H) (ht : t < N) (hk : k < 2 ^ 30)
    (h : ∀ (I' : sm_MI) (L' : sm_ML), RR A W H S N R ν lb b T I' L' → Fr PQ I I' → F (stB A W H S N ν l t (cU N (I 35 0)) k) I' L') : sm_CZ (n + 8) mX11_staysBehind T I L [.ref 0, .int (nI t), .int (nI k), .int (nI l)] F := by
  have hB := hR.hB
  have v4 := hR.va.2.2.2.1
  have hb := hR.bb
  have hν := hR.now.1
  refine c_X11_staysBehind hB (fun x hx => s_placeIn hB (s_begin_R (n := n + 6) hR (fun I1 z g f1 e65 e67 e12 hD hz z1 zc zd => ?_)))
  have f2 : Fr PQ I (sm_uI I1 53 2 (nI l)) := f1.u rfl
  have hD2 : cD (mkE A (nI l) (-1) 0 (-1) g (fun _ => -1)) W H S N R I ν (sm_uI I1 53 2 (nI l)) := cD_of hR f2 hD.2.1 rfl hD.1.2.2.2.2.1 hD.1.2.2.2.1 hD.1.2.2.2.2.2.1 hD.1.2.2.2.2.2.2 (fun w hw => ((hD.1.2.1) w hw).2.2.2.2.2) (by rw [sm_uI_ne (by decide)]; exact e65) (by rw [sm_uI_ne (by decide)]; exact e67)
  have hz2 : cZ N (sm_uI I1 53 2 (nI l)) (sm_uL L 53 3 z.2.2.1) z := ⟨hz.1, hz.2.1, hz.2.2.1, by rw [sm_uI_ne (by decide)]; exact hz.2.2.2.1, by rw [sm_uI_ne (by decide)]; exact hz.2.2.2.2⟩
  rw [← cU_at (N := N) _ ht]
  have key : ∀ d i (I2 : sm_MI), i + d = k → stB A W H S N ν l t (cU N (I 35 0)) i = true → Fr PQ I I2 → cD (mkE A (nI l) (-1) 0 (-1) g (fun _ => -1)) W H S N R I (ν + i) I2 → cZ N I2 (sm_uL L 53 3 (ngs (mkE A (nI l) (-1) 0 (-1) g (fun _ => -1)) W H S N ν i z).2.2.1) (ngs (mkE A (nI l) (-1) 0 (-1) g (fun _ => -1)) W H S N ν i z) → sm_V x 0 0 T I2 (sm_uL L 53 3 (ngs (mkE A (nI l) (-1) 0 (-1) g (fun _ => -1)) W H S N ν i z).2.2.1) 35 [some (.ref 0), some (.int (nI t)), some (.int (nI k)), some (.int (nI l)), some (.int (cU N (I 35 0) t)), some (.int (nI i))] [] := by
    intro d
    induction d with
    | zero =>
      intro i I2 e ha f3 hD3 hz3
      have : i = k := by omega
      subst this
      have hh := h I2 _ (RR_c (v := (ngs (mkE A (nI l) (-1) 0 (-1) g (fun _ => -1)) W H S N ν i z).2.2.1) hR f3 (Cok_of hD3)) f3
      rw [ha] at hh
      exact u_X11_staysBehind_35 hB hx ⟨fun _ => hh, fun q => absurd (nI_le (Nat.le_refl _) (by omega)) q⟩
    | succ d ih =>
      intro i I2 e ha f3 hD3 hz3
      refine u_X11_staysBehind_35 hB hx ⟨fun q => absurd q (nI_ge (by omega) (by omega)), fun _ => c_step (n := n + 1) (E := mkE A (nI l) (-1) 0 (-1) g (fun _ => -1)) hB hR.rl (vE_mk hR.va h0) (Or.inl rfl) (by omega) f3 hD3 hz3 (fun I4 f4 hD4 hz4 => s_placeIn hB ?_)⟩
      rw [← cU_at (N := N) _ ht, hz4.1, nU_eq z1, nI_1]
      have hst : stB A W H S N ν l t (cU N (I 35 0)) (i + 1) = decide (nU A W H S N ν (nI l) (-1) (fun _ => -1) (i + 1) (cU N (I 35 0)) t = cU N (I 35 0) t) := by
        show (stB A W H S N ν l t (cU N (I 35 0)) i && _) = _
        rw [ha, Bool.true_and]
      refine ⟨fun q => ih (i + 1) I4 (by omega) (by rw [hst]; exact decide_eq_true q) f4 hD4 hz4, fun q => ?_⟩
      have hf : stB A W H S N ν l t (cU N (I 35 0)) (i + 1) = false := by rw [hst]; exact decide_eq_false q
      have := stB_no hf d
      rw [show i + 1 + d = k by omega] at this
      have hh := h I4 _ (RR_c (v := (ngs (mkE A (nI l) (-1) 0 (-1) g (fun _ => -1)) W H S N ν (i + 1) z).2.2.1) hR f4 (Cok_of hD4)) f4
      rw [this] at hh
      exact hh
  exact key k 0 _ (by omega) rfl f2 hD2 hz2
end
