section
variable {n : Nat} {T : List sm_Sh} {I : sm_MI} {L : sm_ML} {E : Nat → Nat → Int32} {H S N R ν w : Nat} {W : Nat → (Nat → Int32) → Int32} {I0 : sm_MI}
theorem slt_v {w q ν : Nat} (hν : ν < 2 ^ 31) : (((nI ν - nI ν / 64 * 64) * 5 + nI w) * 9) + nI q = nI (slt ν w q) := by
  have e1 : nI ν - nI ν / 64 * 64 = nI (ν % 64) := pk_rem (d := 64) hν (by decide) (by decide)
  have e2 : nI (ν % 64) * 5 = nI (ν % 64 * 5) := pk_mul _ 5
  have e3 : nI (ν % 64 * 5 + w) * 9 = nI ((ν % 64 * 5 + w) * 9) := pk_mul _ 9
  rw [e1, e2, nI_add, e3, nI_add]
  rfl
theorem s_ownStride {F : Int32 → sm_MI → sm_ML → Prop} (hB : sm_Bs T) (hR : sRL T W R I0) (hV : vE E H S N R) (hE : cE E H S N I) (hw : w < S) (hn : I 53 1 = nI ν) (hν : ν < 2 ^ 31) (hC : Cok E W S I) (h23R : I 23 2 = nI R) (hQ : ∀ k, 110 ≤ k → I k = I0 k)
    (h : ∀ I' : sm_MI, Fr PO I I' → Cok E W S I' → F (ownE E W N ν w (cU N (I 53 0))) I' L) : sm_CI (n + 4) mX0_ownStride T I L [.ref 53, .int (nI w)] F := by
  apply c_X0_ownStride hB
  intro x hx
  have hE' := hE
  obtain ⟨⟨a1, a2, a3, a4, a5⟩, b, c⟩ := hE'
  obtain ⟨v1, v2, v3, v4, v5, v6⟩ := hV
  have hw5 : w < 5 := by omega
  obtain ⟨b1, b2, b3, b4, b5, b6⟩ := b w hw
  rcases (v6 w hw).2 with hr | ⟨i, hi, hr⟩
  · refine s_ruleOf_no hB hR hw5 (b5.trans hr) ⟨fun _ => s_at (t_54 hB) (t_55 hB) hw5 (by decide) ⟨fun q => s_at (t_27 hB) (t_28 hB) hw5 (by decide) (s_own162 hB hx hE hw hw5 hn ?_), fun q => s_at (t_54 hB) (t_55 hB) hw5 (by decide) (s_own162 hB hx hE hw hw5 hn ?_)⟩, fun k q => absurd q (by simp)⟩
    · have := h I Fr.rf hC
      unfold ownE ownR at this
      rw [if_pos (b6.symm.trans q), if_pos hr] at this
      rw [b2]
      exact this
    · have := h I Fr.rf hC
      unfold ownE ownR at this
      rw [if_neg (fun z => q (b6.trans z))] at this
      rw [b6]
      exact this
  · have hne : E 5 w ≠ -1 := by
      rw [hr]
      intro z
      have := congrArg Int32.toInt z
      rw [nI_toInt (by omega)] at this
      have e1 : (-1 : Int32).toInt = -1 := by decide
      omega
    refine s_ruleOf_yes hB hR hw5 hi v5 h23R (b5.trans hr) (fun k a b hT hW => ⟨fun q => absurd q (by simp), fun k3 q => ?_⟩)
    obtain rfl := Option.some.inj q
    refine s_at (t_54 hB) (t_55 hB) hw5 (by decide) ⟨fun q => ?_, fun q => s_at (t_54 hB) (t_55 hB) hw5 (by decide) (s_own162 hB hx hE hw hw5 hn ?_)⟩
    · refine s_at (t_25 hB) (t_26 hB) hw5 (by decide) (s_thingsIn hB a3 v4 (s_BC ?_))
      intro v hv
      rw [hn, b1, thC_BC v4, slt_v hν] at hv
      subst hv
      have hq9 : thC (cU N (I 53 0)) (E 1 w) N < 9 := Nat.lt_of_le_of_lt (thC_le _ _ _) (by omega)
      have hsl := slt_lt (ν := ν) hw5 hq9
      have hval : ownE E W N ν w (cU N (I 53 0)) = ownM E ν w (W (E 5 w).toNatClampNeg (ltE E ν w (thC (cU N (I 53 0)) (E 1 w) N))) := by
        unfold ownE ownR
        rw [if_pos (b6.symm.trans q), if_neg hne]
      rw [hval] at h
      refine s_at (t_66 hB) (t_67 hB) hsl (by decide) ⟨fun z => s_at (t_64 hB) (t_65 hB) hsl (by decide) (s_own162 hB hx hE hw hw5 hn ?_), fun z => ?_⟩
      · rw [hC ν w _ hν hw hq9 hne (z.trans hn)]
        exact h I Fr.rf hC
      · rw [b1, thC_BC v4]
        refine s_tellLetters hB hE hw hw5 hn (fun I1 f1 hl => ⟨a, _, hT, hW _ I1 _ _ (fun k hk => (f1.at k (fun j => by simp [P61]; omega)).trans (hQ k hk)) (fun I2 f2 => s_set (t_64 hB) (t_65 hB) hsl (by decide) (s_set (t_66 hB) (t_67 hB) hsl (by decide) (s_at (t_64 hB) (t_65 hB) hsl (by decide) (s_own162 (H := H) (S := S) (N := N) (E := E) (ν := ν) hB hx ?_ hw hw5 ?_ ?_))))⟩)
        · refine cE_fr (P := PO) hE (((((Fr.mono f1 ?_).tr (Fr.mono f2 ?_))).u rfl).u rfl) ?_
          · intro k j; simp only [PO, P61, Bool.or_eq_false_iff]; exact fun q => q.1.1.1
          · intro k j; simp only [PO, P63, Bool.or_eq_false_iff]; exact fun q => q.1.1.2
          · intro k j; simp only [PO, PN, Bool.or_eq_false_iff]; exact fun q => ⟨⟨⟨q.1.1.1.2, q.1.1.2⟩, q.1.2⟩, q.2⟩
        · rw [sm_uI_ne (by decide), sm_uI_ne (by decide), f2 53 1 rfl, f1 53 1 rfl, hn]
        · have hWv : W i (I1 61) = W (E 5 w).toNatClampNeg (ltE E ν w (thC (cU N (I 53 0)) (E 1 w) N)) := by
            rw [hr, nI_clamp (by omega)]
            exact hR.1 i _ _ hl
          rw [sm_uI_ne (by decide), sm_uI_at, pk_us, hWv, sm_uI_ne (show (53 : Nat) ≠ 65 by decide), f2 53 1 rfl, f1 53 1 rfl, hn]
          refine h _ ?_ ?_
          · refine (((Fr.mono f1 ?_).tr (Fr.mono f2 ?_)).u rfl).u rfl
            · intro k j; simp only [PO, P61, Bool.or_eq_false_iff]; exact fun q => q.1.1.1
            · intro k j; simp only [PO, P63, Bool.or_eq_false_iff]; exact fun q => q.1.1.2
          · intro ν' w' q' hν' hw' hq' hne' he
            rw [sm_uI_at, sm_uI_ne (show (67 : Nat) ≠ 65 by decide), f2.at 67 (fun _ => rfl), f1.at 67 (fun _ => rfl)] at he
            rw [sm_uI_ne (show (65 : Nat) ≠ 67 by decide), sm_uI_at, f2.at 65 (fun _ => rfl), f1.at 65 (fun _ => rfl)]
            by_cases es : slt ν' w' q' = slt ν w (thC (cU N (I 53 0)) (E 1 w) N)
            · obtain ⟨e1, e2⟩ := slt_inj (by omega) hq' hw5 hq9 es
              subst e1 e2
              rw [es, pk_us] at he
              have e3 := (nI_eq hν hν').mp he
              subst e3
              rw [pk_us]
            · rw [pk_un es] at he
              rw [pk_un es]
              exact hC ν' w' q' hν' hw' hq' hne' he
    · have := h I Fr.rf hC
      unfold ownE ownR at this
      rw [if_neg (fun z => q (b6.trans z))] at this
      rw [b6]
      exact this
end
