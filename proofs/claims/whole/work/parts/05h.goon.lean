section
variable {n : Nat} {T : List sm_Sh} {L : sm_ML} {E : Nat → Nat → Int32} {H S N R ν w : Nat} {W : Nat → (Nat → Int32) → Int32} {I0 : sm_MI}
theorem cD_up {I I' : sm_MI} {P : Nat → Nat → Bool} (hD : cD E W H S N R I0 ν I) (hf : Fr P I I') (hp : ∀ k j, PN k j = false → P k j = false) {ν' : Nat} (hn : I' 53 1 = nI ν') (hC : Cok E W S I') : cD E W H S N R I0 ν' I' := by
  obtain ⟨hE, _, _, h23, hQ⟩ := hD
  refine ⟨cE_fr hE hf hp, hn, hC, (hf 23 2 (hp _ _ rfl)).trans h23, fun k hk => ?_⟩
  rw [hf.at k (fun j => hp _ _ (by
    have h1 : (k == 53) = false := by simp; omega
    have h2 : (k == 57) = false := by simp; omega
    have h3 : (k == 59) = false := by simp; omega
    have h4 : (k == 61) = false := by simp; omega
    have h5 : (k == 63) = false := by simp; omega
    have h6 : (k == 65) = false := by simp; omega
    have h7 : (k == 67) = false := by simp; omega
    simp only [PN, h1, h2, h3, h4, h5, h6, h7, Bool.false_and, Bool.or_false])), hQ k hk]
theorem PC_PN (k j : Nat) (h : PN k j = false) : PC k j = false := PC_PW k j (PW_PN k j h)
theorem s_night_l {F : sm_MI → sm_ML → Prop} {z : w_St} {x : sm_Cx} (hB : sm_Bs T) (hR : sRL T W R I0) (hV : vE E H S N R) (hg : E 0 5 = -1 ∨ ∃ g, g < 8 ∧ E 0 5 = nI g) (hν : ν < 2 ^ 31) (hx : sm_Ok x mX0_goOneNight (n + 6) (sm_KV T F)) {Ia : sm_MI}
    (h : ∀ I' : sm_MI, Fr PN Ia I' → cD E W H S N R I0 (ν + 1) I' → cZ N I' (sm_uL L 53 3 (ngt E W H S N ν z).2.2.1) (ngt E W H S N ν z) → F I' (sm_uL L 53 3 (ngt E W H S N ν z).2.2.1)) :
    ∀ (d w : Nat) (I : sm_MI), w + d = S → Fr PN Ia I → cD E W H S N R I0 ν I → cZ N I (sm_uL L 53 3 (nst E W H N ν w z).2.2.1) (nst E W H N ν w z) → sm_V x 0 0 T I (sm_uL L 53 3 (nst E W H N ν w z).2.2.1) 2 [some (.ref 53), some (.int (nI w))] []
  | 0, w, I, e, hf, hD, hz => by
    have hwS : w = S := by omega
    subst hwS
    have hD' := hD
    obtain ⟨hE, hn, hC, h23R, hQ⟩ := hD'
    obtain ⟨⟨a1, a2, a3, a4, a5⟩, b, ⟨c1, c2, c3, c4, c5⟩⟩ := hE
    obtain ⟨v1, v2, v3, v4, v5, v6⟩ := hV
    obtain ⟨z1, z2, z3, z4, z5⟩ := hz
    refine u_X0_goOneNight_2 hB hx ⟨fun _ => ⟨fun q => ?_, fun q => ?_⟩, fun q => absurd (by rw [a2]; exact nI_le (Nat.le_refl _) (by omega)) q⟩
    · rw [c4] at q
      have hgst : ngt E W H w N ν z = nst E W H N ν w z := by unfold ngt gst; rw [if_pos q]
      rw [hgst] at h
      refine h _ (hf.u rfl) (cD_up hD (P := PN) (Fr.rf.u rfl) (fun _ _ h => h) ?_ (Cok_fr hC (sm_uI_ne (by decide)) (sm_uI_ne (by decide)))) ⟨z1, z2, z3, ?_, ?_⟩
      · rw [sm_uI_at, pk_us, hn, nI_1]
      · rw [sm_uI_ne (by decide), z4]
      · rw [sm_uI_ne (by decide), z5]
    · rw [c4] at q
      rw [c4, c5, a2]
      have hfm := fmN_lt (a := E 0 5 + E 0 6) v1
      have hgst : ngt E W H w N ν z = gst E H w N (nst E W H N ν w z) := rfl
      have hg2 : gst E H w N (nst E W H N ν w z) = (crU (nst E W H N ν w z).1 (crO (E 0 0) N false (E 0 5) (nI (fmN (E 0 5 + E 0 6) H)) (nst E W H N ν w z).1) (nI (fmN (E 0 5 + E 0 6) H)), (nst E W H N ν w z).2.1, (nst E W H N ν w z).2.2.1, crC (crO (E 0 0) N false (E 0 5) (nI (fmN (E 0 5 + E 0 6) H)) (nst E W H N ν w z).1) w (nst E W H N ν w z).2.2.2.1, crD (crO (E 0 0) N false (E 0 5) (nI (fmN (E 0 5 + E 0 6) H)) (nst E W H N ν w z).1) w (nst E W H N ν w z).2.2.2.2) := by
        unfold gst; rw [if_neg q]
      rw [hgst, hg2] at h
      refine s_around hB (H := H) a1 v1 v2 (s_carry (n := n + 3) hB (N := N) a3 v4 (by omega) (by omega) (fun I' f1 f2 f3 f4 => ?_))
      rw [c1, z1] at f2 f3 f4
      rw [z4] at f3
      rw [z5] at f4
      refine h _ ((hf.tr (Fr.mono f1 PC_PN)).u rfl) (cD_up hD (P := PN) ((Fr.mono f1 PC_PN).u rfl) (fun _ _ h => h) ?_ (Cok_fr hC ((sm_uI_ne (by decide)).trans (f1.at 65 (fun _ => rfl))) ((sm_uI_ne (by decide)).trans (f1.at 67 (fun _ => rfl))))) ⟨f2, ?_, z3, ?_, ?_⟩
      · rw [sm_uI_at, pk_us, f1 53 1 rfl, hn, nI_1]
      · show I' 53 13 = _
        rw [f1 53 13 rfl, z2]
      · rw [sm_uI_ne (by decide), f3]
      · rw [sm_uI_ne (by decide), f4]
  | d + 1, w, I, e, hf, hD, hz => by
    have hD' := hD
    obtain ⟨hE, hn, hC, h23R, hQ⟩ := hD'
    obtain ⟨⟨a1, a2, a3, a4, a5⟩, b, ⟨c1, c2, c3, c4, c5⟩⟩ := hE
    have hS5 := hV.2.2.1
    refine u_X0_goOneNight_2 hB hx ⟨fun q => absurd q (by rw [a2]; exact nI_ge (by omega) (by omega)), fun _ => s_walk hB hR hV hD hz (by omega) hν (fun I' f1 hD1 hz1 => ?_)⟩
    rw [sm_uL_2] at hz1 ⊢
    rw [nI_1]
    exact s_night_l hB hR hV hg hν hx h d (w + 1) I' (by omega) (hf.tr (Fr.mono f1 PW_PN)) hD1 hz1
theorem s_goOneNight {I : sm_MI} {F : sm_MI → sm_ML → Prop} {z : w_St} (hB : sm_Bs T) (hR : sRL T W R I0) (hV : vE E H S N R) (hg : E 0 5 = -1 ∨ ∃ g, g < 8 ∧ E 0 5 = nI g) (hν : ν < 2 ^ 31) (hD : cD E W H S N R I0 ν I) (hz : cZ N I L z)
    (h : ∀ I' : sm_MI, Fr PN I I' → cD E W H S N R I0 (ν + 1) I' → cZ N I' (sm_uL L 53 3 (ngt E W H S N ν z).2.2.1) (ngt E W H S N ν z) → F I' (sm_uL L 53 3 (ngt E W H S N ν z).2.2.1)) : sm_CV (n + 6) mX0_goOneNight T I L [.ref 53] F := by
  apply c_X0_goOneNight hB
  intro x hx
  have hz3 := hz.2.2.1
  have := s_night_l (L := L) hB hR hV hg hν hx h S 0 I (by omega) Fr.rf hD (by
    show cZ N I (sm_uL L 53 3 z.2.2.1) z
    rw [sm_uL_id hz3]; exact hz)
  have e : sm_uL L 53 3 (nst E W H N ν 0 z).2.2.1 = L := sm_uL_id hz3
  rw [e] at this
  exact this
theorem s_goOn_l {F : sm_MI → sm_ML → Prop} {z : w_St} {x : sm_Cx} {m : Nat} (hB : sm_Bs T) (hR : sRL T W R I0) (hV : vE E H S N R) (hg : E 0 5 = -1 ∨ ∃ g, g < 8 ∧ E 0 5 = nI g) (hm : m < 2 ^ 30) (hν : ν < 2 ^ 30) (hx : sm_Ok x mX0_goOn (n + 7) (sm_KV T F)) {Ia : sm_MI}
    (h : ∀ I' : sm_MI, Fr PN Ia I' → cD E W H S N R I0 (ν + m) I' → cZ N I' (sm_uL L 53 3 (ngs E W H S N ν m z).2.2.1) (ngs E W H S N ν m z) → F I' (sm_uL L 53 3 (ngs E W H S N ν m z).2.2.1)) :
    ∀ (d i : Nat) (I : sm_MI), i + d = m → Fr PN Ia I → cD E W H S N R I0 (ν + i) I → cZ N I (sm_uL L 53 3 (ngs E W H S N ν i z).2.2.1) (ngs E W H S N ν i z) → sm_V x 0 0 T I (sm_uL L 53 3 (ngs E W H S N ν i z).2.2.1) 2 [some (.ref 53), some (.int (nI m)), some (.int (nI i))] []
  | 0, i, I, e, hf, hD, hz => by
    have him : i = m := by omega
    subst him
    exact u_X0_goOn_2 hB hx ⟨fun _ => h I hf hD hz, fun q => absurd (nI_le (Nat.le_refl _) (by omega)) q⟩
  | d + 1, i, I, e, hf, hD, hz => u_X0_goOn_2 hB hx ⟨fun q => absurd q (nI_ge (by omega) (by omega)), fun _ => s_goOneNight hB hR hV hg (by omega) hD hz (fun I' f1 hD1 hz1 => by
      rw [sm_uL_2] at hz1 ⊢
      rw [nI_1]
      exact s_goOn_l hB hR hV hg hm hν hx h d (i + 1) I' (by omega) (hf.tr f1) hD1 hz1)⟩
theorem s_goOn {I : sm_MI} {F : sm_MI → sm_ML → Prop} {z : w_St} {m : Nat} (hB : sm_Bs T) (hR : sRL T W R I0) (hV : vE E H S N R) (hg : E 0 5 = -1 ∨ ∃ g, g < 8 ∧ E 0 5 = nI g) (hm : m < 2 ^ 30) (hν : ν < 2 ^ 30) (hD : cD E W H S N R I0 ν I) (hz : cZ N I L z)
    (h : ∀ I' : sm_MI, Fr PN I I' → cD E W H S N R I0 (ν + m) I' → cZ N I' (sm_uL L 53 3 (ngs E W H S N ν m z).2.2.1) (ngs E W H S N ν m z) → F I' (sm_uL L 53 3 (ngs E W H S N ν m z).2.2.1)) : sm_CV (n + 7) mX0_goOn T I L [.ref 53, .int (nI m)] F := by
  apply c_X0_goOn hB
  intro x hx
  have hz3 := hz.2.2.1
  have := s_goOn_l (L := L) hB hR hV hg hm hν hx h m 0 I (by omega) Fr.rf hD (by
    show cZ N I (sm_uL L 53 3 z.2.2.1) z
    rw [sm_uL_id hz3]; exact hz)
  have e : sm_uL L 53 3 (ngs E W H S N ν 0 z).2.2.1 = L := sm_uL_id hz3
  rw [e] at this
  exact this
end
