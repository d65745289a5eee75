/-- who carried what in a night -/
def nko (E : Nat → Nat → Int32) (W : Nat → (Nat → Int32) → Int32) (H N ν : Nat) (z : w_St) (w : Nat) : Option Nat :=
  w_o E H N w (strE E W N ν w (fvB E w (nst E W H N ν w z).2.2.1) (nst E W H N ν w z).2.1 (nst E W H N ν w z).1) (nst E W H N ν w z).1
theorem fvC_0 {E : Nat → Nat → Int32} (h : E 0 2 = 0) (w : Nat) : fvC E w = false := by unfold fvC; simp [h]
theorem fvB_0 {E : Nat → Nat → Int32} (h : E 0 2 = 0) (w : Nat) (D : Int64) : fvB E w D = false := by unfold fvB; rw [fvC_0 h]; rfl
theorem nst_D {E : Nat → Nat → Int32} {W : Nat → (Nat → Int32) → Int32} {H N ν : Nat} (h : E 0 2 = 0) (z : w_St) : ∀ w, (nst E W H N ν w z).2.2.1 = z.2.2.1
  | 0 => rfl
  | w + 1 => by
    show fvD E w (nst E W H N ν w z).2.2.1 = _
    unfold fvD
    rw [fvC_0 h, if_neg (by decide), nst_D h z w]
section
variable {n : Nat} {T : List sm_Sh} {L : sm_ML} {E : Nat → Nat → Int32} {H S N R ν w : Nat} {W : Nat → (Nat → Int32) → Int32} {I0 : sm_MI}
theorem s_m_calm_l {F : sm_MI → sm_ML → Prop} {z : w_St} {x : sm_Cx} {lb : Nat} (hB : sm_Bs T) (hR : mRL T W R I0) (hV : vE E H S N R) (hlb : lb < 256) (hlk : E 0 0 = nI lb) (hr0 : E 0 2 = 0) (hx : sm_Ok x mX12_calmNight (n + 7) (sm_KV T F)) {Ia : sm_MI}
    (h : ∀ I' : sm_MI, Fr MN Ia I' → mD E H S N I0 I' → I' 76 34 = nI (ν + 1) → mU N (I' 92) = (nst E W H N ν S z).1 → (∀ j, j < S → I' 98 j = oI (nko E W H N ν z j)) → F I' L) :
    ∀ (d w : Nat) (I : sm_MI), w + d = S → Fr MN Ia I → mD E H S N I0 I → I 76 34 = nI ν → mU N (I 92) = (nst E W H N ν w z).1 → (0 < w → I 94 (w - 1) = (nst E W H N ν w z).2.1) → (∀ j, j < w → I 98 j = oI (nko E W H N ν z j)) → sm_V x 0 0 T I L 2 [some (.ref 76), some (.int (nI w))] []
  | 0, w, I, e, hf, hD, hn, hu, hs, hc => by
    have hwS : w = S := by omega
    subst hwS
    have hv3 := hV.2.2.1
    refine u_X12_calmNight_2 hB hx ⟨fun _ => h _ (hf.u rfl) (mD_up (P := MN) hD (Fr.rf.u rfl) (fun _ _ h => h)) ?_ ?_ (fun j hj => ?_), fun q => absurd (by rw [hD.1.1.2.1]; exact nI_le (Nat.le_refl _) (by omega)) q⟩
    · rw [sm_uI_at, pk_us, hn, nI_1]
    · rw [sm_uI_ne (by decide), hu]
    · rw [sm_uI_ne (by decide), hc j hj]
  | d + 1, w, I, e, hf, hD, hn, hu, hs, hc => by
    have hv3 := hV.2.2.1
    refine u_X12_calmNight_2 hB hx ⟨fun q => absurd q (by rw [hD.1.1.2.1]; exact nI_ge (by omega) (by omega)), fun _ => ?_⟩
    rw [hn]
    refine s_m_walk hB hR hV hD (by omega) hlb hlk (fun q => absurd q (by decide)) hs (fun I' f1 f2 f3 => ⟨vp_in_nI (by omega) (by decide), ?_⟩)
    rw [nI_clamp (by omega), nI_1]
    have ef := fvB_0 (E := E) hr0 w (nst E W H N ν w z).2.2.1
    have est : strE E W N ν w false (nst E W H N ν w z).2.1 (mU N (I 92)) = strE E W N ν w (fvB E w (nst E W H N ν w z).2.2.1) (nst E W H N ν w z).2.1 (nst E W H N ν w z).1 := by rw [ef, hu]
    rw [est] at f2 f3
    rw [hu] at f3
    have eo : w_o E H N w (strE E W N ν w false (nst E W H N ν w z).2.1 (mU N (I 92))) (mU N (I 92)) = nko E W H N ν z w := by rw [est, hu]; rfl
    rw [eo]
    refine s_m_calm_l hB hR hV hlb hlk hr0 hx h d (w + 1) _ (by omega) ((hf.tr (Fr.mono f1 MW_MN)).u rfl) (mD_up (P := MN) hD ((Fr.mono f1 MW_MN).u rfl) (fun _ _ h => h)) ?_ ?_ (fun _ => ?_) (fun j hj => ?_)
    · rw [sm_uI_ne (by decide), f1 76 34 rfl, hn]
    · rw [sm_uI_ne (by decide), f3]; rfl
    · rw [sm_uI_ne (by decide), f2, Nat.add_sub_cancel, pk_us]; rfl
    · rw [sm_uI_at]
      by_cases e2 : j = w
      · subst e2; rw [pk_us]
      · rw [pk_un e2, f1.at 98 (fun _ => rfl), hc j (by omega)]
theorem s_m_calmNight {I : sm_MI} {F : sm_MI → sm_ML → Prop} {z : w_St} {lb : Nat} (hB : sm_Bs T) (hR : mRL T W R I0) (hV : vE E H S N R) (hlb : lb < 256) (hlk : E 0 0 = nI lb) (hr0 : E 0 2 = 0) (hD : mD E H S N I0 I) (hn : I 76 34 = nI ν) (hu : mU N (I 92) = z.1)
    (h : ∀ I' : sm_MI, Fr MN I I' → mD E H S N I0 I' → I' 76 34 = nI (ν + 1) → mU N (I' 92) = (nst E W H N ν S z).1 → (∀ j, j < S → I' 98 j = oI (nko E W H N ν z j)) → F I' L) : sm_CV (n + 7) mX12_calmNight T I L [.ref 76] F :=
  c_X12_calmNight hB (fun x hx => s_m_calm_l hB hR hV hlb hlk hr0 hx h S 0 I (by omega) Fr.rf hD hn hu (fun q => absurd q (by decide)) (fun j hj => absurd hj (by omega)))
theorem s_m_calms_l {F : sm_MI → sm_ML → Prop} {z : w_St} {x : sm_Cx} {lb m : Nat} (hB : sm_Bs T) (hR : mRL T W R I0) (hV : vE E H S N R) (hlb : lb < 256) (hlk : E 0 0 = nI lb) (hr0 : E 0 2 = 0) (hg : E 0 5 = -1) (hm : m < 2 ^ 30) (hx : sm_Ok x mX12_calmNights (n + 8) (sm_KV T F)) {Ia : sm_MI}
    (h : ∀ I' : sm_MI, Fr MN Ia I' → mD E H S N I0 I' → I' 76 34 = nI (ν + m) → mU N (I' 92) = (ngs E W H S N ν m z).1 → F I' L) :
    ∀ (d i : Nat) (I : sm_MI), i + d = m → Fr MN Ia I → mD E H S N I0 I → I 76 34 = nI (ν + i) → mU N (I 92) = (ngs E W H S N ν i z).1 → sm_V x 0 0 T I L 2 [some (.ref 76), some (.int (nI m)), some (.int (nI i))] []
  | 0, i, I, e, hf, hD, hn, hu => by
    have him : i = m := by omega
    subst him
    exact u_X12_calmNights_2 hB hx ⟨fun _ => h I hf hD hn hu, fun q => absurd (nI_le (Nat.le_refl _) (by omega)) q⟩
  | d + 1, i, I, e, hf, hD, hn, hu => u_X12_calmNights_2 hB hx ⟨fun q => absurd q (nI_ge (by omega) (by omega)), fun _ => s_m_calmNight hB hR hV hlb hlk hr0 hD hn hu (fun I' f1 hD1 hn1 hu1 _ => by
      rw [nI_1]
      refine s_m_calms_l hB hR hV hlb hlk hr0 hg hm hx h d (i + 1) I' (by omega) (hf.tr f1) hD1 hn1 ?_
      rw [hu1]
      show _ = (ngt E W H S N (ν + i) (ngs E W H S N ν i z)).1
      unfold ngt gst
      rw [if_pos hg])⟩
theorem s_m_calmNights {I : sm_MI} {F : sm_MI → sm_ML → Prop} {z : w_St} {lb m : Nat} (hB : sm_Bs T) (hR : mRL T W R I0) (hV : vE E H S N R) (hlb : lb < 256) (hlk : E 0 0 = nI lb) (hr0 : E 0 2 = 0) (hg : E 0 5 = -1) (hm : m < 2 ^ 30) (hD : mD E H S N I0 I) (hn : I 76 34 = nI ν) (hu : mU N (I 92) = z.1)
    (h : ∀ I' : sm_MI, Fr MN I I' → mD E H S N I0 I' → I' 76 34 = nI (ν + m) → mU N (I' 92) = (ngs E W H S N ν m z).1 → F I' L) : sm_CV (n + 8) mX12_calmNights T I L [.ref 76, .int (nI m)] F :=
  c_X12_calmNights hB (fun x hx => s_m_calms_l hB hR hV hlb hlk hr0 hg hm hx h m 0 I (by omega) Fr.rf hD hn hu)
theorem s_m_putAside_l {I : sm_MI} {F : sm_MI → sm_ML → Prop} {x : sm_Cx} (hB : sm_Bs T) (hx : sm_Ok x mX12_putAside n (sm_KV T F)) (h : F (sm_uI (sm_fill I 97 8 (I 92)) 76 44 (I 76 34)) L) :
    ∀ d i, i + d = 8 → sm_V x 0 0 T (sm_fill I 97 i (I 92)) L 2 [some (.ref 76), some (.int (nI i))] []
  | 0, i, e => by
    have : i = 8 := by omega
    subst this
    exact u_X12_putAside_2 hB hx ⟨fun _ => h, fun q => absurd (nI_le (a := 8) (b := 8) (by omega) (by omega)) q⟩
  | d + 1, i, e => u_X12_putAside_2 hB hx ⟨fun q => absurd q (nI_ge (b := 8) (by omega) (by omega)), fun _ => ⟨vp_in_nI (by omega) (by decide), vp_in_nI (by omega) (by decide), by
      rw [nI_clamp (by omega), nI_1]
      have := s_m_putAside_l hB hx h d (i + 1) (by omega)
      rw [← sm_fill_s] at this
      exact this⟩⟩
theorem s_m_putAside {I : sm_MI} {F : sm_MI → sm_ML → Prop} (hB : sm_Bs T) (h : F (sm_uI (sm_fill I 97 8 (I 92)) 76 44 (I 76 34)) L) : sm_CV n mX12_putAside T I L [.ref 76] F :=
  c_X12_putAside hB (fun x hx => by
    have := s_m_putAside_l hB hx h 8 0 (by omega)
    rw [sm_fill_0] at this
    exact this)
theorem s_m_takeBack_l {I : sm_MI} {F : sm_MI → sm_ML → Prop} {x : sm_Cx} (hB : sm_Bs T) (hx : sm_Ok x mX12_takeBack n (sm_KV T F)) (h : F (sm_uI (sm_fill I 92 8 (I 97)) 76 34 (I 76 44)) L) :
    ∀ d i, i + d = 8 → sm_V x 0 0 T (sm_fill I 92 i (I 97)) L 2 [some (.ref 76), some (.int (nI i))] []
  | 0, i, e => by
    have : i = 8 := by omega
    subst this
    exact u_X12_takeBack_2 hB hx ⟨fun _ => h, fun q => absurd (nI_le (a := 8) (b := 8) (by omega) (by omega)) q⟩
  | d + 1, i, e => u_X12_takeBack_2 hB hx ⟨fun q => absurd q (nI_ge (b := 8) (by omega) (by omega)), fun _ => ⟨vp_in_nI (by omega) (by decide), vp_in_nI (by omega) (by decide), by
      rw [nI_clamp (by omega), nI_1]
      have := s_m_takeBack_l hB hx h d (i + 1) (by omega)
      rw [← sm_fill_s] at this
      exact this⟩⟩
theorem s_m_takeBack {I : sm_MI} {F : sm_MI → sm_ML → Prop} (hB : sm_Bs T) (h : F (sm_uI (sm_fill I 92 8 (I 97)) 76 34 (I 76 44)) L) : sm_CV n mX12_takeBack T I L [.ref 76] F :=
  c_X12_takeBack hB (fun x hx => by
    have := s_m_takeBack_l hB hx h 8 0 (by omega)
    rw [sm_fill_0] at this
    exact this)
end
