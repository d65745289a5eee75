/-! ===== the law: its script, its turns ===== -/
def sm_Sc (x : sm_Cx) (Ls : Nat) (xs : Nat → Int32) : Prop := va_X (sm_x0 x 1000030) Ls xs (sm_xs x) (sm_xs x).heap ∧ sm_x0 x 1000030 < (sm_xs x).heap.size ∧ ¬ sm_xA x (sm_x0 x 1000030) ∧ Ls ≤ 3072
abbrev lawL (t : Nat) (a5 a6 : Option Value) : List (Option Value) := [some (.ref 1000030), some (.ref 0), some (.ref 76), some (.ref 109), some (.int (nI (6 * t))), a5, a6]
def Inv (bn : Nat) (T : List sm_Sh) (I : sm_MI) (L : sm_ML) : Prop := ∃ (A : Nat → Nat → Int32) (W : Nat → (Nat → Int32) → Int32) (H S N R ν lb : Nat), RR A W H S N R ν lb bn T I L ∧ AL T R
def Nx (x : sm_Cx) (bc bs : Nat) (T : List sm_Sh) (bn t : Nat) : Prop := ∀ (T' : List sm_Sh) (I' : sm_MI) (L' : sm_ML) (a5 a6 : Option Value), T'.length ≤ T.length + 6 → Inv (bn + 60) T' I' L' → sm_V x bc bs T' I' L' 1654 (lawL t a5 a6) []
section
variable {x : sm_Cx} {md : sm_MD} {n : Nat} {K : sm_K} {bc bs bc' bs' : Nat} {T : List sm_Sh} {I : sm_MI} {L : sm_ML} {pc Ls t bn : Nat} {xs : Nat → Int32} {ls : List (Option Value)} {st : List Value} {a5 a6 : Option Value}
variable {A : Nat → Nat → Int32} {W : Nat → (Nat → Int32) → Int32} {H S N R ν lb : Nat}
theorem Inv_up (hR : RR A W H S N R ν lb bn T I L) (hA : AL T R) (hb : bn + 60 < 2 ^ 29) : Inv (bn + 60) T I L := ⟨A, W, H, S, N, R, ν, lb, RR_b hR (by omega) hb, hA⟩
theorem V_more (h : sm_V x bc bs T I L pc ls st) (hb : bc ≤ bc') (hs : bs ≤ bs') : sm_V x bc' bs' T I L pc ls st := by
  intro σ H locs cells slots la hH hP hls hst hc hs'
  exact h σ H locs cells slots la hH hP hls hst (by omega) (by omega)
theorem sm_sld {i : Int32} (hx : sm_Ok x md n K) (hS : sm_Sc x Ls xs) (hd : decode md.2.1 pc = .ok (.iaload, 1)) (hi : vp_in i Ls) (kk : sm_V x bc bs T I L (pc + 1) ls (.int (xs i.toNatClampNeg) :: st)) : sm_V x bc bs T I L pc ls (.int i :: .ref 1000030 :: st) := by
  intro σ H locs cells slots la hH hP hls hst hc hs
  rw [List.all_cons, Bool.and_eq_true, List.all_cons, Bool.and_eq_true] at hst
  have e : σ 1000030 = sm_x0 x 1000030 := hH.2.2.2.2.2.2 _ (Or.inr (by omega))
  exact va_sld hx.1 hx.2.1 (b := σ 1000030) (by rw [e]; exact hS.1) (by rw [e]; exact hS.2.1) (by rw [e]; exact hS.2.2.1) hH.2.2.1 hi hd (kk σ H locs cells slots la hH hP hls (by rw [List.all_cons, Bool.and_eq_true]; exact ⟨rfl, hst.2.2⟩) hc hs)
theorem sm_slen (hx : sm_Ok x md n K) (hS : sm_Sc x Ls xs) (hd : decode md.2.1 pc = .ok (.arraylength, 1)) (kk : sm_V x bc bs T I L (pc + 1) ls (.int (nI Ls) :: st)) : sm_V x bc bs T I L pc ls (.ref 1000030 :: st) := by
  intro σ H locs cells slots la hH hP hls hst hc hs
  rw [List.all_cons, Bool.and_eq_true] at hst
  have e : σ 1000030 = sm_x0 x 1000030 := hH.2.2.2.2.2.2 _ (Or.inr (by omega))
  exact va_slen hx.1 hx.2.1 (b := σ 1000030) (by rw [e]; exact hS.1) (by rw [e]; exact hS.2.1) (by rw [e]; exact hS.2.2.1) hH.2.2.1 hd (kk σ H locs cells slots la hH hP hls (by rw [List.all_cons, Bool.and_eq_true]; exact ⟨rfl, hst.2⟩) hc hs)
/-- the k-th int of the turn -/
theorem rdS {k : Nat} {c : Int} (hx : sm_Ok x mL_law n K) (hS : sm_Sc x Ls xs) (ht : 6 * t + 6 ≤ Ls) (hk : k < 6) (hc : Int32.ofInt c = nI k) (d1 : decode cL_law pc = .ok (.aload_n 0, 1)) (d2 : decode cL_law (pc + 1) = .ok (.iload 4, 2)) (d3 : decode cL_law (pc + 1 + 2) = .ok (.iconst c, 1)) (d4 : decode cL_law (pc + 1 + 2 + 1) = .ok (.iadd, 1)) (d5 : decode cL_law (pc + 1 + 2 + 1 + 1) = .ok (.iaload, 1)) (kk : sm_V x bc bs T I L (pc + 1 + 2 + 1 + 1 + 1) (lawL t a5 a6) (.int (xs (6 * t + k)) :: st)) : sm_V x bc bs T I L pc (lawL t a5 a6) st := by
  have hl := hS.2.2.2
  refine sm_aload_n (i := 0) (z := 1000030) hx d1 rfl (sm_iload (i := 4) (z := nI (6 * t)) hx d2 rfl (sm_iconst (v := nI k) hx d3 hc (sm_iadd hx d4 ?_)))
  rw [nI_add]
  refine sm_sld hx hS d5 (vp_in_nI (by omega) (by omega)) ?_
  rw [nI_clamp (by omega)]
  exact kk
/-- an int as a truth -/
theorem rdB {v : Int32} {o1 o2 : Int} {X Y : Nat} (hx : sm_Ok x mL_law n K) (d1 : decode cL_law pc = .ok (.ifCond .eq o1, 3)) (t1 : (pc : Int) + o1 = (X : Int)) (d2 : decode cL_law (pc + 3) = .ok (.iconst 1, 1)) (d3 : decode cL_law (pc + 3 + 1) = .ok (.goto o2, 3)) (t2 : ((pc + 3 + 1 : Nat) : Int) + o2 = (Y : Int)) (d4 : decode cL_law X = .ok (.iconst 0, 1)) (hY : X + 1 = Y) (kk : sm_V x bc bs T I L Y ls (.int (sm_z (decide (¬ v = 0))) :: st)) : sm_V x bc bs T I L pc ls (.int v :: st) := by
  refine sm_ifeq hx d1 t1 (fun q => ?_) (fun q => ?_)
  · rw [show decide (¬ v = 0) = false from decide_eq_false (fun z => z q)] at kk
    refine sm_iconst (v := 0) hx d4 sm_kc_0 ?_
    rw [hY]
    exact kk
  · rw [show decide (¬ v = 0) = true from decide_eq_true q] at kk
    exact sm_iconst (v := 1) hx d2 sm_kc_1 (sm_goto hx d3 t2 kk)
end
