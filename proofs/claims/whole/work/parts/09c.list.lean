section
variable {n : Nat} {T : List sm_Sh} {I : sm_MI} {L : sm_ML}
/-- the list of rules: the outside array while there is none, else an array of ten -/
def AL (T : List sm_Sh) (R : Nat) : Prop := (R = 0 ∧ T[23]? = some (oLst 1000020)) ∨ ∃ (e0 : Nat) (r0 : List (Option Nat)), 110 ≤ e0 ∧ T[23]? = some (oLst e0) ∧ T[e0]? = some (oArr r0) ∧ r0.length = 10
def kAddF (T : List sm_Sh) (I : sm_MI) (L : sm_ML) (R r : Nat) : sm_K := fun v T' I' L' => v = some (.int 1) ∧ ∃ (e0 : Nat) (old : Nat → Option Nat), ((R = 0 ∧ 1000000 ≤ e0) ∨ ∃ r0, 110 ≤ e0 ∧ T[23]? = some (oLst e0) ∧ T[e0]? = some (oArr r0) ∧ old = fun i => r0.getD i none) ∧ kAdd T I L R r e0 old none T' I' L'
set_option maxRecDepth 100000 in
theorem k_add {r R : Nat} (hA : AL T R) (h2 : I 23 2 = nI R) (hR : R < 10) (hr : ∃ fs, T[r]? = some (.inr (4, fs))) (hr1 : 110 ≤ r) (hl : T.length + 1 < 1000000) (hL : 110 ≤ T.length) : sm_Call (n + 5) 1 10 mJx4a65c_add_9ea2d T I L [.ref 23, .ref r] (kAddF T I L R r) := by
  have go : ∀ (e0 : Nat) (old : Nat → Option Nat), T[23]? = some (oLst e0) → ((R = 0 ∧ 1000000 ≤ e0) ∨ ∃ r0, 110 ≤ e0 ∧ T[23]? = some (oLst e0) ∧ T[e0]? = some (oArr r0) ∧ old = fun i => r0.getD i none) → (∀ v : Int32, sm_Call (n + 4) 1 10 mJx4a65c_add_72be8 T (sm_uI I 23 0 v) L [.ref 23, .ref r, .ref e0, .int (nI R)] (kAdd T (sm_uI I 23 0 v) L R r e0 old)) → sm_Call (n + 5) 1 10 mJx4a65c_add_9ea2d T I L [.ref 23, .ref r] (kAddF T I L R r) := by
    intro e0 old h23 hcase hcall
    refine sm_Call.of (by decide +kernel) rfl (fun x hx => ?_)
    show sm_V x 1 10 T I L 0 [some (.ref 23), some (.ref r)] []
    refine sm_aload_n (z := 23) hx dJx4a65c_add_9ea2d_0 rfl (sm_dup hx dJx4a65c_add_9ea2d_1 rfl (sm_getI hx dJx4a65c_add_9ea2d_2 fl_Jx4a65c_63_0 h23 rfl (sm_iconst (v := 1) hx dJx4a65c_add_9ea2d_5 sm_kc_1 (sm_iadd hx dJx4a65c_add_9ea2d_6 (sm_putI hx dJx4a65c_add_9ea2d_7 fl_Jx4a65c_63_0 h23 rfl ?_)))))
    refine sm_aload_n (z := 23) hx dJx4a65c_add_9ea2d_10 rfl (sm_aload_n (z := r) hx dJx4a65c_add_9ea2d_11 rfl (sm_aload_n (z := 23) hx dJx4a65c_add_9ea2d_12 rfl (sm_getR hx dJx4a65c_add_9ea2d_13 fl_Jx4a65c_9_0 h23 rfl (sm_aload_n (z := 23) hx dJx4a65c_add_9ea2d_16 rfl (sm_getI hx dJx4a65c_add_9ea2d_17 fl_Jx4a65c_48_0 h23 rfl ?_)))))
    rw [cuD (by omega), h2]
    refine sm_callV (args := [.ref r, .ref e0, .int (nI R)]) (k := 23) (bc' := 1) (bs' := 10) hx dJx4a65c_add_9ea2d_20 lv_Jx4a65c_131_0 rfl rfl h23 rfl rfl (Nat.le_refl _) (Nat.le_refl _) (hcall _) (fun v T2 I2 L2 q => ?_)
    obtain ⟨rfl, e1, r1, b1, b2, b3, b4, b5, b6, b7, b8, b9, b10, b11, b12⟩ := q
    exact sm_iconst (v := 1) hx dJx4a65c_add_9ea2d_23 sm_kc_1 (sm_zret (b := true) hx dJx4a65c_add_9ea2d_24 rfl ⟨rfl, e0, old, hcase, rfl, e1, r1, b1, b2, b3, b4, b5, b6, b7, b8, b9, b10, fun j hj h => (b11 j hj h).trans (sm_uI_ne h), b12⟩)
  rcases hA with ⟨hR0, h23⟩ | ⟨e0, r0, he1, h23, he, h10⟩
  · subst hR0
    exact go 1000020 (fun _ => none) h23 (Or.inl ⟨rfl, by decide⟩) (fun v => k_addA (n := n) h23 (by rw [cuD (by omega)]; exact h2) hr hr1 hl hL)
  · exact go e0 _ h23 (Or.inr ⟨r0, he1, h23, he, rfl⟩) (fun v => k_addB (n := n) h23 he h10 he1 hR hr)
/-- its size, whatever its array -/
theorem s_size {F : Int32 → sm_MI → sm_ML → Prop} {e0 : Nat} (h23 : T[23]? = some (oLst e0)) (hF : F (I 23 2) I L) : sm_CI n mJx4a65c_size_8abf5 T I L [.ref 23] F :=
  sm_CI.of (by decide +kernel) rfl (fun x hx => show sm_V x 0 0 T I L 0 [some (.ref 23)] [] from sm_aload_n (z := 23) hx dJx4a65c_size_8abf5_0 rfl (sm_getI hx dJx4a65c_size_8abf5_1 fl_Jx4a65c_48_0 h23 rfl (sm_iretI hx dJx4a65c_size_8abf5_4 rfl hF)))
theorem AL.at {R : Nat} (h : AL T R) : ∃ e0, T[23]? = some (oLst e0) := by
  rcases h with ⟨_, h⟩ | ⟨e0, _, _, h, _⟩
  · exact ⟨_, h⟩
  · exact ⟨e0, h⟩
end
