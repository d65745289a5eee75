/-! ===== the list of rules grows ===== -/
section LvA
variable {p : Program} {l : Launch} {e : Env} {R : Room} {s : State} {m : MethodId} {args : Array Value} {below : List Frame} {meth : Method} {c : Code} {H : Heap} {locs : List Loc} {cells slots : Nat} {Q : State → Prop}
variable {cc : ByteArray} {pc : Nat} {ls : Array Slot} {rest : List Value}
theorem lv_acmpS (hexec : p.tables.exec = Jvm.exec) (hb : c.code = cc) {x : Nat} {off : Int} {tgt : Nat} (hdg : decode cc pc = .ok (.if_acmp .eq off, 3)) (ht : (pc : Int) + off = (tgt : Int)) (k : W p l e R s m args below meth c H locs cells slots Q (F0 m tgt ls rest)) : W p l e R s m args below meth c H locs cells slots Q (F0 m pc ls (.ref x :: .ref x :: rest)) := by
  intro T hT X
  obtain ⟨t, a, b⟩ := k T hT X
  refine ⟨t, ?_, b⟩
  jvm_step X.here [X.here.top, hexec, hb, hdg, ht, Op.if_acmp.holds, Value.asRef?]
  exact a
end LvA
section SmList
variable {x : sm_Cx} {md : sm_MD} {n : Nat} {K : sm_K} {bc bs : Nat} {T : List sm_Sh} {I : sm_MI} {L : sm_ML} {pc : Nat} {ls : List (Option Value)} {st : List Value} {idx : Nat}
theorem sm_acmpS {k : Nat} {off : Int} {tgt : Nat} (hx : sm_Ok x md n K) (hd : decode md.2.1 pc = .ok (.if_acmp .eq off, 3)) (ht : (pc : Int) + off = (tgt : Int)) (kk : sm_V x bc bs T I L tgt ls st) : sm_V x bc bs T I L pc ls (.ref k :: .ref k :: st) := by
  intro σ H locs cells slots la hH hP hls hst hc hs
  exact lv_acmpS hx.1 hx.2.1 hd ht (kk σ H locs cells slots la hH hP hls (by rw [List.all_cons, Bool.and_eq_true, List.all_cons, Bool.and_eq_true] at hst; exact hst.2.2) hc hs)
theorem sm_xlenO (hx : sm_Ok x md n K) (hd : decode md.2.1 pc = .ok (.arraylength, 1)) (kk : sm_V x bc bs T I L (pc + 1) ls (.int 0 :: st)) : sm_V x bc bs T I L pc ls (.ref 1000020 :: st) := by
  intro σ H locs cells slots la hH hP hls hst hc hs
  rw [List.all_cons, Bool.and_eq_true] at hst
  have hE := hx.2.2.2.2.2.2.2.2.1.2.2.2.2
  have e2 : sm_x0 x 1000020 = σ 1000020 := (hH.2.2.2.2.2.2 _ (Or.inr (by omega))).symm
  rw [e2] at hE
  exact va_tlen hx.1 hx.2.1 hE hH.2.2.1 (v := 0) rfl hd (kk σ H locs cells slots la hH hP hls hst.2 hc hs)
theorem sm_getsO (hx : sm_Ok x md n K) (hd : decode md.2.1 pc = .ok (.getstatic idx, 3)) (hl : Cond.fieldLink md.1.cls idx "java/util/ArrayList" "DEFAULTCAPACITY_EMPTY_ELEMENTDATA" "[Ljava/lang/Object;" ∈ lw_tbl) (kk : sm_V x bc bs T I L (pc + 3) ls (.ref 1000020 :: st)) : sm_V x bc bs T I L pc ls st := by
  intro σ H locs cells slots la hH hP hls hst hc hs
  have hE := hx.2.2.2.2.2.2.2.2.1.2.2.2.1
  have e2 : sm_x0 x 1000020 = σ 1000020 := (hH.2.2.2.2.2.2 _ (Or.inr (by omega))).symm
  rw [e2] at hE
  exact va_gets hx.1 hx.2.1 hE hH.2.2.1 hx.2.2.2.1 (hx.2.2.2.2.2.1 _ hl rfl) (fun _ h => h) hd (kk σ H locs cells slots la hH hP hls (by rw [List.all_cons, Bool.and_eq_true]; exact ⟨sm_blt' (Or.inr (by omega)), hst⟩) hc hs)
end SmList
