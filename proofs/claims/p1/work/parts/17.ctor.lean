def gc_rm (f c s : Nat) : Room := { frames := f, cells := c, slots := s, locals := 100 * f }
def gv_Tc (U : State) : Prop := (∀ w ∈ gv_ws, w.before #[] U = true) ∧ ∀ ty : FieldType, ty = .int ∨ ty = .byte ∨ ty = .long ∨ ty = .boolean → (Cond.arrayClass ty).before #[] U = true
theorem gv_Tcm {s U : State} (hW : s.WarmedH U.vm) (h : gv_Tc s) : gv_Tc U := ⟨fun w hw => gv_wm hW hw (h.1 w hw), fun ty hty => word_at hW (Or.inr ⟨ty, rfl⟩) (h.2 ty hty)⟩
theorem gc_hts {s : State} (h : gv_Tc s) (args : Array Value) : ∀ w ∈ gv_ws, w.before args s = true := fun w hw => gv_wt hw rfl (h.1 w hw)
theorem gc_arr {s : State} (h : gv_Tc s) (args : Array Value) {ty : FieldType} (hty : ty = .int ∨ ty = .byte ∨ ty = .long ∨ ty = .boolean) : (Cond.arrayClass ty).before args s = true := word_at (State.WarmedH.refl s) (Or.inr ⟨ty, rfl⟩) (h.2 ty hty)
def gc_P (dC : Nat → ClassId) (dI : Nat → Nat → Nat) (sz : Nat) (ws : va_W) (U : State) : Prop := U.heap.size = sz ∧ gv_Tc U ∧ va_P (dC, dI) vwCl ws U.heap ∧ va_K (dC, dI) vwCl [] U ∧ va_D (fun _ => True) ws
theorem gc_run {p : Program} {l : Launch} {e : Env} {R : Room} {s : State} {m : MethodId} {args : Array Value} {below : List Frame} {meth : Method} {c : Code} {H : Heap} {locs : List Loc} {cells slots : Nat} {y : MethodName} {bytes cc : ByteArray} {maxL nL mc ms n index F pc : Nat} {Qc : Array Value → State → Outcome → State → Prop} {own : String} {b : Addr} {As rest : List Value} {ls : Array Slot} {stk : List Value} {dC : Nat → ClassId} {dI : Nat → Nat → Nat} {wc : va_W} {A0 : Nat → Prop}
    (S : CallFix p m c cc nL s args [] own) (hM : Met l y [.code y bytes maxL none] (gc_rm F mc ms) (va_Pc (.ref b :: As) (gc_P dC dI H.size wc)) Qc mc ms (va_A wc H.size)) (hT : gv_Tc s) (h1 : Cond.code y bytes maxL none ∈ gv_ws) (h2 : Cond.initialized y.cls ∈ gv_ws) (h3 : Cond.instanceMethod y ∈ gv_ws) (hl : Cond.methodLink own index y ∈ gv_ws ∨ ∃ host, Cond.methodLinkNest own index y host ∈ gv_ws)
    (hy : y.name = "<init>" ∧ y.cls ≠ "java/lang/invoke/MethodHandle" ∧ y.cls ≠ "java/lang/invoke/VarHandle") (hn : (parseMethodDescriptor y.desc).map (fun d => d.parameters.length) = some As.length) (hP : va_P (dC, dI) vwCl wc H) (hK : va_K (dC, dI) vwCl [] s) (hD : va_D A0 wc)
    (hlen : As.length = n) (hsize : ls.size = nL) (hstack : stk = As.reverse ++ .ref b :: rest) (hW : (rest.map fun v => v.category).sum ≤ 8) (hdg : decode cc pc = .ok (.invokespecial index, 3)) (hR : F + 1 ≤ R.frames ∧ 8 + (maxL + 11) + 100 * F ≤ R.locals) (hf : cells + mc ≤ R.cells ∧ slots + ms ≤ R.slots) :
    va_Run p l e R s m args below meth c H locs cells slots mc ms (F0 m pc ls stk) rest (Qc (Value.ref b :: As).toArray) (va_A wc H.size) := by
  have hts := gc_hts hT args
  have hpar : ∀ sig, parseMethodDescriptor y.desc = some sig → n = sig.parameters.length := by
    intro sig h
    rw [h] at hn
    rw [← hlen]
    exact (Option.some.inj hn).symm
  have hws : ∀ w ∈ ([.code y bytes maxL none] : List Cond), ∀ (a' : Array Value) (U : State), s.WarmedH U.vm → w.before a' U = true := by
    intro w hw a' U hW'
    rcases List.mem_cons.mp hw with rfl | hw
    · exact gv_wt h1 rfl (gv_wm hW' h1 (hT.1 _ h1))
    · cases hw
  have hpre : PreS s H (va_Pc (.ref b :: As) (gc_P dC dI H.size wc)) (.ref b :: As) := by
    refine ⟨fun a U g mk q => ?_, fun U hU hW' => ?_⟩
    · obtain ⟨q0, q1, q2, q3, q4, q5⟩ := q
      exact ⟨q0, q1, gv_Tcm (State.WarmedH.refl U) q2, q3, va_K.moved (u := U) (U := U.calling g mk a) (Vm.Alike.refl U.vm) q4, q5⟩
    · exact ⟨rfl, by rw [hU], gv_Tcm hW' hT, by rw [hU]; exact hP, va_K.moved hW'.alike hK, hD.weaken (fun _ _ _ _ => trivial)⟩
  rcases hl with hl | ⟨host, hl⟩
  · exact va_runI (Ts := []) S hM ⟨⟨rfl, rfl, hR.1, hR.2, hws, List.mem_cons_self, hts _ h1, hts _ h2, hy.2, hpar, hts _ hl⟩, hy.1, hts _ h3⟩ hpre rfl hlen hsize hstack (lv_room hW) hdg hf
  · exact va_runIN (Ts := []) S hM ⟨⟨⟨rfl, rfl, hR.1, hR.2, hws, List.mem_cons_self⟩, hts _ h1, hts _ h2, hy.2, hpar, hts _ hl⟩, hy.1, hts _ h3⟩ hpre rfl hlen hsize hstack (lv_room hW) hdg hf
set_option maxHeartbeats 4000000 in
set_option maxRecDepth 100000 in
theorem k_Listing_init (l : Launch) (dC : Nat → ClassId) (dI : Nat → Nat → Nat) (h0 : Nat) (sz : Nat) : Met l ⟨"GuessFences$Listing", "<init>", "()V"⟩ [.code ⟨"GuessFences$Listing", "<init>", "()V"⟩ prog_6_method_1_code 1 none] (gc_rm 8 7 7280) (va_Pc [.ref h0] (gc_P dC dI sz [(h0, .inr (1, [.null, .null, .null, .null, .null, .null, .null, .int 0]))])) (va_Qv (fun _ : Unit => True) (fun _ t => ∃ (q1 q2 q3 q4 q5 q6 q7 : Nat) (c1 c2 c3 c4 c5 c6 c7 : ClassId), va_P (dC, dI) vwCl [(h0, .inr (1, [.ref q1, .ref q2, .ref q3, .ref q4, .ref q5, .ref q6, .ref q7, .int 0])), (q1, .inl (c1, 1040, .inl (fun _ => 0))), (q2, .inl (c2, 1040, .inl (fun _ => 0))), (q3, .inl (c3, 1040, .inl (fun _ => 0))), (q4, .inl (c4, 1040, .inl (fun _ => 0))), (q5, .inl (c5, 1040, .inl (fun _ => 0))), (q6, .inl (c6, 1040, .inl (fun _ => 0))), (q7, .inl (c7, 1040, .inl (fun _ => 0)))] t.heap ∧ va_K (dC, dI) vwCl [(c1, .int), (c2, .int), (c3, .int), (c4, .int), (c5, .int), (c6, .int), (c7, .int)] t ∧ va_D (va_A [(h0, .inr (1, [.null, .null, .null, .null, .null, .null, .null, .int 0]))] sz) [(h0, .inr (1, [.ref q1, .ref q2, .ref q3, .ref q4, .ref q5, .ref q6, .ref q7, .int 0])), (q1, .inl (c1, 1040, .inl (fun _ => 0))), (q2, .inl (c2, 1040, .inl (fun _ => 0))), (q3, .inl (c3, 1040, .inl (fun _ => 0))), (q4, .inl (c4, 1040, .inl (fun _ => 0))), (q5, .inl (c5, 1040, .inl (fun _ => 0))), (q6, .inl (c6, 1040, .inl (fun _ => 0))), (q7, .inl (c7, 1040, .inl (fun _ => 0)))]) (va_A [(h0, .inr (1, [.null, .null, .null, .null, .null, .null, .null, .int 0]))] sz)) 7 7280 (va_A [(h0, .inr (1, [.null, .null, .null, .null, .null, .null, .null, .int 0]))] sz) := by
  refine Met.ofW (cc := prog_6_method_1_code) (maxL := 1) (ret := none) (by decide) rfl ?_
  intro p e s m args below meth c s₁ B hml hv
  obtain ⟨rfl, hsz, hT, hP, hK, hD0⟩ := hv
  have hx := B.exec
  have hb := B.bytes
  have hr := B.returns
  have hown : s.vm.findClass "GuessFences$Listing" = some m.cls := findClass_of_methodNamed B.named
  have hlocks := B.notSynchronized
  have hin : meth.name = "<init>" := (name_of_methodNamed B.named B.method).1
  subst hsz
  generalize hargs : ([.ref h0] : List Value).toArray = args
  have hD := hD0.self (sz := s.heap.size)
  generalize hAe : va_A [(h0, .inr (1, [.null, .null, .null, .null, .null, .null, .null, .int 0]))] s.heap.size = A at hD ⊢
  have hA : ∀ q : Nat, s.heap.size ≤ q → A q := fun q h => by rw [← hAe]; exact Or.inr h
  have hS : va_S A s.heap s.heap [] := va_S.rf
  have hts := gc_hts hT args
  rw [← hargs]
  have hl := lv_entry ([.ref h0]) (n := 1) (Nat.le_of_ble_eq_true rfl)
  rw [lg_entry_eq]
  generalize (lg_sl ([.ref h0]) ++ List.replicate (1 - (lg_sl ([.ref h0])).length) Slot.unset).toArray = ls at hl ⊢
  rw [hargs]
  have hl : lv_has ls 1 [(0, .ref h0)] := hl
  refine lv_aload_n hx hb (show decode prog_6_method_1_code 0 = .ok (.aload_n 0, 1) from by decide +kernel) rfl (lv_at hl 0 rfl) ?_
  refine W.objInit hx hb hown (hts (.methodLink "GuessFences$Listing" 3 objectInit) (gv_i1 45 rfl rfl)) (hts (.instanceMethod objectInit) (gv_i1 38 rfl rfl)) (hts (.code objectInit ⟨#[0xb1]⟩ 1 none) (gv_i1 39 rfl rfl)) rfl (by rw [hml]; exact hl.1) rfl (show decode prog_6_method_1_code 1 = .ok (.invokespecial 3, 3) from by decide +kernel) (Nat.le_of_ble_eq_true rfl) (Nat.le_of_ble_eq_true rfl) ?_
  refine W.eq (g2 := F0 m 4 ls []) rfl ?_
  refine lv_aload_n hx hb (show decode prog_6_method_1_code 4 = .ok (.aload_n 0, 1) from by decide +kernel) rfl (lv_at hl 0 rfl) ?_
  refine lv_sipush (n := 1040) (v := 1040) hx hb (by decide +kernel) (by decide) ?_
  refine va_newa (atype := .int) (ty := .int) (a0 := (1040, .inl (fun _ => 0))) hx hb (gc_arr hT args (ty := .int) (by simp)) rfl hK hP hD hS hA (fun _ => rfl) (by decide) (N' := 1040) (by decide) (by decide) (Nat.le_of_ble_eq_true rfl) (Nat.le_of_ble_eq_true rfl) (show decode prog_6_method_1_code 8 = .ok (.newarray .int, 2) from by decide +kernel) (fun q1 c1 H hK hP hD hS => ?_)
  have hP : va_P (dC, dI) vwCl [(h0, .inr (1, [.null, .null, .null, .null, .null, .null, .null, .int 0])), (q1, .inl (c1, 1040, .inl (fun _ => 0)))] H := hP
  have hD : va_D A [(h0, .inr (1, [.null, .null, .null, .null, .null, .null, .null, .int 0])), (q1, .inl (c1, 1040, .inl (fun _ => 0)))] := hD
  have hK : va_K (dC, dI) vwCl [(c1, .int)] s := hK
  refine W.widen (k := 1) (n := 1040) (Nat.le_refl _) (Nat.le_refl _) ?_
  refine va_putF (D := (dC, dI)) (ci := 1) (v := .ref q1) (ty := .array .int) (C := "GuessFences$Listing") (T := gf_T1) (N := 8) hx hb hts lays_1 gf_y1 gf_ty1 gf_nm1 hown hK hP hD hS 0 rfl rfl 0 (by decide) (hts (.fieldLink "GuessFences$Listing" 9 "GuessFences$Listing" "kind" "[I") (gv_i1 46 rfl rfl)) (fun _ h9 => h9) rfl hin rfl (by decide +kernel) rfl rfl (Nat.le_of_ble_eq_true rfl) (by decide +kernel) (fun H locs hP hD hS => ?_)
  have hP : va_P (dC, dI) vwCl [(h0, .inr (1, [.ref q1, .null, .null, .null, .null, .null, .null, .int 0])), (q1, .inl (c1, 1040, .inl (fun _ => 0)))] H := hP
  have hD : va_D A [(h0, .inr (1, [.ref q1, .null, .null, .null, .null, .null, .null, .int 0])), (q1, .inl (c1, 1040, .inl (fun _ => 0)))] := hD
  refine lv_aload_n hx hb (show decode prog_6_method_1_code 13 = .ok (.aload_n 0, 1) from by decide +kernel) rfl (lv_at hl 0 rfl) ?_
  refine lv_sipush (n := 1040) (v := 1040) hx hb (by decide +kernel) (by decide) ?_
  refine va_newa (atype := .int) (ty := .int) (a0 := (1040, .inl (fun _ => 0))) hx hb (gc_arr hT args (ty := .int) (by simp)) rfl hK hP hD hS hA (fun _ => rfl) (by decide) (N' := 1040) (by decide) (by decide) (Nat.le_of_ble_eq_true rfl) (Nat.le_of_ble_eq_true rfl) (show decode prog_6_method_1_code 17 = .ok (.newarray .int, 2) from by decide +kernel) (fun q2 c2 H hK hP hD hS => ?_)
  have hP : va_P (dC, dI) vwCl [(h0, .inr (1, [.ref q1, .null, .null, .null, .null, .null, .null, .int 0])), (q1, .inl (c1, 1040, .inl (fun _ => 0))), (q2, .inl (c2, 1040, .inl (fun _ => 0)))] H := hP
  have hD : va_D A [(h0, .inr (1, [.ref q1, .null, .null, .null, .null, .null, .null, .int 0])), (q1, .inl (c1, 1040, .inl (fun _ => 0))), (q2, .inl (c2, 1040, .inl (fun _ => 0)))] := hD
  have hK : va_K (dC, dI) vwCl [(c1, .int), (c2, .int)] s := hK
  refine W.widen (k := 2) (n := 2080) (Nat.le_refl _) (Nat.le_refl _) ?_
  refine va_putF (D := (dC, dI)) (ci := 1) (v := .ref q2) (ty := .array .int) (C := "GuessFences$Listing") (T := gf_T1) (N := 8) hx hb hts lays_1 gf_y1 gf_ty1 gf_nm1 hown hK hP hD hS 0 rfl rfl 1 (by decide) (hts (.fieldLink "GuessFences$Listing" 15 "GuessFences$Listing" "operation" "[I") (gv_i1 52 rfl rfl)) (fun _ h9 => h9) rfl hin rfl (by decide +kernel) rfl rfl (Nat.le_of_ble_eq_true rfl) (by decide +kernel) (fun H locs hP hD hS => ?_)
  have hP : va_P (dC, dI) vwCl [(h0, .inr (1, [.ref q1, .ref q2, .null, .null, .null, .null, .null, .int 0])), (q1, .inl (c1, 1040, .inl (fun _ => 0))), (q2, .inl (c2, 1040, .inl (fun _ => 0)))] H := hP
  have hD : va_D A [(h0, .inr (1, [.ref q1, .ref q2, .null, .null, .null, .null, .null, .int 0])), (q1, .inl (c1, 1040, .inl (fun _ => 0))), (q2, .inl (c2, 1040, .inl (fun _ => 0)))] := hD
  refine lv_aload_n hx hb (show decode prog_6_method_1_code 22 = .ok (.aload_n 0, 1) from by decide +kernel) rfl (lv_at hl 0 rfl) ?_
  refine lv_sipush (n := 1040) (v := 1040) hx hb (by decide +kernel) (by decide) ?_
  refine va_newa (atype := .int) (ty := .int) (a0 := (1040, .inl (fun _ => 0))) hx hb (gc_arr hT args (ty := .int) (by simp)) rfl hK hP hD hS hA (fun _ => rfl) (by decide) (N' := 1040) (by decide) (by decide) (Nat.le_of_ble_eq_true rfl) (Nat.le_of_ble_eq_true rfl) (show decode prog_6_method_1_code 26 = .ok (.newarray .int, 2) from by decide +kernel) (fun q3 c3 H hK hP hD hS => ?_)
  have hP : va_P (dC, dI) vwCl [(h0, .inr (1, [.ref q1, .ref q2, .null, .null, .null, .null, .null, .int 0])), (q1, .inl (c1, 1040, .inl (fun _ => 0))), (q2, .inl (c2, 1040, .inl (fun _ => 0))), (q3, .inl (c3, 1040, .inl (fun _ => 0)))] H := hP
  have hD : va_D A [(h0, .inr (1, [.ref q1, .ref q2, .null, .null, .null, .null, .null, .int 0])), (q1, .inl (c1, 1040, .inl (fun _ => 0))), (q2, .inl (c2, 1040, .inl (fun _ => 0))), (q3, .inl (c3, 1040, .inl (fun _ => 0)))] := hD
  have hK : va_K (dC, dI) vwCl [(c1, .int), (c2, .int), (c3, .int)] s := hK
  refine W.widen (k := 3) (n := 3120) (Nat.le_refl _) (Nat.le_refl _) ?_
  refine va_putF (D := (dC, dI)) (ci := 1) (v := .ref q3) (ty := .array .int) (C := "GuessFences$Listing") (T := gf_T1) (N := 8) hx hb hts lays_1 gf_y1 gf_ty1 gf_nm1 hown hK hP hD hS 0 rfl rfl 2 (by decide) (hts (.fieldLink "GuessFences$Listing" 18 "GuessFences$Listing" "result" "[I") (gv_i1 54 rfl rfl)) (fun _ h9 => h9) rfl hin rfl (by decide +kernel) rfl rfl (Nat.le_of_ble_eq_true rfl) (by decide +kernel) (fun H locs hP hD hS => ?_)
  have hP : va_P (dC, dI) vwCl [(h0, .inr (1, [.ref q1, .ref q2, .ref q3, .null, .null, .null, .null, .int 0])), (q1, .inl (c1, 1040, .inl (fun _ => 0))), (q2, .inl (c2, 1040, .inl (fun _ => 0))), (q3, .inl (c3, 1040, .inl (fun _ => 0)))] H := hP
  have hD : va_D A [(h0, .inr (1, [.ref q1, .ref q2, .ref q3, .null, .null, .null, .null, .int 0])), (q1, .inl (c1, 1040, .inl (fun _ => 0))), (q2, .inl (c2, 1040, .inl (fun _ => 0))), (q3, .inl (c3, 1040, .inl (fun _ => 0)))] := hD
  refine lv_aload_n hx hb (show decode prog_6_method_1_code 31 = .ok (.aload_n 0, 1) from by decide +kernel) rfl (lv_at hl 0 rfl) ?_
  refine lv_sipush (n := 1040) (v := 1040) hx hb (by decide +kernel) (by decide) ?_
  refine va_newa (atype := .int) (ty := .int) (a0 := (1040, .inl (fun _ => 0))) hx hb (gc_arr hT args (ty := .int) (by simp)) rfl hK hP hD hS hA (fun _ => rfl) (by decide) (N' := 1040) (by decide) (by decide) (Nat.le_of_ble_eq_true rfl) (Nat.le_of_ble_eq_true rfl) (show decode prog_6_method_1_code 35 = .ok (.newarray .int, 2) from by decide +kernel) (fun q4 c4 H hK hP hD hS => ?_)
  have hP : va_P (dC, dI) vwCl [(h0, .inr (1, [.ref q1, .ref q2, .ref q3, .null, .null, .null, .null, .int 0])), (q1, .inl (c1, 1040, .inl (fun _ => 0))), (q2, .inl (c2, 1040, .inl (fun _ => 0))), (q3, .inl (c3, 1040, .inl (fun _ => 0))), (q4, .inl (c4, 1040, .inl (fun _ => 0)))] H := hP
  have hD : va_D A [(h0, .inr (1, [.ref q1, .ref q2, .ref q3, .null, .null, .null, .null, .int 0])), (q1, .inl (c1, 1040, .inl (fun _ => 0))), (q2, .inl (c2, 1040, .inl (fun _ => 0))), (q3, .inl (c3, 1040, .inl (fun _ => 0))), (q4, .inl (c4, 1040, .inl (fun _ => 0)))] := hD
  have hK : va_K (dC, dI) vwCl [(c1, .int), (c2, .int), (c3, .int), (c4, .int)] s := hK
  refine W.widen (k := 4) (n := 4160) (Nat.le_refl _) (Nat.le_refl _) ?_
  refine va_putF (D := (dC, dI)) (ci := 1) (v := .ref q4) (ty := .array .int) (C := "GuessFences$Listing") (T := gf_T1) (N := 8) hx hb hts lays_1 gf_y1 gf_ty1 gf_nm1 hown hK hP hD hS 0 rfl rfl 3 (by decide) (hts (.fieldLink "GuessFences$Listing" 21 "GuessFences$Listing" "first" "[I") (gv_i1 58 rfl rfl)) (fun _ h9 => h9) rfl hin rfl (by decide +kernel) rfl rfl (Nat.le_of_ble_eq_true rfl) (by decide +kernel) (fun H locs hP hD hS => ?_)
  have hP : va_P (dC, dI) vwCl [(h0, .inr (1, [.ref q1, .ref q2, .ref q3, .ref q4, .null, .null, .null, .int 0])), (q1, .inl (c1, 1040, .inl (fun _ => 0))), (q2, .inl (c2, 1040, .inl (fun _ => 0))), (q3, .inl (c3, 1040, .inl (fun _ => 0))), (q4, .inl (c4, 1040, .inl (fun _ => 0)))] H := hP
  have hD : va_D A [(h0, .inr (1, [.ref q1, .ref q2, .ref q3, .ref q4, .null, .null, .null, .int 0])), (q1, .inl (c1, 1040, .inl (fun _ => 0))), (q2, .inl (c2, 1040, .inl (fun _ => 0))), (q3, .inl (c3, 1040, .inl (fun _ => 0))), (q4, .inl (c4, 1040, .inl (fun _ => 0)))] := hD
  refine lv_aload_n hx hb (show decode prog_6_method_1_code 40 = .ok (.aload_n 0, 1) from by decide +kernel) rfl (lv_at hl 0 rfl) ?_
  refine lv_sipush (n := 1040) (v := 1040) hx hb (by decide +kernel) (by decide) ?_
  refine va_newa (atype := .int) (ty := .int) (a0 := (1040, .inl (fun _ => 0))) hx hb (gc_arr hT args (ty := .int) (by simp)) rfl hK hP hD hS hA (fun _ => rfl) (by decide) (N' := 1040) (by decide) (by decide) (Nat.le_of_ble_eq_true rfl) (Nat.le_of_ble_eq_true rfl) (show decode prog_6_method_1_code 44 = .ok (.newarray .int, 2) from by decide +kernel) (fun q5 c5 H hK hP hD hS => ?_)
  have hP : va_P (dC, dI) vwCl [(h0, .inr (1, [.ref q1, .ref q2, .ref q3, .ref q4, .null, .null, .null, .int 0])), (q1, .inl (c1, 1040, .inl (fun _ => 0))), (q2, .inl (c2, 1040, .inl (fun _ => 0))), (q3, .inl (c3, 1040, .inl (fun _ => 0))), (q4, .inl (c4, 1040, .inl (fun _ => 0))), (q5, .inl (c5, 1040, .inl (fun _ => 0)))] H := hP
  have hD : va_D A [(h0, .inr (1, [.ref q1, .ref q2, .ref q3, .ref q4, .null, .null, .null, .int 0])), (q1, .inl (c1, 1040, .inl (fun _ => 0))), (q2, .inl (c2, 1040, .inl (fun _ => 0))), (q3, .inl (c3, 1040, .inl (fun _ => 0))), (q4, .inl (c4, 1040, .inl (fun _ => 0))), (q5, .inl (c5, 1040, .inl (fun _ => 0)))] := hD
  have hK : va_K (dC, dI) vwCl [(c1, .int), (c2, .int), (c3, .int), (c4, .int), (c5, .int)] s := hK
  refine W.widen (k := 5) (n := 5200) (Nat.le_refl _) (Nat.le_refl _) ?_
  refine va_putF (D := (dC, dI)) (ci := 1) (v := .ref q5) (ty := .array .int) (C := "GuessFences$Listing") (T := gf_T1) (N := 8) hx hb hts lays_1 gf_y1 gf_ty1 gf_nm1 hown hK hP hD hS 0 rfl rfl 4 (by decide) (hts (.fieldLink "GuessFences$Listing" 24 "GuessFences$Listing" "second" "[I") (gv_i1 60 rfl rfl)) (fun _ h9 => h9) rfl hin rfl (by decide +kernel) rfl rfl (Nat.le_of_ble_eq_true rfl) (by decide +kernel) (fun H locs hP hD hS => ?_)
  have hP : va_P (dC, dI) vwCl [(h0, .inr (1, [.ref q1, .ref q2, .ref q3, .ref q4, .ref q5, .null, .null, .int 0])), (q1, .inl (c1, 1040, .inl (fun _ => 0))), (q2, .inl (c2, 1040, .inl (fun _ => 0))), (q3, .inl (c3, 1040, .inl (fun _ => 0))), (q4, .inl (c4, 1040, .inl (fun _ => 0))), (q5, .inl (c5, 1040, .inl (fun _ => 0)))] H := hP
  have hD : va_D A [(h0, .inr (1, [.ref q1, .ref q2, .ref q3, .ref q4, .ref q5, .null, .null, .int 0])), (q1, .inl (c1, 1040, .inl (fun _ => 0))), (q2, .inl (c2, 1040, .inl (fun _ => 0))), (q3, .inl (c3, 1040, .inl (fun _ => 0))), (q4, .inl (c4, 1040, .inl (fun _ => 0))), (q5, .inl (c5, 1040, .inl (fun _ => 0)))] := hD
  refine lv_aload_n hx hb (show decode prog_6_method_1_code 49 = .ok (.aload_n 0, 1) from by decide +kernel) rfl (lv_at hl 0 rfl) ?_
  refine lv_sipush (n := 1040) (v := 1040) hx hb (by decide +kernel) (by decide) ?_
  refine va_newa (atype := .int) (ty := .int) (a0 := (1040, .inl (fun _ => 0))) hx hb (gc_arr hT args (ty := .int) (by simp)) rfl hK hP hD hS hA (fun _ => rfl) (by decide) (N' := 1040) (by decide) (by decide) (Nat.le_of_ble_eq_true rfl) (Nat.le_of_ble_eq_true rfl) (show decode prog_6_method_1_code 53 = .ok (.newarray .int, 2) from by decide +kernel) (fun q6 c6 H hK hP hD hS => ?_)
  have hP : va_P (dC, dI) vwCl [(h0, .inr (1, [.ref q1, .ref q2, .ref q3, .ref q4, .ref q5, .null, .null, .int 0])), (q1, .inl (c1, 1040, .inl (fun _ => 0))), (q2, .inl (c2, 1040, .inl (fun _ => 0))), (q3, .inl (c3, 1040, .inl (fun _ => 0))), (q4, .inl (c4, 1040, .inl (fun _ => 0))), (q5, .inl (c5, 1040, .inl (fun _ => 0))), (q6, .inl (c6, 1040, .inl (fun _ => 0)))] H := hP
  have hD : va_D A [(h0, .inr (1, [.ref q1, .ref q2, .ref q3, .ref q4, .ref q5, .null, .null, .int 0])), (q1, .inl (c1, 1040, .inl (fun _ => 0))), (q2, .inl (c2, 1040, .inl (fun _ => 0))), (q3, .inl (c3, 1040, .inl (fun _ => 0))), (q4, .inl (c4, 1040, .inl (fun _ => 0))), (q5, .inl (c5, 1040, .inl (fun _ => 0))), (q6, .inl (c6, 1040, .inl (fun _ => 0)))] := hD
  have hK : va_K (dC, dI) vwCl [(c1, .int), (c2, .int), (c3, .int), (c4, .int), (c5, .int), (c6, .int)] s := hK
  refine W.widen (k := 6) (n := 6240) (Nat.le_refl _) (Nat.le_refl _) ?_
  refine va_putF (D := (dC, dI)) (ci := 1) (v := .ref q6) (ty := .array .int) (C := "GuessFences$Listing") (T := gf_T1) (N := 8) hx hb hts lays_1 gf_y1 gf_ty1 gf_nm1 hown hK hP hD hS 0 rfl rfl 5 (by decide) (hts (.fieldLink "GuessFences$Listing" 27 "GuessFences$Listing" "number" "[I") (gv_i1 62 rfl rfl)) (fun _ h9 => h9) rfl hin rfl (by decide +kernel) rfl rfl (Nat.le_of_ble_eq_true rfl) (by decide +kernel) (fun H locs hP hD hS => ?_)
  have hP : va_P (dC, dI) vwCl [(h0, .inr (1, [.ref q1, .ref q2, .ref q3, .ref q4, .ref q5, .ref q6, .null, .int 0])), (q1, .inl (c1, 1040, .inl (fun _ => 0))), (q2, .inl (c2, 1040, .inl (fun _ => 0))), (q3, .inl (c3, 1040, .inl (fun _ => 0))), (q4, .inl (c4, 1040, .inl (fun _ => 0))), (q5, .inl (c5, 1040, .inl (fun _ => 0))), (q6, .inl (c6, 1040, .inl (fun _ => 0)))] H := hP
  have hD : va_D A [(h0, .inr (1, [.ref q1, .ref q2, .ref q3, .ref q4, .ref q5, .ref q6, .null, .int 0])), (q1, .inl (c1, 1040, .inl (fun _ => 0))), (q2, .inl (c2, 1040, .inl (fun _ => 0))), (q3, .inl (c3, 1040, .inl (fun _ => 0))), (q4, .inl (c4, 1040, .inl (fun _ => 0))), (q5, .inl (c5, 1040, .inl (fun _ => 0))), (q6, .inl (c6, 1040, .inl (fun _ => 0)))] := hD
  refine lv_aload_n hx hb (show decode prog_6_method_1_code 58 = .ok (.aload_n 0, 1) from by decide +kernel) rfl (lv_at hl 0 rfl) ?_
  refine lv_sipush (n := 1040) (v := 1040) hx hb (by decide +kernel) (by decide) ?_
  refine va_newa (atype := .int) (ty := .int) (a0 := (1040, .inl (fun _ => 0))) hx hb (gc_arr hT args (ty := .int) (by simp)) rfl hK hP hD hS hA (fun _ => rfl) (by decide) (N' := 1040) (by decide) (by decide) (Nat.le_of_ble_eq_true rfl) (Nat.le_of_ble_eq_true rfl) (show decode prog_6_method_1_code 62 = .ok (.newarray .int, 2) from by decide +kernel) (fun q7 c7 H hK hP hD hS => ?_)
  have hP : va_P (dC, dI) vwCl [(h0, .inr (1, [.ref q1, .ref q2, .ref q3, .ref q4, .ref q5, .ref q6, .null, .int 0])), (q1, .inl (c1, 1040, .inl (fun _ => 0))), (q2, .inl (c2, 1040, .inl (fun _ => 0))), (q3, .inl (c3, 1040, .inl (fun _ => 0))), (q4, .inl (c4, 1040, .inl (fun _ => 0))), (q5, .inl (c5, 1040, .inl (fun _ => 0))), (q6, .inl (c6, 1040, .inl (fun _ => 0))), (q7, .inl (c7, 1040, .inl (fun _ => 0)))] H := hP
  have hD : va_D A [(h0, .inr (1, [.ref q1, .ref q2, .ref q3, .ref q4, .ref q5, .ref q6, .null, .int 0])), (q1, .inl (c1, 1040, .inl (fun _ => 0))), (q2, .inl (c2, 1040, .inl (fun _ => 0))), (q3, .inl (c3, 1040, .inl (fun _ => 0))), (q4, .inl (c4, 1040, .inl (fun _ => 0))), (q5, .inl (c5, 1040, .inl (fun _ => 0))), (q6, .inl (c6, 1040, .inl (fun _ => 0))), (q7, .inl (c7, 1040, .inl (fun _ => 0)))] := hD
  have hK : va_K (dC, dI) vwCl [(c1, .int), (c2, .int), (c3, .int), (c4, .int), (c5, .int), (c6, .int), (c7, .int)] s := hK
  refine W.widen (k := 7) (n := 7280) (Nat.le_refl _) (Nat.le_refl _) ?_
  refine va_putF (D := (dC, dI)) (ci := 1) (v := .ref q7) (ty := .array .int) (C := "GuessFences$Listing") (T := gf_T1) (N := 8) hx hb hts lays_1 gf_y1 gf_ty1 gf_nm1 hown hK hP hD hS 0 rfl rfl 6 (by decide) (hts (.fieldLink "GuessFences$Listing" 30 "GuessFences$Listing" "target" "[I") (gv_i1 64 rfl rfl)) (fun _ h9 => h9) rfl hin rfl (by decide +kernel) rfl rfl (Nat.le_of_ble_eq_true rfl) (by decide +kernel) (fun H locs hP hD hS => ?_)
  have hP : va_P (dC, dI) vwCl [(h0, .inr (1, [.ref q1, .ref q2, .ref q3, .ref q4, .ref q5, .ref q6, .ref q7, .int 0])), (q1, .inl (c1, 1040, .inl (fun _ => 0))), (q2, .inl (c2, 1040, .inl (fun _ => 0))), (q3, .inl (c3, 1040, .inl (fun _ => 0))), (q4, .inl (c4, 1040, .inl (fun _ => 0))), (q5, .inl (c5, 1040, .inl (fun _ => 0))), (q6, .inl (c6, 1040, .inl (fun _ => 0))), (q7, .inl (c7, 1040, .inl (fun _ => 0)))] H := hP
  have hD : va_D A [(h0, .inr (1, [.ref q1, .ref q2, .ref q3, .ref q4, .ref q5, .ref q6, .ref q7, .int 0])), (q1, .inl (c1, 1040, .inl (fun _ => 0))), (q2, .inl (c2, 1040, .inl (fun _ => 0))), (q3, .inl (c3, 1040, .inl (fun _ => 0))), (q4, .inl (c4, 1040, .inl (fun _ => 0))), (q5, .inl (c5, 1040, .inl (fun _ => 0))), (q6, .inl (c6, 1040, .inl (fun _ => 0))), (q7, .inl (c7, 1040, .inl (fun _ => 0)))] := hD
  refine lv_aload_n hx hb (show decode prog_6_method_1_code 67 = .ok (.aload_n 0, 1) from by decide +kernel) rfl (lv_at hl 0 rfl) ?_
  refine lv_iconst (n := 0) (v := 0) hx hb (by decide +kernel) (by decide) ?_
  refine va_put (D := (dC, dI)) (ci := 1) (v := .int 0) (ty := .int) (C := "GuessFences$Listing") (T := gf_T1) (N := 8) hx hb hts lays_1 gf_y1 gf_ty1 gf_nm1 hown hK hP hD hS 0 rfl rfl 7 (by decide) (hts (.fieldLink "GuessFences$Listing" 33 "GuessFences$Listing" "size" "I") (gv_i1 67 rfl rfl)) (fun _ h9 => h9) rfl (by decide +kernel) rfl rfl (Nat.le_of_ble_eq_true rfl) (by decide +kernel) (fun H locs hP hD hS => ?_)
  have hP : va_P (dC, dI) vwCl [(h0, .inr (1, [.ref q1, .ref q2, .ref q3, .ref q4, .ref q5, .ref q6, .ref q7, .int 0])), (q1, .inl (c1, 1040, .inl (fun _ => 0))), (q2, .inl (c2, 1040, .inl (fun _ => 0))), (q3, .inl (c3, 1040, .inl (fun _ => 0))), (q4, .inl (c4, 1040, .inl (fun _ => 0))), (q5, .inl (c5, 1040, .inl (fun _ => 0))), (q6, .inl (c6, 1040, .inl (fun _ => 0))), (q7, .inl (c7, 1040, .inl (fun _ => 0)))] H := hP
  have hD : va_D A [(h0, .inr (1, [.ref q1, .ref q2, .ref q3, .ref q4, .ref q5, .ref q6, .ref q7, .int 0])), (q1, .inl (c1, 1040, .inl (fun _ => 0))), (q2, .inl (c2, 1040, .inl (fun _ => 0))), (q3, .inl (c3, 1040, .inl (fun _ => 0))), (q4, .inl (c4, 1040, .inl (fun _ => 0))), (q5, .inl (c5, 1040, .inl (fun _ => 0))), (q6, .inl (c6, 1040, .inl (fun _ => 0))), (q7, .inl (c7, 1040, .inl (fun _ => 0)))] := hD
  exact W.vret hx hb hr (fun t ht hW => ⟨⟨(), rfl, trivial, q1, q2, q3, q4, q5, q6, q7, c1, c2, c3, c4, c5, c6, c7, by rw [ht]; exact hP, va_K.moved hW.alike hK, hD⟩, hS.F ht⟩) hS.2.2 (by decide +kernel)

set_option maxHeartbeats 4000000 in
set_option maxRecDepth 100000 in
theorem k_Leaks_init (l : Launch) (dC : Nat → ClassId) (dI : Nat → Nat → Nat) (h0 : Nat) (sz : Nat) : Met l ⟨"GuessFences$Leaks", "<init>", "()V"⟩ [.code ⟨"GuessFences$Leaks", "<init>", "()V"⟩ prog_5_method_1_code 1 none] (gc_rm 8 1 2048) (va_Pc [.ref h0] (gc_P dC dI sz [(h0, .inr (3, [.null, .int 0]))])) (va_Qv (fun _ : Unit => True) (fun _ t => ∃ (q1 : Nat) (c1 : ClassId), va_P (dC, dI) vwCl [(h0, .inr (3, [.ref q1, .int 0])), (q1, .inl (c1, 2048, .inr (.inl (fun _ => 0))))] t.heap ∧ va_K (dC, dI) vwCl [(c1, .long)] t ∧ va_D (va_A [(h0, .inr (3, [.null, .int 0]))] sz) [(h0, .inr (3, [.ref q1, .int 0])), (q1, .inl (c1, 2048, .inr (.inl (fun _ => 0))))]) (va_A [(h0, .inr (3, [.null, .int 0]))] sz)) 1 2048 (va_A [(h0, .inr (3, [.null, .int 0]))] sz) := by
  refine Met.ofW (cc := prog_5_method_1_code) (maxL := 1) (ret := none) (by decide) rfl ?_
  intro p e s m args below meth c s₁ B hml hv
  obtain ⟨rfl, hsz, hT, hP, hK, hD0⟩ := hv
  have hx := B.exec
  have hb := B.bytes
  have hr := B.returns
  have hown : s.vm.findClass "GuessFences$Leaks" = some m.cls := findClass_of_methodNamed B.named
  have hlocks := B.notSynchronized
  have hin : meth.name = "<init>" := (name_of_methodNamed B.named B.method).1
  subst hsz
  generalize hargs : ([.ref h0] : List Value).toArray = args
  have hD := hD0.self (sz := s.heap.size)
  generalize hAe : va_A [(h0, .inr (3, [.null, .int 0]))] s.heap.size = A at hD ⊢
  have hA : ∀ q : Nat, s.heap.size ≤ q → A q := fun q h => by rw [← hAe]; exact Or.inr h
  have hS : va_S A s.heap s.heap [] := va_S.rf
  have hts := gc_hts hT args
  rw [← hargs]
  have hl := lv_entry ([.ref h0]) (n := 1) (Nat.le_of_ble_eq_true rfl)
  rw [lg_entry_eq]
  generalize (lg_sl ([.ref h0]) ++ List.replicate (1 - (lg_sl ([.ref h0])).length) Slot.unset).toArray = ls at hl ⊢
  rw [hargs]
  have hl : lv_has ls 1 [(0, .ref h0)] := hl
  refine lv_aload_n hx hb (show decode prog_5_method_1_code 0 = .ok (.aload_n 0, 1) from by decide +kernel) rfl (lv_at hl 0 rfl) ?_
  refine W.objInit hx hb hown (hts (.methodLink "GuessFences$Leaks" 3 objectInit) (gv_i1 103 rfl rfl)) (hts (.instanceMethod objectInit) (gv_i1 38 rfl rfl)) (hts (.code objectInit ⟨#[0xb1]⟩ 1 none) (gv_i1 39 rfl rfl)) rfl (by rw [hml]; exact hl.1) rfl (show decode prog_5_method_1_code 1 = .ok (.invokespecial 3, 3) from by decide +kernel) (Nat.le_of_ble_eq_true rfl) (Nat.le_of_ble_eq_true rfl) ?_
  refine W.eq (g2 := F0 m 4 ls []) rfl ?_
  refine lv_aload_n hx hb (show decode prog_5_method_1_code 4 = .ok (.aload_n 0, 1) from by decide +kernel) rfl (lv_at hl 0 rfl) ?_
  refine lv_sipush (n := 2048) (v := 2048) hx hb (by decide +kernel) (by decide) ?_
  refine va_newa (atype := .long) (ty := .long) (a0 := (2048, .inr (.inl (fun _ => 0)))) hx hb (gc_arr hT args (ty := .long) (by simp)) rfl hK hP hD hS hA (fun _ => rfl) (by decide) (N' := 2048) (by decide) (by decide) (Nat.le_of_ble_eq_true rfl) (Nat.le_of_ble_eq_true rfl) (show decode prog_5_method_1_code 8 = .ok (.newarray .long, 2) from by decide +kernel) (fun q1 c1 H hK hP hD hS => ?_)
  have hP : va_P (dC, dI) vwCl [(h0, .inr (3, [.null, .int 0])), (q1, .inl (c1, 2048, .inr (.inl (fun _ => 0))))] H := hP
  have hD : va_D A [(h0, .inr (3, [.null, .int 0])), (q1, .inl (c1, 2048, .inr (.inl (fun _ => 0))))] := hD
  have hK : va_K (dC, dI) vwCl [(c1, .long)] s := hK
  refine W.widen (k := 1) (n := 2048) (Nat.le_refl _) (Nat.le_refl _) ?_
  refine va_putF (D := (dC, dI)) (ci := 3) (v := .ref q1) (ty := .array .long) (C := "GuessFences$Leaks") (T := gf_T3) (N := 2) hx hb hts lays_3 gf_y3 gf_ty3 gf_nm3 hown hK hP hD hS 0 rfl rfl 0 (by decide) (hts (.fieldLink "GuessFences$Leaks" 11 "GuessFences$Leaks" "pairs" "[J") (gv_i1 104 rfl rfl)) (fun _ h9 => h9) rfl hin rfl (by decide +kernel) rfl rfl (Nat.le_of_ble_eq_true rfl) (by decide +kernel) (fun H locs hP hD hS => ?_)
  have hP : va_P (dC, dI) vwCl [(h0, .inr (3, [.ref q1, .int 0])), (q1, .inl (c1, 2048, .inr (.inl (fun _ => 0))))] H := hP
  have hD : va_D A [(h0, .inr (3, [.ref q1, .int 0])), (q1, .inl (c1, 2048, .inr (.inl (fun _ => 0))))] := hD
  refine lv_aload_n hx hb (show decode prog_5_method_1_code 13 = .ok (.aload_n 0, 1) from by decide +kernel) rfl (lv_at hl 0 rfl) ?_
  refine lv_iconst (n := 0) (v := 0) hx hb (by decide +kernel) (by decide) ?_
  refine va_put (D := (dC, dI)) (ci := 3) (v := .int 0) (ty := .int) (C := "GuessFences$Leaks") (T := gf_T3) (N := 2) hx hb hts lays_3 gf_y3 gf_ty3 gf_nm3 hown hK hP hD hS 0 rfl rfl 1 (by decide) (hts (.fieldLink "GuessFences$Leaks" 15 "GuessFences$Leaks" "count" "I") (gv_i1 105 rfl rfl)) (fun _ h9 => h9) rfl (by decide +kernel) rfl rfl (Nat.le_of_ble_eq_true rfl) (by decide +kernel) (fun H locs hP hD hS => ?_)
  have hP : va_P (dC, dI) vwCl [(h0, .inr (3, [.ref q1, .int 0])), (q1, .inl (c1, 2048, .inr (.inl (fun _ => 0))))] H := hP
  have hD : va_D A [(h0, .inr (3, [.ref q1, .int 0])), (q1, .inl (c1, 2048, .inr (.inl (fun _ => 0))))] := hD
  exact W.vret hx hb hr (fun t ht hW => ⟨⟨(), rfl, trivial, q1, c1, by rw [ht]; exact hP, va_K.moved hW.alike hK, hD⟩, hS.F ht⟩) hS.2.2 (by decide +kernel)

set_option maxHeartbeats 4000000 in
set_option maxRecDepth 100000 in
theorem k_Guesses_init (l : Launch) (dC : Nat → ClassId) (dI : Nat → Nat → Nat) (h0 : Nat) (sz : Nat) : Met l ⟨"GuessFences$Guesses", "<init>", "()V"⟩ [.code ⟨"GuessFences$Guesses", "<init>", "()V"⟩ prog_4_method_1_code 1 none] (gc_rm 8 5 4656) (va_Pc [.ref h0] (gc_P dC dI sz [(h0, .inr (4, [.null, .null, .null, .null, .null, .int 0, .int 0, .int 0]))])) (va_Qv (fun _ : Unit => True) (fun _ t => ∃ (q1 q2 q3 q4 q5 : Nat) (c1 c2 c3 c4 c5 : ClassId), va_P (dC, dI) vwCl [(h0, .inr (4, [.ref q1, .ref q2, .ref q3, .ref q4, .ref q5, .int 0, .int 0, .int 0])), (q1, .inl (c1, 512, .inl (fun _ => 0))), (q2, .inl (c2, 4096, .inl (fun _ => 0))), (q3, .inl (c3, 16, .inl (fun _ => 0))), (q4, .inl (c4, 16, .inl (fun _ => 0))), (q5, .inl (c5, 16, .inl (fun _ => 0)))] t.heap ∧ va_K (dC, dI) vwCl [(c1, .int), (c2, .byte), (c3, .int), (c4, .int), (c5, .int)] t ∧ va_D (va_A [(h0, .inr (4, [.null, .null, .null, .null, .null, .int 0, .int 0, .int 0]))] sz) [(h0, .inr (4, [.ref q1, .ref q2, .ref q3, .ref q4, .ref q5, .int 0, .int 0, .int 0])), (q1, .inl (c1, 512, .inl (fun _ => 0))), (q2, .inl (c2, 4096, .inl (fun _ => 0))), (q3, .inl (c3, 16, .inl (fun _ => 0))), (q4, .inl (c4, 16, .inl (fun _ => 0))), (q5, .inl (c5, 16, .inl (fun _ => 0)))]) (va_A [(h0, .inr (4, [.null, .null, .null, .null, .null, .int 0, .int 0, .int 0]))] sz)) 5 4656 (va_A [(h0, .inr (4, [.null, .null, .null, .null, .null, .int 0, .int 0, .int 0]))] sz) := by
  refine Met.ofW (cc := prog_4_method_1_code) (maxL := 1) (ret := none) (by decide) rfl ?_
  intro p e s m args below meth c s₁ B hml hv
  obtain ⟨rfl, hsz, hT, hP, hK, hD0⟩ := hv
  have hx := B.exec
  have hb := B.bytes
  have hr := B.returns
  have hown : s.vm.findClass "GuessFences$Guesses" = some m.cls := findClass_of_methodNamed B.named
  have hlocks := B.notSynchronized
  have hin : meth.name = "<init>" := (name_of_methodNamed B.named B.method).1
  subst hsz
  generalize hargs : ([.ref h0] : List Value).toArray = args
  have hD := hD0.self (sz := s.heap.size)
  generalize hAe : va_A [(h0, .inr (4, [.null, .null, .null, .null, .null, .int 0, .int 0, .int 0]))] s.heap.size = A at hD ⊢
  have hA : ∀ q : Nat, s.heap.size ≤ q → A q := fun q h => by rw [← hAe]; exact Or.inr h
  have hS : va_S A s.heap s.heap [] := va_S.rf
  have hts := gc_hts hT args
  rw [← hargs]
  have hl := lv_entry ([.ref h0]) (n := 1) (Nat.le_of_ble_eq_true rfl)
  rw [lg_entry_eq]
  generalize (lg_sl ([.ref h0]) ++ List.replicate (1 - (lg_sl ([.ref h0])).length) Slot.unset).toArray = ls at hl ⊢
  rw [hargs]
  have hl : lv_has ls 1 [(0, .ref h0)] := hl
  refine lv_aload_n hx hb (show decode prog_4_method_1_code 0 = .ok (.aload_n 0, 1) from by decide +kernel) rfl (lv_at hl 0 rfl) ?_
  refine W.objInit hx hb hown (hts (.methodLink "GuessFences$Guesses" 3 objectInit) (gv_i1 119 rfl rfl)) (hts (.instanceMethod objectInit) (gv_i1 38 rfl rfl)) (hts (.code objectInit ⟨#[0xb1]⟩ 1 none) (gv_i1 39 rfl rfl)) rfl (by rw [hml]; exact hl.1) rfl (show decode prog_4_method_1_code 1 = .ok (.invokespecial 3, 3) from by decide +kernel) (Nat.le_of_ble_eq_true rfl) (Nat.le_of_ble_eq_true rfl) ?_
  refine W.eq (g2 := F0 m 4 ls []) rfl ?_
  refine lv_aload_n hx hb (show decode prog_4_method_1_code 4 = .ok (.aload_n 0, 1) from by decide +kernel) rfl (lv_at hl 0 rfl) ?_
  refine lv_sipush (n := 512) (v := 512) hx hb (by decide +kernel) (by decide) ?_
  refine va_newa (atype := .int) (ty := .int) (a0 := (512, .inl (fun _ => 0))) hx hb (gc_arr hT args (ty := .int) (by simp)) rfl hK hP hD hS hA (fun _ => rfl) (by decide) (N' := 512) (by decide) (by decide) (Nat.le_of_ble_eq_true rfl) (Nat.le_of_ble_eq_true rfl) (show decode prog_4_method_1_code 8 = .ok (.newarray .int, 2) from by decide +kernel) (fun q1 c1 H hK hP hD hS => ?_)
  have hP : va_P (dC, dI) vwCl [(h0, .inr (4, [.null, .null, .null, .null, .null, .int 0, .int 0, .int 0])), (q1, .inl (c1, 512, .inl (fun _ => 0)))] H := hP
  have hD : va_D A [(h0, .inr (4, [.null, .null, .null, .null, .null, .int 0, .int 0, .int 0])), (q1, .inl (c1, 512, .inl (fun _ => 0)))] := hD
  have hK : va_K (dC, dI) vwCl [(c1, .int)] s := hK
  refine W.widen (k := 1) (n := 512) (Nat.le_refl _) (Nat.le_refl _) ?_
  refine va_putF (D := (dC, dI)) (ci := 4) (v := .ref q1) (ty := .array .int) (C := "GuessFences$Guesses") (T := gf_T4) (N := 8) hx hb hts lays_4 gf_y4 gf_ty4 gf_nm4 hown hK hP hD hS 0 rfl rfl 0 (by decide) (hts (.fieldLink "GuessFences$Guesses" 11 "GuessFences$Guesses" "registers" "[I") (gv_i1 120 rfl rfl)) (fun _ h9 => h9) rfl hin rfl (by decide +kernel) rfl rfl (Nat.le_of_ble_eq_true rfl) (by decide +kernel) (fun H locs hP hD hS => ?_)
  have hP : va_P (dC, dI) vwCl [(h0, .inr (4, [.ref q1, .null, .null, .null, .null, .int 0, .int 0, .int 0])), (q1, .inl (c1, 512, .inl (fun _ => 0)))] H := hP
  have hD : va_D A [(h0, .inr (4, [.ref q1, .null, .null, .null, .null, .int 0, .int 0, .int 0])), (q1, .inl (c1, 512, .inl (fun _ => 0)))] := hD
  refine lv_aload_n hx hb (show decode prog_4_method_1_code 13 = .ok (.aload_n 0, 1) from by decide +kernel) rfl (lv_at hl 0 rfl) ?_
  refine lv_sipush (n := 4096) (v := 4096) hx hb (by decide +kernel) (by decide) ?_
  refine va_newa (atype := .byte) (ty := .byte) (a0 := (4096, .inl (fun _ => 0))) hx hb (gc_arr hT args (ty := .byte) (by simp)) rfl hK hP hD hS hA (fun _ => rfl) (by decide) (N' := 4096) (by decide) (by decide) (Nat.le_of_ble_eq_true rfl) (Nat.le_of_ble_eq_true rfl) (show decode prog_4_method_1_code 17 = .ok (.newarray .byte, 2) from by decide +kernel) (fun q2 c2 H hK hP hD hS => ?_)
  have hP : va_P (dC, dI) vwCl [(h0, .inr (4, [.ref q1, .null, .null, .null, .null, .int 0, .int 0, .int 0])), (q1, .inl (c1, 512, .inl (fun _ => 0))), (q2, .inl (c2, 4096, .inl (fun _ => 0)))] H := hP
  have hD : va_D A [(h0, .inr (4, [.ref q1, .null, .null, .null, .null, .int 0, .int 0, .int 0])), (q1, .inl (c1, 512, .inl (fun _ => 0))), (q2, .inl (c2, 4096, .inl (fun _ => 0)))] := hD
  have hK : va_K (dC, dI) vwCl [(c1, .int), (c2, .byte)] s := hK
  refine W.widen (k := 2) (n := 4608) (Nat.le_refl _) (Nat.le_refl _) ?_
  refine va_putF (D := (dC, dI)) (ci := 4) (v := .ref q2) (ty := .array .byte) (C := "GuessFences$Guesses") (T := gf_T4) (N := 8) hx hb hts lays_4 gf_y4 gf_ty4 gf_nm4 hown hK hP hD hS 0 rfl rfl 1 (by decide) (hts (.fieldLink "GuessFences$Guesses" 15 "GuessFences$Guesses" "memory" "[B") (gv_i1 121 rfl rfl)) (fun _ h9 => h9) rfl hin rfl (by decide +kernel) rfl rfl (Nat.le_of_ble_eq_true rfl) (by decide +kernel) (fun H locs hP hD hS => ?_)
  have hP : va_P (dC, dI) vwCl [(h0, .inr (4, [.ref q1, .ref q2, .null, .null, .null, .int 0, .int 0, .int 0])), (q1, .inl (c1, 512, .inl (fun _ => 0))), (q2, .inl (c2, 4096, .inl (fun _ => 0)))] H := hP
  have hD : va_D A [(h0, .inr (4, [.ref q1, .ref q2, .null, .null, .null, .int 0, .int 0, .int 0])), (q1, .inl (c1, 512, .inl (fun _ => 0))), (q2, .inl (c2, 4096, .inl (fun _ => 0)))] := hD
  refine lv_aload_n hx hb (show decode prog_4_method_1_code 22 = .ok (.aload_n 0, 1) from by decide +kernel) rfl (lv_at hl 0 rfl) ?_
  refine lv_bipush (n := 16) (v := 16) hx hb (by decide +kernel) (by decide) ?_
  refine va_newa (atype := .int) (ty := .int) (a0 := (16, .inl (fun _ => 0))) hx hb (gc_arr hT args (ty := .int) (by simp)) rfl hK hP hD hS hA (fun _ => rfl) (by decide) (N' := 16) (by decide) (by decide) (Nat.le_of_ble_eq_true rfl) (Nat.le_of_ble_eq_true rfl) (show decode prog_4_method_1_code 25 = .ok (.newarray .int, 2) from by decide +kernel) (fun q3 c3 H hK hP hD hS => ?_)
  have hP : va_P (dC, dI) vwCl [(h0, .inr (4, [.ref q1, .ref q2, .null, .null, .null, .int 0, .int 0, .int 0])), (q1, .inl (c1, 512, .inl (fun _ => 0))), (q2, .inl (c2, 4096, .inl (fun _ => 0))), (q3, .inl (c3, 16, .inl (fun _ => 0)))] H := hP
  have hD : va_D A [(h0, .inr (4, [.ref q1, .ref q2, .null, .null, .null, .int 0, .int 0, .int 0])), (q1, .inl (c1, 512, .inl (fun _ => 0))), (q2, .inl (c2, 4096, .inl (fun _ => 0))), (q3, .inl (c3, 16, .inl (fun _ => 0)))] := hD
  have hK : va_K (dC, dI) vwCl [(c1, .int), (c2, .byte), (c3, .int)] s := hK
  refine W.widen (k := 3) (n := 4624) (Nat.le_refl _) (Nat.le_refl _) ?_
  refine va_putF (D := (dC, dI)) (ci := 4) (v := .ref q3) (ty := .array .int) (C := "GuessFences$Guesses") (T := gf_T4) (N := 8) hx hb hts lays_4 gf_y4 gf_ty4 gf_nm4 hown hK hP hD hS 0 rfl rfl 2 (by decide) (hts (.fieldLink "GuessFences$Guesses" 19 "GuessFences$Guesses" "went" "[I") (gv_i1 122 rfl rfl)) (fun _ h9 => h9) rfl hin rfl (by decide +kernel) rfl rfl (Nat.le_of_ble_eq_true rfl) (by decide +kernel) (fun H locs hP hD hS => ?_)
  have hP : va_P (dC, dI) vwCl [(h0, .inr (4, [.ref q1, .ref q2, .ref q3, .null, .null, .int 0, .int 0, .int 0])), (q1, .inl (c1, 512, .inl (fun _ => 0))), (q2, .inl (c2, 4096, .inl (fun _ => 0))), (q3, .inl (c3, 16, .inl (fun _ => 0)))] H := hP
  have hD : va_D A [(h0, .inr (4, [.ref q1, .ref q2, .ref q3, .null, .null, .int 0, .int 0, .int 0])), (q1, .inl (c1, 512, .inl (fun _ => 0))), (q2, .inl (c2, 4096, .inl (fun _ => 0))), (q3, .inl (c3, 16, .inl (fun _ => 0)))] := hD
  refine lv_aload_n hx hb (show decode prog_4_method_1_code 30 = .ok (.aload_n 0, 1) from by decide +kernel) rfl (lv_at hl 0 rfl) ?_
  refine lv_bipush (n := 16) (v := 16) hx hb (by decide +kernel) (by decide) ?_
  refine va_newa (atype := .int) (ty := .int) (a0 := (16, .inl (fun _ => 0))) hx hb (gc_arr hT args (ty := .int) (by simp)) rfl hK hP hD hS hA (fun _ => rfl) (by decide) (N' := 16) (by decide) (by decide) (Nat.le_of_ble_eq_true rfl) (Nat.le_of_ble_eq_true rfl) (show decode prog_4_method_1_code 33 = .ok (.newarray .int, 2) from by decide +kernel) (fun q4 c4 H hK hP hD hS => ?_)
  have hP : va_P (dC, dI) vwCl [(h0, .inr (4, [.ref q1, .ref q2, .ref q3, .null, .null, .int 0, .int 0, .int 0])), (q1, .inl (c1, 512, .inl (fun _ => 0))), (q2, .inl (c2, 4096, .inl (fun _ => 0))), (q3, .inl (c3, 16, .inl (fun _ => 0))), (q4, .inl (c4, 16, .inl (fun _ => 0)))] H := hP
  have hD : va_D A [(h0, .inr (4, [.ref q1, .ref q2, .ref q3, .null, .null, .int 0, .int 0, .int 0])), (q1, .inl (c1, 512, .inl (fun _ => 0))), (q2, .inl (c2, 4096, .inl (fun _ => 0))), (q3, .inl (c3, 16, .inl (fun _ => 0))), (q4, .inl (c4, 16, .inl (fun _ => 0)))] := hD
  have hK : va_K (dC, dI) vwCl [(c1, .int), (c2, .byte), (c3, .int), (c4, .int)] s := hK
  refine W.widen (k := 4) (n := 4640) (Nat.le_refl _) (Nat.le_refl _) ?_
  refine va_putF (D := (dC, dI)) (ci := 4) (v := .ref q4) (ty := .array .int) (C := "GuessFences$Guesses") (T := gf_T4) (N := 8) hx hb hts lays_4 gf_y4 gf_ty4 gf_nm4 hown hK hP hD hS 0 rfl rfl 3 (by decide) (hts (.fieldLink "GuessFences$Guesses" 22 "GuessFences$Guesses" "ought" "[I") (gv_i1 123 rfl rfl)) (fun _ h9 => h9) rfl hin rfl (by decide +kernel) rfl rfl (Nat.le_of_ble_eq_true rfl) (by decide +kernel) (fun H locs hP hD hS => ?_)
  have hP : va_P (dC, dI) vwCl [(h0, .inr (4, [.ref q1, .ref q2, .ref q3, .ref q4, .null, .int 0, .int 0, .int 0])), (q1, .inl (c1, 512, .inl (fun _ => 0))), (q2, .inl (c2, 4096, .inl (fun _ => 0))), (q3, .inl (c3, 16, .inl (fun _ => 0))), (q4, .inl (c4, 16, .inl (fun _ => 0)))] H := hP
  have hD : va_D A [(h0, .inr (4, [.ref q1, .ref q2, .ref q3, .ref q4, .null, .int 0, .int 0, .int 0])), (q1, .inl (c1, 512, .inl (fun _ => 0))), (q2, .inl (c2, 4096, .inl (fun _ => 0))), (q3, .inl (c3, 16, .inl (fun _ => 0))), (q4, .inl (c4, 16, .inl (fun _ => 0)))] := hD
  refine lv_aload_n hx hb (show decode prog_4_method_1_code 38 = .ok (.aload_n 0, 1) from by decide +kernel) rfl (lv_at hl 0 rfl) ?_
  refine lv_bipush (n := 16) (v := 16) hx hb (by decide +kernel) (by decide) ?_
  refine va_newa (atype := .int) (ty := .int) (a0 := (16, .inl (fun _ => 0))) hx hb (gc_arr hT args (ty := .int) (by simp)) rfl hK hP hD hS hA (fun _ => rfl) (by decide) (N' := 16) (by decide) (by decide) (Nat.le_of_ble_eq_true rfl) (Nat.le_of_ble_eq_true rfl) (show decode prog_4_method_1_code 41 = .ok (.newarray .int, 2) from by decide +kernel) (fun q5 c5 H hK hP hD hS => ?_)
  have hP : va_P (dC, dI) vwCl [(h0, .inr (4, [.ref q1, .ref q2, .ref q3, .ref q4, .null, .int 0, .int 0, .int 0])), (q1, .inl (c1, 512, .inl (fun _ => 0))), (q2, .inl (c2, 4096, .inl (fun _ => 0))), (q3, .inl (c3, 16, .inl (fun _ => 0))), (q4, .inl (c4, 16, .inl (fun _ => 0))), (q5, .inl (c5, 16, .inl (fun _ => 0)))] H := hP
  have hD : va_D A [(h0, .inr (4, [.ref q1, .ref q2, .ref q3, .ref q4, .null, .int 0, .int 0, .int 0])), (q1, .inl (c1, 512, .inl (fun _ => 0))), (q2, .inl (c2, 4096, .inl (fun _ => 0))), (q3, .inl (c3, 16, .inl (fun _ => 0))), (q4, .inl (c4, 16, .inl (fun _ => 0))), (q5, .inl (c5, 16, .inl (fun _ => 0)))] := hD
  have hK : va_K (dC, dI) vwCl [(c1, .int), (c2, .byte), (c3, .int), (c4, .int), (c5, .int)] s := hK
  refine W.widen (k := 5) (n := 4656) (Nat.le_refl _) (Nat.le_refl _) ?_
  refine va_putF (D := (dC, dI)) (ci := 4) (v := .ref q5) (ty := .array .int) (C := "GuessFences$Guesses") (T := gf_T4) (N := 8) hx hb hts lays_4 gf_y4 gf_ty4 gf_nm4 hown hK hP hD hS 0 rfl rfl 4 (by decide) (hts (.fieldLink "GuessFences$Guesses" 25 "GuessFences$Guesses" "stepsThen" "[I") (gv_i1 124 rfl rfl)) (fun _ h9 => h9) rfl hin rfl (by decide +kernel) rfl rfl (Nat.le_of_ble_eq_true rfl) (by decide +kernel) (fun H locs hP hD hS => ?_)
  have hP : va_P (dC, dI) vwCl [(h0, .inr (4, [.ref q1, .ref q2, .ref q3, .ref q4, .ref q5, .int 0, .int 0, .int 0])), (q1, .inl (c1, 512, .inl (fun _ => 0))), (q2, .inl (c2, 4096, .inl (fun _ => 0))), (q3, .inl (c3, 16, .inl (fun _ => 0))), (q4, .inl (c4, 16, .inl (fun _ => 0))), (q5, .inl (c5, 16, .inl (fun _ => 0)))] H := hP
  have hD : va_D A [(h0, .inr (4, [.ref q1, .ref q2, .ref q3, .ref q4, .ref q5, .int 0, .int 0, .int 0])), (q1, .inl (c1, 512, .inl (fun _ => 0))), (q2, .inl (c2, 4096, .inl (fun _ => 0))), (q3, .inl (c3, 16, .inl (fun _ => 0))), (q4, .inl (c4, 16, .inl (fun _ => 0))), (q5, .inl (c5, 16, .inl (fun _ => 0)))] := hD
  refine lv_aload_n hx hb (show decode prog_4_method_1_code 46 = .ok (.aload_n 0, 1) from by decide +kernel) rfl (lv_at hl 0 rfl) ?_
  refine lv_iconst (n := 0) (v := 0) hx hb (by decide +kernel) (by decide) ?_
  refine va_put (D := (dC, dI)) (ci := 4) (v := .int 0) (ty := .int) (C := "GuessFences$Guesses") (T := gf_T4) (N := 8) hx hb hts lays_4 gf_y4 gf_ty4 gf_nm4 hown hK hP hD hS 0 rfl rfl 5 (by decide) (hts (.fieldLink "GuessFences$Guesses" 28 "GuessFences$Guesses" "oldest" "I") (gv_i1 125 rfl rfl)) (fun _ h9 => h9) rfl (by decide +kernel) rfl rfl (Nat.le_of_ble_eq_true rfl) (by decide +kernel) (fun H locs hP hD hS => ?_)
  have hP : va_P (dC, dI) vwCl [(h0, .inr (4, [.ref q1, .ref q2, .ref q3, .ref q4, .ref q5, .int 0, .int 0, .int 0])), (q1, .inl (c1, 512, .inl (fun _ => 0))), (q2, .inl (c2, 4096, .inl (fun _ => 0))), (q3, .inl (c3, 16, .inl (fun _ => 0))), (q4, .inl (c4, 16, .inl (fun _ => 0))), (q5, .inl (c5, 16, .inl (fun _ => 0)))] H := hP
  have hD : va_D A [(h0, .inr (4, [.ref q1, .ref q2, .ref q3, .ref q4, .ref q5, .int 0, .int 0, .int 0])), (q1, .inl (c1, 512, .inl (fun _ => 0))), (q2, .inl (c2, 4096, .inl (fun _ => 0))), (q3, .inl (c3, 16, .inl (fun _ => 0))), (q4, .inl (c4, 16, .inl (fun _ => 0))), (q5, .inl (c5, 16, .inl (fun _ => 0)))] := hD
  refine lv_aload_n hx hb (show decode prog_4_method_1_code 51 = .ok (.aload_n 0, 1) from by decide +kernel) rfl (lv_at hl 0 rfl) ?_
  refine lv_iconst (n := 0) (v := 0) hx hb (by decide +kernel) (by decide) ?_
  refine va_put (D := (dC, dI)) (ci := 4) (v := .int 0) (ty := .int) (C := "GuessFences$Guesses") (T := gf_T4) (N := 8) hx hb hts lays_4 gf_y4 gf_ty4 gf_nm4 hown hK hP hD hS 0 rfl rfl 6 (by decide) (hts (.fieldLink "GuessFences$Guesses" 32 "GuessFences$Guesses" "open" "I") (gv_i1 126 rfl rfl)) (fun _ h9 => h9) rfl (by decide +kernel) rfl rfl (Nat.le_of_ble_eq_true rfl) (by decide +kernel) (fun H locs hP hD hS => ?_)
  have hP : va_P (dC, dI) vwCl [(h0, .inr (4, [.ref q1, .ref q2, .ref q3, .ref q4, .ref q5, .int 0, .int 0, .int 0])), (q1, .inl (c1, 512, .inl (fun _ => 0))), (q2, .inl (c2, 4096, .inl (fun _ => 0))), (q3, .inl (c3, 16, .inl (fun _ => 0))), (q4, .inl (c4, 16, .inl (fun _ => 0))), (q5, .inl (c5, 16, .inl (fun _ => 0)))] H := hP
  have hD : va_D A [(h0, .inr (4, [.ref q1, .ref q2, .ref q3, .ref q4, .ref q5, .int 0, .int 0, .int 0])), (q1, .inl (c1, 512, .inl (fun _ => 0))), (q2, .inl (c2, 4096, .inl (fun _ => 0))), (q3, .inl (c3, 16, .inl (fun _ => 0))), (q4, .inl (c4, 16, .inl (fun _ => 0))), (q5, .inl (c5, 16, .inl (fun _ => 0)))] := hD
  refine lv_aload_n hx hb (show decode prog_4_method_1_code 56 = .ok (.aload_n 0, 1) from by decide +kernel) rfl (lv_at hl 0 rfl) ?_
  refine lv_iconst (n := 0) (v := 0) hx hb (by decide +kernel) (by decide) ?_
  refine va_put (D := (dC, dI)) (ci := 4) (v := .int 0) (ty := .int) (C := "GuessFences$Guesses") (T := gf_T4) (N := 8) hx hb hts lays_4 gf_y4 gf_ty4 gf_nm4 hown hK hP hD hS 0 rfl rfl 7 (by decide) (hts (.fieldLink "GuessFences$Guesses" 35 "GuessFences$Guesses" "steps" "I") (gv_i1 129 rfl rfl)) (fun _ h9 => h9) rfl (by decide +kernel) rfl rfl (Nat.le_of_ble_eq_true rfl) (by decide +kernel) (fun H locs hP hD hS => ?_)
  have hP : va_P (dC, dI) vwCl [(h0, .inr (4, [.ref q1, .ref q2, .ref q3, .ref q4, .ref q5, .int 0, .int 0, .int 0])), (q1, .inl (c1, 512, .inl (fun _ => 0))), (q2, .inl (c2, 4096, .inl (fun _ => 0))), (q3, .inl (c3, 16, .inl (fun _ => 0))), (q4, .inl (c4, 16, .inl (fun _ => 0))), (q5, .inl (c5, 16, .inl (fun _ => 0)))] H := hP
  have hD : va_D A [(h0, .inr (4, [.ref q1, .ref q2, .ref q3, .ref q4, .ref q5, .int 0, .int 0, .int 0])), (q1, .inl (c1, 512, .inl (fun _ => 0))), (q2, .inl (c2, 4096, .inl (fun _ => 0))), (q3, .inl (c3, 16, .inl (fun _ => 0))), (q4, .inl (c4, 16, .inl (fun _ => 0))), (q5, .inl (c5, 16, .inl (fun _ => 0)))] := hD
  exact W.vret hx hb hr (fun t ht hW => ⟨⟨(), rfl, trivial, q1, q2, q3, q4, q5, c1, c2, c3, c4, c5, by rw [ht]; exact hP, va_K.moved hW.alike hK, hD⟩, hS.F ht⟩) hS.2.2 (by decide +kernel)

set_option maxHeartbeats 4000000 in
set_option maxRecDepth 100000 in
theorem k_Machine_init (l : Launch) (dC : Nat → ClassId) (dI : Nat → Nat → Nat) (h0 a1 : Nat) (sz : Nat) : Met l ⟨"GuessFences$Machine", "<init>", "(LGuessFences$Listing;)V"⟩ [.code ⟨"GuessFences$Machine", "<init>", "(LGuessFences$Listing;)V"⟩ prog_7_method_1_code 2 none] (gc_rm 9 10 7002) (va_Pc [.ref h0, .ref a1] (gc_P dC dI sz [(h0, .inr (2, [.null, .null, .null, .null, .null, .int 0, .int 0]))])) (va_Qv (fun _ : Unit => True) (fun _ t => ∃ (q1 q2 q3 q4 q5 q6 q7 q8 q9 q10 : Nat) (c1 c2 c4 c6 c7 c8 c9 c10 : ClassId), va_P (dC, dI) vwCl [(h0, .inr (2, [.ref a1, .ref q1, .ref q2, .ref q3, .ref q5, .int 0, .int 16])), (q1, .inl (c1, 32, .inl (fun _ => 0))), (q2, .inl (c2, 256, .inl (fun _ => 0))), (q3, .inr (3, [.ref q4, .int 0])), (q4, .inl (c4, 2048, .inr (.inl (fun _ => 0)))), (q5, .inr (4, [.ref q6, .ref q7, .ref q8, .ref q9, .ref q10, .int 0, .int 0, .int 0])), (q6, .inl (c6, 512, .inl (fun _ => 0))), (q7, .inl (c7, 4096, .inl (fun _ => 0))), (q8, .inl (c8, 16, .inl (fun _ => 0))), (q9, .inl (c9, 16, .inl (fun _ => 0))), (q10, .inl (c10, 16, .inl (fun _ => 0)))] t.heap ∧ va_K (dC, dI) vwCl [(c1, .int), (c2, .byte), (c4, .long), (c6, .int), (c7, .byte), (c8, .int), (c9, .int), (c10, .int)] t ∧ va_D (va_A [(h0, .inr (2, [.null, .null, .null, .null, .null, .int 0, .int 0]))] sz) [(h0, .inr (2, [.ref a1, .ref q1, .ref q2, .ref q3, .ref q5, .int 0, .int 16])), (q1, .inl (c1, 32, .inl (fun _ => 0))), (q2, .inl (c2, 256, .inl (fun _ => 0))), (q3, .inr (3, [.ref q4, .int 0])), (q4, .inl (c4, 2048, .inr (.inl (fun _ => 0)))), (q5, .inr (4, [.ref q6, .ref q7, .ref q8, .ref q9, .ref q10, .int 0, .int 0, .int 0])), (q6, .inl (c6, 512, .inl (fun _ => 0))), (q7, .inl (c7, 4096, .inl (fun _ => 0))), (q8, .inl (c8, 16, .inl (fun _ => 0))), (q9, .inl (c9, 16, .inl (fun _ => 0))), (q10, .inl (c10, 16, .inl (fun _ => 0)))]) (va_A [(h0, .inr (2, [.null, .null, .null, .null, .null, .int 0, .int 0]))] sz)) 10 7002 (va_A [(h0, .inr (2, [.null, .null, .null, .null, .null, .int 0, .int 0]))] sz) := by
  refine Met.ofW (cc := prog_7_method_1_code) (maxL := 2) (ret := none) (by decide) rfl ?_
  intro p e s m args below meth c s₁ B hml hv
  obtain ⟨rfl, hsz, hT, hP, hK, hD0⟩ := hv
  have hx := B.exec
  have hb := B.bytes
  have hr := B.returns
  have hown : s.vm.findClass "GuessFences$Machine" = some m.cls := findClass_of_methodNamed B.named
  have hlocks := B.notSynchronized
  have hin : meth.name = "<init>" := (name_of_methodNamed B.named B.method).1
  subst hsz
  generalize hargs : ([.ref h0, .ref a1] : List Value).toArray = args
  have hD := hD0.self (sz := s.heap.size)
  generalize hAe : va_A [(h0, .inr (2, [.null, .null, .null, .null, .null, .int 0, .int 0]))] s.heap.size = A at hD ⊢
  have hA : ∀ q : Nat, s.heap.size ≤ q → A q := fun q h => by rw [← hAe]; exact Or.inr h
  have hS : va_S A s.heap s.heap [] := va_S.rf
  have hts := gc_hts hT args
  rw [← hargs]
  have hl := lv_entry ([.ref h0, .ref a1]) (n := 2) (Nat.le_of_ble_eq_true rfl)
  rw [lg_entry_eq]
  generalize (lg_sl ([.ref h0, .ref a1]) ++ List.replicate (2 - (lg_sl ([.ref h0, .ref a1])).length) Slot.unset).toArray = ls at hl ⊢
  rw [hargs]
  have hl : lv_has ls 2 [(0, .ref h0), (1, .ref a1)] := hl
  refine lv_aload_n hx hb (show decode prog_7_method_1_code 0 = .ok (.aload_n 0, 1) from by decide +kernel) rfl (lv_at hl 0 rfl) ?_
  refine W.objInit hx hb hown (hts (.methodLink "GuessFences$Machine" 3 objectInit) (gv_i1 97 rfl rfl)) (hts (.instanceMethod objectInit) (gv_i1 38 rfl rfl)) (hts (.code objectInit ⟨#[0xb1]⟩ 1 none) (gv_i1 39 rfl rfl)) rfl (by rw [hml]; exact hl.1) rfl (show decode prog_7_method_1_code 1 = .ok (.invokespecial 3, 3) from by decide +kernel) (Nat.le_of_ble_eq_true rfl) (Nat.le_of_ble_eq_true rfl) ?_
  refine W.eq (g2 := F0 m 4 ls []) rfl ?_
  refine lv_aload_n hx hb (show decode prog_7_method_1_code 4 = .ok (.aload_n 0, 1) from by decide +kernel) rfl (lv_at hl 0 rfl) ?_
  refine lv_bipush (n := 32) (v := 32) hx hb (by decide +kernel) (by decide) ?_
  refine va_newa (atype := .int) (ty := .int) (a0 := (32, .inl (fun _ => 0))) hx hb (gc_arr hT args (ty := .int) (by simp)) rfl hK hP hD hS hA (fun _ => rfl) (by decide) (N' := 32) (by decide) (by decide) (Nat.le_of_ble_eq_true rfl) (Nat.le_of_ble_eq_true rfl) (show decode prog_7_method_1_code 7 = .ok (.newarray .int, 2) from by decide +kernel) (fun q1 c1 H hK hP hD hS => ?_)
  have hP : va_P (dC, dI) vwCl [(h0, .inr (2, [.null, .null, .null, .null, .null, .int 0, .int 0])), (q1, .inl (c1, 32, .inl (fun _ => 0)))] H := hP
  have hD : va_D A [(h0, .inr (2, [.null, .null, .null, .null, .null, .int 0, .int 0])), (q1, .inl (c1, 32, .inl (fun _ => 0)))] := hD
  have hK : va_K (dC, dI) vwCl [(c1, .int)] s := hK
  refine W.widen (k := 1) (n := 32) (Nat.le_refl _) (Nat.le_refl _) ?_
  refine va_putF (D := (dC, dI)) (ci := 2) (v := .ref q1) (ty := .array .int) (C := "GuessFences$Machine") (T := gf_T2) (N := 7) hx hb hts lays_2 gf_y2 gf_ty2 gf_nm2 hown hK hP hD hS 0 rfl rfl 1 (by decide) (hts (.fieldLink "GuessFences$Machine" 9 "GuessFences$Machine" "registers" "[I") (gv_i1 148 rfl rfl)) (fun _ h9 => h9) rfl hin rfl (by decide +kernel) rfl rfl (Nat.le_of_ble_eq_true rfl) (by decide +kernel) (fun H locs hP hD hS => ?_)
  have hP : va_P (dC, dI) vwCl [(h0, .inr (2, [.null, .ref q1, .null, .null, .null, .int 0, .int 0])), (q1, .inl (c1, 32, .inl (fun _ => 0)))] H := hP
  have hD : va_D A [(h0, .inr (2, [.null, .ref q1, .null, .null, .null, .int 0, .int 0])), (q1, .inl (c1, 32, .inl (fun _ => 0)))] := hD
  refine lv_aload_n hx hb (show decode prog_7_method_1_code 12 = .ok (.aload_n 0, 1) from by decide +kernel) rfl (lv_at hl 0 rfl) ?_
  refine lv_sipush (n := 256) (v := 256) hx hb (by decide +kernel) (by decide) ?_
  refine va_newa (atype := .byte) (ty := .byte) (a0 := (256, .inl (fun _ => 0))) hx hb (gc_arr hT args (ty := .byte) (by simp)) rfl hK hP hD hS hA (fun _ => rfl) (by decide) (N' := 256) (by decide) (by decide) (Nat.le_of_ble_eq_true rfl) (Nat.le_of_ble_eq_true rfl) (show decode prog_7_method_1_code 16 = .ok (.newarray .byte, 2) from by decide +kernel) (fun q2 c2 H hK hP hD hS => ?_)
  have hP : va_P (dC, dI) vwCl [(h0, .inr (2, [.null, .ref q1, .null, .null, .null, .int 0, .int 0])), (q1, .inl (c1, 32, .inl (fun _ => 0))), (q2, .inl (c2, 256, .inl (fun _ => 0)))] H := hP
  have hD : va_D A [(h0, .inr (2, [.null, .ref q1, .null, .null, .null, .int 0, .int 0])), (q1, .inl (c1, 32, .inl (fun _ => 0))), (q2, .inl (c2, 256, .inl (fun _ => 0)))] := hD
  have hK : va_K (dC, dI) vwCl [(c1, .int), (c2, .byte)] s := hK
  refine W.widen (k := 2) (n := 288) (Nat.le_refl _) (Nat.le_refl _) ?_
  refine va_putF (D := (dC, dI)) (ci := 2) (v := .ref q2) (ty := .array .byte) (C := "GuessFences$Machine") (T := gf_T2) (N := 7) hx hb hts lays_2 gf_y2 gf_ty2 gf_nm2 hown hK hP hD hS 0 rfl rfl 2 (by decide) (hts (.fieldLink "GuessFences$Machine" 15 "GuessFences$Machine" "memory" "[B") (gv_i1 149 rfl rfl)) (fun _ h9 => h9) rfl hin rfl (by decide +kernel) rfl rfl (Nat.le_of_ble_eq_true rfl) (by decide +kernel) (fun H locs hP hD hS => ?_)
  have hP : va_P (dC, dI) vwCl [(h0, .inr (2, [.null, .ref q1, .ref q2, .null, .null, .int 0, .int 0])), (q1, .inl (c1, 32, .inl (fun _ => 0))), (q2, .inl (c2, 256, .inl (fun _ => 0)))] H := hP
  have hD : va_D A [(h0, .inr (2, [.null, .ref q1, .ref q2, .null, .null, .int 0, .int 0])), (q1, .inl (c1, 32, .inl (fun _ => 0))), (q2, .inl (c2, 256, .inl (fun _ => 0)))] := hD
  refine lv_aload_n hx hb (show decode prog_7_method_1_code 21 = .ok (.aload_n 0, 1) from by decide +kernel) rfl (lv_at hl 0 rfl) ?_
  refine va_new (ci := 3) (fs := [.null, .int 0]) (C := "GuessFences$Leaks") (T := gf_T3) (N := 2) hx hb hts lays_3 gf_y3 gf_ty3 hown (hts (.classLink "GuessFences$Machine" 19 "GuessFences$Leaks") (gv_i1 98 rfl rfl)) (hts (.instantiable "GuessFences$Leaks" 2) (gv_i1 99 rfl rfl)) (hts (.initialized "GuessFences$Leaks") (gv_i1 4 rfl rfl)) hK hP hD hS hA rfl (by decide +kernel) (Nat.le_of_ble_eq_true rfl) (Nat.le_of_ble_eq_true rfl) (by decide +kernel) (fun q3 H hP hD hS => ?_)
  have hP : va_P (dC, dI) vwCl [(h0, .inr (2, [.null, .ref q1, .ref q2, .null, .null, .int 0, .int 0])), (q1, .inl (c1, 32, .inl (fun _ => 0))), (q2, .inl (c2, 256, .inl (fun _ => 0))), (q3, .inr (3, [.null, .int 0]))] H := hP
  have hD : va_D A [(h0, .inr (2, [.null, .ref q1, .ref q2, .null, .null, .int 0, .int 0])), (q1, .inl (c1, 32, .inl (fun _ => 0))), (q2, .inl (c2, 256, .inl (fun _ => 0))), (q3, .inr (3, [.null, .int 0]))] := hD
  refine W.widen (k := 3) (n := 290) (Nat.le_refl _) (Nat.le_refl _) ?_
  refine lv_dup hx hb (by decide +kernel) rfl ?_
  have hPc := hP.sub (ws' := [(q3, .inr (3, [.null, .int 0]))]) [3] rfl
  have hDc := hD.sub (ws' := [(q3, .inr (3, [.null, .int 0]))]) [3] (by decide) rfl
  have hKc := hK.sub (tys' := []) [] rfl
  have hFc := va_free (wc := [(q3, .inr (3, [.null, .int 0]))]) hD hS hA [3] rfl
  refine va_callv (gc_run (As := []) (rest := [.ref q3, .ref h0]) ⟨hx, hb, hml, hown, fun _ h => by cases h⟩ (k_Leaks_init l dC dI q3 H.size) hT (gv_i1 102 rfl rfl) (gv_i1 4 rfl rfl) (gv_i1 101 rfl rfl) (Or.inr ⟨_, gv_i1 100 rfl rfl⟩) (by decide) (show (parseMethodDescriptor "()V").map (fun d => d.parameters.length) = some 0 from by decide +kernel) hPc hKc hDc rfl hl.1 rfl (Nat.le_of_ble_eq_true rfl) (by decide +kernel) ⟨(Nat.le_of_ble_eq_true rfl), (Nat.le_of_ble_eq_true rfl)⟩ ⟨(Nat.le_of_ble_eq_true rfl), (Nat.le_of_ble_eq_true rfl)⟩) hS (fun q _ h => hFc q h) hFc (fun u t H1 locs ht hvm _ hB hz1 hk1 hS => ?_)
  obtain ⟨q4, c4, hP1, hK1, hD1⟩ := hB
  rw [ht] at hP1
  have hK1 := va_K.moved hvm.symm hK1
  obtain ⟨hP, hD⟩ := va_join (wr := [(h0, .inr (2, [.null, .ref q1, .ref q2, .null, .null, .int 0, .int 0])), (q1, .inl (c1, 32, .inl (fun _ => 0))), (q2, .inl (c2, 256, .inl (fun _ => 0)))]) (w1 := [(q3, .inr (3, [.ref q4, .int 0])), (q4, .inl (c4, 2048, .inr (.inl (fun _ => 0))))]) hP hD [3] [0, 1, 2] rfl rfl (by decide) (by decide) hk1 hFc hP1 hD1
  have hK := hK.app hK1
  generalize H1 = H at hP hS ⊢
  have hP : va_P (dC, dI) vwCl [(h0, .inr (2, [.null, .ref q1, .ref q2, .null, .null, .int 0, .int 0])), (q1, .inl (c1, 32, .inl (fun _ => 0))), (q2, .inl (c2, 256, .inl (fun _ => 0))), (q3, .inr (3, [.ref q4, .int 0])), (q4, .inl (c4, 2048, .inr (.inl (fun _ => 0))))] H := hP
  have hD : va_D A [(h0, .inr (2, [.null, .ref q1, .ref q2, .null, .null, .int 0, .int 0])), (q1, .inl (c1, 32, .inl (fun _ => 0))), (q2, .inl (c2, 256, .inl (fun _ => 0))), (q3, .inr (3, [.ref q4, .int 0])), (q4, .inl (c4, 2048, .inr (.inl (fun _ => 0))))] := hD
  have hK : va_K (dC, dI) vwCl [(c1, .int), (c2, .byte), (c4, .long)] s := hK
  refine W.widen (k := 4) (n := 2338) (Nat.le_refl _) (Nat.le_refl _) ?_
  refine va_putF (D := (dC, dI)) (ci := 2) (v := .ref q3) (ty := .object "GuessFences$Leaks") (C := "GuessFences$Machine") (T := gf_T2) (N := 7) hx hb hts lays_2 gf_y2 gf_ty2 gf_nm2 hown hK hP hD hS 0 rfl rfl 3 (by decide) (hts (.fieldLink "GuessFences$Machine" 22 "GuessFences$Machine" "leaks" "LGuessFences$Leaks;") (gv_i1 150 rfl rfl)) (fun _ h9 => h9) rfl hin rfl (by decide +kernel) rfl rfl (Nat.le_of_ble_eq_true rfl) (by decide +kernel) (fun H locs hP hD hS => ?_)
  have hP : va_P (dC, dI) vwCl [(h0, .inr (2, [.null, .ref q1, .ref q2, .ref q3, .null, .int 0, .int 0])), (q1, .inl (c1, 32, .inl (fun _ => 0))), (q2, .inl (c2, 256, .inl (fun _ => 0))), (q3, .inr (3, [.ref q4, .int 0])), (q4, .inl (c4, 2048, .inr (.inl (fun _ => 0))))] H := hP
  have hD : va_D A [(h0, .inr (2, [.null, .ref q1, .ref q2, .ref q3, .null, .int 0, .int 0])), (q1, .inl (c1, 32, .inl (fun _ => 0))), (q2, .inl (c2, 256, .inl (fun _ => 0))), (q3, .inr (3, [.ref q4, .int 0])), (q4, .inl (c4, 2048, .inr (.inl (fun _ => 0))))] := hD
  refine lv_aload_n hx hb (show decode prog_7_method_1_code 32 = .ok (.aload_n 0, 1) from by decide +kernel) rfl (lv_at hl 0 rfl) ?_
  refine va_new (ci := 4) (fs := [.null, .null, .null, .null, .null, .int 0, .int 0, .int 0]) (C := "GuessFences$Guesses") (T := gf_T4) (N := 8) hx hb hts lays_4 gf_y4 gf_ty4 hown (hts (.classLink "GuessFences$Machine" 26 "GuessFences$Guesses") (gv_i1 114 rfl rfl)) (hts (.instantiable "GuessFences$Guesses" 8) (gv_i1 115 rfl rfl)) (hts (.initialized "GuessFences$Guesses") (gv_i1 5 rfl rfl)) hK hP hD hS hA rfl (by decide +kernel) (Nat.le_of_ble_eq_true rfl) (Nat.le_of_ble_eq_true rfl) (by decide +kernel) (fun q5 H hP hD hS => ?_)
  have hP : va_P (dC, dI) vwCl [(h0, .inr (2, [.null, .ref q1, .ref q2, .ref q3, .null, .int 0, .int 0])), (q1, .inl (c1, 32, .inl (fun _ => 0))), (q2, .inl (c2, 256, .inl (fun _ => 0))), (q3, .inr (3, [.ref q4, .int 0])), (q4, .inl (c4, 2048, .inr (.inl (fun _ => 0)))), (q5, .inr (4, [.null, .null, .null, .null, .null, .int 0, .int 0, .int 0]))] H := hP
  have hD : va_D A [(h0, .inr (2, [.null, .ref q1, .ref q2, .ref q3, .null, .int 0, .int 0])), (q1, .inl (c1, 32, .inl (fun _ => 0))), (q2, .inl (c2, 256, .inl (fun _ => 0))), (q3, .inr (3, [.ref q4, .int 0])), (q4, .inl (c4, 2048, .inr (.inl (fun _ => 0)))), (q5, .inr (4, [.null, .null, .null, .null, .null, .int 0, .int 0, .int 0]))] := hD
  refine W.widen (k := 5) (n := 2346) (Nat.le_refl _) (Nat.le_refl _) ?_
  refine lv_dup hx hb (by decide +kernel) rfl ?_
  have hPc := hP.sub (ws' := [(q5, .inr (4, [.null, .null, .null, .null, .null, .int 0, .int 0, .int 0]))]) [5] rfl
  have hDc := hD.sub (ws' := [(q5, .inr (4, [.null, .null, .null, .null, .null, .int 0, .int 0, .int 0]))]) [5] (by decide) rfl
  have hKc := hK.sub (tys' := []) [] rfl
  have hFc := va_free (wc := [(q5, .inr (4, [.null, .null, .null, .null, .null, .int 0, .int 0, .int 0]))]) hD hS hA [5] rfl
  refine va_callv (gc_run (As := []) (rest := [.ref q5, .ref h0]) ⟨hx, hb, hml, hown, fun _ h => by cases h⟩ (k_Guesses_init l dC dI q5 H.size) hT (gv_i1 118 rfl rfl) (gv_i1 5 rfl rfl) (gv_i1 117 rfl rfl) (Or.inr ⟨_, gv_i1 116 rfl rfl⟩) (by decide) (show (parseMethodDescriptor "()V").map (fun d => d.parameters.length) = some 0 from by decide +kernel) hPc hKc hDc rfl hl.1 rfl (Nat.le_of_ble_eq_true rfl) (by decide +kernel) ⟨(Nat.le_of_ble_eq_true rfl), (Nat.le_of_ble_eq_true rfl)⟩ ⟨(Nat.le_of_ble_eq_true rfl), (Nat.le_of_ble_eq_true rfl)⟩) hS (fun q _ h => hFc q h) hFc (fun u t H1 locs ht hvm _ hB hz1 hk1 hS => ?_)
  obtain ⟨q6, q7, q8, q9, q10, c6, c7, c8, c9, c10, hP1, hK1, hD1⟩ := hB
  rw [ht] at hP1
  have hK1 := va_K.moved hvm.symm hK1
  obtain ⟨hP, hD⟩ := va_join (wr := [(h0, .inr (2, [.null, .ref q1, .ref q2, .ref q3, .null, .int 0, .int 0])), (q1, .inl (c1, 32, .inl (fun _ => 0))), (q2, .inl (c2, 256, .inl (fun _ => 0))), (q3, .inr (3, [.ref q4, .int 0])), (q4, .inl (c4, 2048, .inr (.inl (fun _ => 0))))]) (w1 := [(q5, .inr (4, [.ref q6, .ref q7, .ref q8, .ref q9, .ref q10, .int 0, .int 0, .int 0])), (q6, .inl (c6, 512, .inl (fun _ => 0))), (q7, .inl (c7, 4096, .inl (fun _ => 0))), (q8, .inl (c8, 16, .inl (fun _ => 0))), (q9, .inl (c9, 16, .inl (fun _ => 0))), (q10, .inl (c10, 16, .inl (fun _ => 0)))]) hP hD [5] [0, 1, 2, 3, 4] rfl rfl (by decide) (by decide) hk1 hFc hP1 hD1
  have hK := hK.app hK1
  generalize H1 = H at hP hS ⊢
  have hP : va_P (dC, dI) vwCl [(h0, .inr (2, [.null, .ref q1, .ref q2, .ref q3, .null, .int 0, .int 0])), (q1, .inl (c1, 32, .inl (fun _ => 0))), (q2, .inl (c2, 256, .inl (fun _ => 0))), (q3, .inr (3, [.ref q4, .int 0])), (q4, .inl (c4, 2048, .inr (.inl (fun _ => 0)))), (q5, .inr (4, [.ref q6, .ref q7, .ref q8, .ref q9, .ref q10, .int 0, .int 0, .int 0])), (q6, .inl (c6, 512, .inl (fun _ => 0))), (q7, .inl (c7, 4096, .inl (fun _ => 0))), (q8, .inl (c8, 16, .inl (fun _ => 0))), (q9, .inl (c9, 16, .inl (fun _ => 0))), (q10, .inl (c10, 16, .inl (fun _ => 0)))] H := hP
  have hD : va_D A [(h0, .inr (2, [.null, .ref q1, .ref q2, .ref q3, .null, .int 0, .int 0])), (q1, .inl (c1, 32, .inl (fun _ => 0))), (q2, .inl (c2, 256, .inl (fun _ => 0))), (q3, .inr (3, [.ref q4, .int 0])), (q4, .inl (c4, 2048, .inr (.inl (fun _ => 0)))), (q5, .inr (4, [.ref q6, .ref q7, .ref q8, .ref q9, .ref q10, .int 0, .int 0, .int 0])), (q6, .inl (c6, 512, .inl (fun _ => 0))), (q7, .inl (c7, 4096, .inl (fun _ => 0))), (q8, .inl (c8, 16, .inl (fun _ => 0))), (q9, .inl (c9, 16, .inl (fun _ => 0))), (q10, .inl (c10, 16, .inl (fun _ => 0)))] := hD
  have hK : va_K (dC, dI) vwCl [(c1, .int), (c2, .byte), (c4, .long), (c6, .int), (c7, .byte), (c8, .int), (c9, .int), (c10, .int)] s := hK
  refine W.widen (k := 10) (n := 7002) (Nat.le_refl _) (Nat.le_refl _) ?_
  refine va_putF (D := (dC, dI)) (ci := 2) (v := .ref q5) (ty := .object "GuessFences$Guesses") (C := "GuessFences$Machine") (T := gf_T2) (N := 7) hx hb hts lays_2 gf_y2 gf_ty2 gf_nm2 hown hK hP hD hS 0 rfl rfl 4 (by decide) (hts (.fieldLink "GuessFences$Machine" 29 "GuessFences$Machine" "guesses" "LGuessFences$Guesses;") (gv_i1 152 rfl rfl)) (fun _ h9 => h9) rfl hin rfl (by decide +kernel) rfl rfl (Nat.le_of_ble_eq_true rfl) (by decide +kernel) (fun H locs hP hD hS => ?_)
  have hP : va_P (dC, dI) vwCl [(h0, .inr (2, [.null, .ref q1, .ref q2, .ref q3, .ref q5, .int 0, .int 0])), (q1, .inl (c1, 32, .inl (fun _ => 0))), (q2, .inl (c2, 256, .inl (fun _ => 0))), (q3, .inr (3, [.ref q4, .int 0])), (q4, .inl (c4, 2048, .inr (.inl (fun _ => 0)))), (q5, .inr (4, [.ref q6, .ref q7, .ref q8, .ref q9, .ref q10, .int 0, .int 0, .int 0])), (q6, .inl (c6, 512, .inl (fun _ => 0))), (q7, .inl (c7, 4096, .inl (fun _ => 0))), (q8, .inl (c8, 16, .inl (fun _ => 0))), (q9, .inl (c9, 16, .inl (fun _ => 0))), (q10, .inl (c10, 16, .inl (fun _ => 0)))] H := hP
  have hD : va_D A [(h0, .inr (2, [.null, .ref q1, .ref q2, .ref q3, .ref q5, .int 0, .int 0])), (q1, .inl (c1, 32, .inl (fun _ => 0))), (q2, .inl (c2, 256, .inl (fun _ => 0))), (q3, .inr (3, [.ref q4, .int 0])), (q4, .inl (c4, 2048, .inr (.inl (fun _ => 0)))), (q5, .inr (4, [.ref q6, .ref q7, .ref q8, .ref q9, .ref q10, .int 0, .int 0, .int 0])), (q6, .inl (c6, 512, .inl (fun _ => 0))), (q7, .inl (c7, 4096, .inl (fun _ => 0))), (q8, .inl (c8, 16, .inl (fun _ => 0))), (q9, .inl (c9, 16, .inl (fun _ => 0))), (q10, .inl (c10, 16, .inl (fun _ => 0)))] := hD
  refine lv_aload_n hx hb (show decode prog_7_method_1_code 43 = .ok (.aload_n 0, 1) from by decide +kernel) rfl (lv_at hl 0 rfl) ?_
  refine lv_iconst (n := 0) (v := 0) hx hb (by decide +kernel) (by decide) ?_
  refine va_put (D := (dC, dI)) (ci := 2) (v := .int 0) (ty := .int) (C := "GuessFences$Machine") (T := gf_T2) (N := 7) hx hb hts lays_2 gf_y2 gf_ty2 gf_nm2 hown hK hP hD hS 0 rfl rfl 5 (by decide) (hts (.fieldLink "GuessFences$Machine" 33 "GuessFences$Machine" "place" "I") (gv_i1 154 rfl rfl)) (fun _ h9 => h9) rfl (by decide +kernel) rfl rfl (Nat.le_of_ble_eq_true rfl) (by decide +kernel) (fun H locs hP hD hS => ?_)
  have hP : va_P (dC, dI) vwCl [(h0, .inr (2, [.null, .ref q1, .ref q2, .ref q3, .ref q5, .int 0, .int 0])), (q1, .inl (c1, 32, .inl (fun _ => 0))), (q2, .inl (c2, 256, .inl (fun _ => 0))), (q3, .inr (3, [.ref q4, .int 0])), (q4, .inl (c4, 2048, .inr (.inl (fun _ => 0)))), (q5, .inr (4, [.ref q6, .ref q7, .ref q8, .ref q9, .ref q10, .int 0, .int 0, .int 0])), (q6, .inl (c6, 512, .inl (fun _ => 0))), (q7, .inl (c7, 4096, .inl (fun _ => 0))), (q8, .inl (c8, 16, .inl (fun _ => 0))), (q9, .inl (c9, 16, .inl (fun _ => 0))), (q10, .inl (c10, 16, .inl (fun _ => 0)))] H := hP
  have hD : va_D A [(h0, .inr (2, [.null, .ref q1, .ref q2, .ref q3, .ref q5, .int 0, .int 0])), (q1, .inl (c1, 32, .inl (fun _ => 0))), (q2, .inl (c2, 256, .inl (fun _ => 0))), (q3, .inr (3, [.ref q4, .int 0])), (q4, .inl (c4, 2048, .inr (.inl (fun _ => 0)))), (q5, .inr (4, [.ref q6, .ref q7, .ref q8, .ref q9, .ref q10, .int 0, .int 0, .int 0])), (q6, .inl (c6, 512, .inl (fun _ => 0))), (q7, .inl (c7, 4096, .inl (fun _ => 0))), (q8, .inl (c8, 16, .inl (fun _ => 0))), (q9, .inl (c9, 16, .inl (fun _ => 0))), (q10, .inl (c10, 16, .inl (fun _ => 0)))] := hD
  refine lv_aload_n hx hb (show decode prog_7_method_1_code 48 = .ok (.aload_n 0, 1) from by decide +kernel) rfl (lv_at hl 0 rfl) ?_
  refine lv_bipush (n := 16) (v := 16) hx hb (by decide +kernel) (by decide) ?_
  refine va_put (D := (dC, dI)) (ci := 2) (v := .int 16) (ty := .int) (C := "GuessFences$Machine") (T := gf_T2) (N := 7) hx hb hts lays_2 gf_y2 gf_ty2 gf_nm2 hown hK hP hD hS 0 rfl rfl 6 (by decide) (hts (.fieldLink "GuessFences$Machine" 37 "GuessFences$Machine" "window" "I") (gv_i1 155 rfl rfl)) (fun _ h9 => h9) rfl (by decide +kernel) rfl rfl (Nat.le_of_ble_eq_true rfl) (by decide +kernel) (fun H locs hP hD hS => ?_)
  have hP : va_P (dC, dI) vwCl [(h0, .inr (2, [.null, .ref q1, .ref q2, .ref q3, .ref q5, .int 0, .int 16])), (q1, .inl (c1, 32, .inl (fun _ => 0))), (q2, .inl (c2, 256, .inl (fun _ => 0))), (q3, .inr (3, [.ref q4, .int 0])), (q4, .inl (c4, 2048, .inr (.inl (fun _ => 0)))), (q5, .inr (4, [.ref q6, .ref q7, .ref q8, .ref q9, .ref q10, .int 0, .int 0, .int 0])), (q6, .inl (c6, 512, .inl (fun _ => 0))), (q7, .inl (c7, 4096, .inl (fun _ => 0))), (q8, .inl (c8, 16, .inl (fun _ => 0))), (q9, .inl (c9, 16, .inl (fun _ => 0))), (q10, .inl (c10, 16, .inl (fun _ => 0)))] H := hP
  have hD : va_D A [(h0, .inr (2, [.null, .ref q1, .ref q2, .ref q3, .ref q5, .int 0, .int 16])), (q1, .inl (c1, 32, .inl (fun _ => 0))), (q2, .inl (c2, 256, .inl (fun _ => 0))), (q3, .inr (3, [.ref q4, .int 0])), (q4, .inl (c4, 2048, .inr (.inl (fun _ => 0)))), (q5, .inr (4, [.ref q6, .ref q7, .ref q8, .ref q9, .ref q10, .int 0, .int 0, .int 0])), (q6, .inl (c6, 512, .inl (fun _ => 0))), (q7, .inl (c7, 4096, .inl (fun _ => 0))), (q8, .inl (c8, 16, .inl (fun _ => 0))), (q9, .inl (c9, 16, .inl (fun _ => 0))), (q10, .inl (c10, 16, .inl (fun _ => 0)))] := hD
  refine lv_aload_n hx hb (show decode prog_7_method_1_code 54 = .ok (.aload_n 0, 1) from by decide +kernel) rfl (lv_at hl 0 rfl) ?_
  refine lv_aload_n hx hb (show decode prog_7_method_1_code 55 = .ok (.aload_n 1, 1) from by decide +kernel) rfl (lv_at hl 1 rfl) ?_
  refine va_putF (D := (dC, dI)) (ci := 2) (v := .ref a1) (ty := .object "GuessFences$Listing") (C := "GuessFences$Machine") (T := gf_T2) (N := 7) hx hb hts lays_2 gf_y2 gf_ty2 gf_nm2 hown hK hP hD hS 0 rfl rfl 0 (by decide) (hts (.fieldLink "GuessFences$Machine" 40 "GuessFences$Machine" "listing" "LGuessFences$Listing;") (gv_i1 147 rfl rfl)) (fun _ h9 => h9) rfl hin rfl (by decide +kernel) rfl rfl (Nat.le_of_ble_eq_true rfl) (by decide +kernel) (fun H locs hP hD hS => ?_)
  have hP : va_P (dC, dI) vwCl [(h0, .inr (2, [.ref a1, .ref q1, .ref q2, .ref q3, .ref q5, .int 0, .int 16])), (q1, .inl (c1, 32, .inl (fun _ => 0))), (q2, .inl (c2, 256, .inl (fun _ => 0))), (q3, .inr (3, [.ref q4, .int 0])), (q4, .inl (c4, 2048, .inr (.inl (fun _ => 0)))), (q5, .inr (4, [.ref q6, .ref q7, .ref q8, .ref q9, .ref q10, .int 0, .int 0, .int 0])), (q6, .inl (c6, 512, .inl (fun _ => 0))), (q7, .inl (c7, 4096, .inl (fun _ => 0))), (q8, .inl (c8, 16, .inl (fun _ => 0))), (q9, .inl (c9, 16, .inl (fun _ => 0))), (q10, .inl (c10, 16, .inl (fun _ => 0)))] H := hP
  have hD : va_D A [(h0, .inr (2, [.ref a1, .ref q1, .ref q2, .ref q3, .ref q5, .int 0, .int 16])), (q1, .inl (c1, 32, .inl (fun _ => 0))), (q2, .inl (c2, 256, .inl (fun _ => 0))), (q3, .inr (3, [.ref q4, .int 0])), (q4, .inl (c4, 2048, .inr (.inl (fun _ => 0)))), (q5, .inr (4, [.ref q6, .ref q7, .ref q8, .ref q9, .ref q10, .int 0, .int 0, .int 0])), (q6, .inl (c6, 512, .inl (fun _ => 0))), (q7, .inl (c7, 4096, .inl (fun _ => 0))), (q8, .inl (c8, 16, .inl (fun _ => 0))), (q9, .inl (c9, 16, .inl (fun _ => 0))), (q10, .inl (c10, 16, .inl (fun _ => 0)))] := hD
  exact W.vret hx hb hr (fun t ht hW => ⟨⟨(), rfl, trivial, q1, q2, q3, q4, q5, q6, q7, q8, q9, q10, c1, c2, c4, c6, c7, c8, c9, c10, by rw [ht]; exact hP, va_K.moved hW.alike hK, hD⟩, hS.F ht⟩) hS.2.2 (by decide +kernel)
