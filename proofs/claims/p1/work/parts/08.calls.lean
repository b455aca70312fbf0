theorem gv_cwn {μ : gM} {args : Array Value} {s : State} (h : (gv_cw μ).before args s = true) : ∃ m, s.methodNamed? μ.y = some m := by
  obtain ⟨y, cc, nL, rt, hh, F, c0⟩ := μ
  cases hh with
  | nil => exact Cond.code_named h
  | cons a t =>
    obtain ⟨m9, meth, c, hn9, -⟩ := Cond.codeWith_spec h
    exact ⟨m9, hn9⟩
theorem gv_out {μ : gM} {p : Program} {l : Launch} {R : Room} {s : State} {m : MethodId} {meth : Method} {c : Code} {D : va_G} {cA : FieldType → ClassId} {ad : Nat → Nat} (hC : gv_C μ p l R s m meth c D cA ad) {pc : Nat} (hno : μ.hh.all (fun h => !(decide (h.1 ≤ pc) && decide (pc < h.2.1))) = true) : ∀ x ∈ c.exceptionTable.toList, covers x pc = false := by
  intro x hx
  have h1 : (x.startPc, x.endPc, x.handlerPc, x.catchType) ∈ μ.hh := by
    rw [← hC.1.2.2.2.2.2.2.1]
    exact List.mem_map.mpr ⟨x, hx, rfl⟩
  have h2 := List.all_eq_true.mp hno _ h1
  simp at h2
  simp [covers]
  omega
def gv_lkm (μ μ' : gM) (idx : Nat) : Prop := Cond.methodLink μ.y.cls idx μ'.y ∈ gv_ws ∨ ∃ host, Cond.methodLinkNest μ.y.cls idx μ'.y host ∈ gv_ws
def gv_csS (μ μ' : gM) (idx n : Nat) : Prop := gv_ok μ μ' ∧ gv_lkm μ μ' idx ∧ Cond.static μ'.y ∈ gv_ws ∧ (μ'.y.cls ≠ "java/lang/invoke/MethodHandle" ∧ μ'.y.cls ≠ "java/lang/invoke/VarHandle") ∧ (parseMethodDescriptor μ'.y.desc).map (fun d => d.parameters.length) = some n
def gv_csV (μ μ' : gM) (idx n : Nat) : Prop := gv_ok μ μ' ∧ gv_lkm μ μ' idx ∧ (Cond.instanceMethod μ'.y ∈ gv_ws ∧ Cond.selects μ'.y.cls μ'.y μ'.y ∈ gv_ws) ∧ (μ'.y.cls ≠ "java/lang/invoke/MethodHandle" ∧ μ'.y.cls ≠ "java/lang/invoke/VarHandle") ∧ (parseMethodDescriptor μ'.y.desc).map (fun d => d.parameters.length) = some n
theorem gv_cat (ad : Nat → Nat) (st : List Value) : ((st.map (gv_t ad)).map fun v => v.category).sum = (st.map fun v => v.category).sum := by
  rw [List.map_map]
  congr 1
  exact List.map_congr_left fun v _ => gv_tc ad v
set_option maxHeartbeats 1000000 in
theorem gv_goS {μ μ' : gM} {p : Program} {l : Launch} {e : Env} {R : Room} {s : State} {m : MethodId} {args : Array Value} {below : List Frame} {meth : Method} {c : Code} {D : va_G} {cA : FieldType → ClassId} {ad : Nat → Nat} (hC : gv_C μ p l R s m meth c D cA ad) {idx n : Nat} (cs : gv_csS μ μ' idx n) {As st : List Value} (hn : As.length = n) {T : State} {locs : List Loc} {cells slots pc : Nat} {sl : Array Slot} (X : Stand p l e R s m args below meth c T locs cells slots) (hd : decode μ.cc pc = .ok (.invokestatic idx, 3)) :
    ∃ (vm₁ : Vm) (mk : MethodId), Stand p l e R s m args below meth c (T.setVm vm₁) locs cells slots ∧ (T.setVm vm₁).methodNamed? μ'.y = some mk ∧ ∀ target, Steps p.tables e below (doInvoke e ((T.setVm vm₁).setTop (F0 m pc sl (st.map (gv_t ad)))) [] mk (As.map (gv_t ad)).toArray).1 target → Steps p.tables e below (T.setTop (F0 m pc sl ((As.reverse ++ st).map (gv_t ad)))) target := by
  obtain ⟨hok, hlk, hst, hy, hpar⟩ := cs
  have hts := gv_hts hC args
  obtain ⟨mk, hnamed⟩ := gv_cwn (hts _ hok.2.2.2.1)
  obtain ⟨methM, cM, hmethM, -, -, -, -, -, -, hsigM⟩ := gv_cwspec hnamed (hts _ hok.2.2.2.1)
  have hstatic : methM.isStatic = true := Cond.static_spec hnamed hmethM (hts _ hst)
  obtain ⟨kP, hkP, -⟩ := className_of_methodNamed hnamed
  have hinitP : kP.init = .initialized := Cond.initialized_spec (findClass_of_methodNamed hnamed) hkP (hts _ hok.2.2.2.2)
  have hlen : (As.map (gv_t ad)).length = methM.sig.parameters.length := by
    rw [hsigM] at hpar
    rw [List.length_map, hn]
    exact (Option.some.inj hpar).symm
  have hstk : (F0 m pc sl ((As.reverse ++ st).map (gv_t ad))).stack = (As.map (gv_t ad)).reverse ++ st.map (gv_t ad) := by simp
  have hdg : decode c.code (F0 m pc sl ((As.reverse ++ st).map (gv_t ad))).pc = .ok (.invokestatic idx, 3) := by rw [hC.1.2.1]; exact hd
  rcases hlk with hlink | ⟨host, hlink⟩
  · obtain ⟨vm₁, X₁, hstep⟩ := X.invokestatic hC.1.1 hC.1.2.2.2.1 (hts _ hlink) hnamed hmethM hstatic hkP hinitP hy (g := F0 m pc sl ((As.reverse ++ st).map (gv_t ad))) rfl hlen hstk hdg
    exact ⟨vm₁, mk, X₁, X₁.named hnamed, fun target h => hstep target fun acts => by rw [doInvoke_state]; exact h⟩
  · obtain ⟨vm₁, X₁, hstep⟩ := X.invokestaticNest hC.1.1 hC.1.2.2.2.1 (hts _ hlink) hnamed hmethM hstatic hkP hinitP hy (g := F0 m pc sl ((As.reverse ++ st).map (gv_t ad))) rfl hlen hstk hdg
    exact ⟨vm₁, mk, X₁, X₁.named hnamed, fun target h => hstep target fun acts => by rw [doInvoke_state]; exact h⟩
set_option maxHeartbeats 1000000 in
theorem gv_goV {μ μ' : gM} {p : Program} {l : Launch} {e : Env} {R : Room} {s : State} {m : MethodId} {args : Array Value} {below : List Frame} {meth : Method} {c : Code} {D : va_G} {cA : FieldType → ClassId} {ad : Nat → Nat} (hC : gv_C μ p l R s m meth c D cA ad) {idx n : Nat} (cs : gv_csV μ μ' idx n) {As st : List Value} (hn : As.length = n) {σ : gS} {q ci N : Nat} {fs : List (Option Nat)} {T0 : u_T} (hsh : gv_sh[q]? = some (.inr (ci, fs))) (hcl : vwCl[ci]? = some (μ'.y.cls, T0, N))
    {T : State} {locs : List Loc} {cells slots pc : Nat} {sl : Array Slot} (X : Stand p l e R s m args below meth c T locs cells slots) (hP : va_P D vwCl (gv_w cA ad σ) T.heap) (hd : decode μ.cc pc = .ok (.invokevirtual idx, 3)) :
    ∃ (vm₁ : Vm) (mk : MethodId), Stand p l e R s m args below meth c (T.setVm vm₁) locs cells slots ∧ (T.setVm vm₁).methodNamed? μ'.y = some mk ∧ ∀ target, Steps p.tables e below (doInvoke e ((T.setVm vm₁).setTop (F0 m pc sl (st.map (gv_t ad)))) [] mk ((Value.ref q :: As).map (gv_t ad)).toArray).1 target → Steps p.tables e below (T.setTop (F0 m pc sl ((As.reverse ++ .ref q :: st).map (gv_t ad)))) target := by
  obtain ⟨hok, hlk, ⟨hinst, hsel⟩, hy, hpar⟩ := cs
  have hts := gv_hts hC args
  obtain ⟨mk, methM, hnamed, hmethM, hstM, habM⟩ := Cond.instanceMethod_spec (hts _ hinst)
  obtain ⟨methM', cM, hmethM', -, -, -, -, -, -, hsigM⟩ := gv_cwspec hnamed (hts _ hok.2.2.2.1)
  cases hmethM.symm.trans hmethM'
  obtain ⟨cellB, hcell, hobj, hcls⟩ := va_recv (q0 := q) hC.2.2.1 hP hcl (gv_wget σ hsh)
  obtain ⟨c2, r2, m2, q1, q2, q3, q4, kP, hkP, hkPi⟩ := Cond.selects_spec (hts _ hsel)
  cases hcls.symm.trans q1
  cases (State.methodFound?_of_named hnamed hy).symm.trans q2
  cases hnamed.symm.trans q3
  have hselP : selectMethod e.platform s.vm cellB.cls mk = .method mk := by rw [Launch.admits_selectMethod X.admits]; exact q4
  have hlen : (As.map (gv_t ad)).length = methM.sig.parameters.length := by
    rw [hsigM] at hpar
    rw [List.length_map, hn]
    exact (Option.some.inj hpar).symm
  have hstk : (F0 m pc sl ((As.reverse ++ .ref q :: st).map (gv_t ad))).stack = (As.map (gv_t ad)).reverse ++ .ref (ad q) :: st.map (gv_t ad) := by simp [gv_t]
  have hdg : decode c.code (F0 m pc sl ((As.reverse ++ .ref q :: st).map (gv_t ad))).pc = .ok (.invokevirtual idx, 3) := by rw [hC.1.2.1]; exact hd
  rcases hlk with hlink | ⟨host, hlink⟩
  · obtain ⟨vm₁, X₁, hstep⟩ := X.invokevirtual hC.1.1 hC.1.2.2.2.1 (hts _ hlink) hnamed hmethM hstM hkP hkPi hy (a := ad q) (cell := cellB) hcell (fun z h => by rw [h] at hobj; cases hobj) hselP hmethM habM hkP hkPi (g := F0 m pc sl ((As.reverse ++ .ref q :: st).map (gv_t ad))) rfl hlen hstk hdg
    exact ⟨vm₁, mk, X₁, X₁.named hnamed, fun target h => hstep target fun acts => by rw [doInvoke_state]; exact h⟩
  · obtain ⟨vm₁, X₁, hstep⟩ := X.invokevirtualNest hC.1.1 hC.1.2.2.2.1 (hts _ hlink) hnamed hmethM hstM hkP hkPi hy (a := ad q) (cell := cellB) hcell (fun z h => by rw [h] at hobj; cases hobj) hselP hmethM habM hkP hkPi (g := F0 m pc sl ((As.reverse ++ .ref q :: st).map (gv_t ad))) rfl hlen hstk hdg
    exact ⟨vm₁, mk, X₁, X₁.named hnamed, fun target h => hstep target fun acts => by rw [doInvoke_state]; exact h⟩
set_option maxHeartbeats 1000000 in
theorem gv_callS {μ μ' : gM} {k k' pc pc' idx n : Nat} {w w' : Bool} {ls : List (Option Value)} {As st : List Value} {σ : gS} {Q Q' : gQ → gS → Prop} (cs : gv_csS μ μ' idx n) (hV : gv_K μ' As σ Q') (hd : decode μ.cc pc = .ok (.invokestatic idx, 3)) (hn : As.length = n) (hent : (lg_sl As).length ≤ μ'.nL) (hw8 : (st.map fun v => v.category).sum ≤ 8) (hk : 1 ≤ k) (hkk : k' + μ'.c = k) (hw' : w' = true → μ'.pu = true ∧ w = true) (hno : μ.hh.all (fun h => !(decide (h.1 ≤ pc) && decide (pc < h.2.1))) = true) (hp : pc + 3 = pc')
    (ht : ∀ n σ', Q' (.inr n) σ' → Q (.inr n) σ') (h : ∀ v σ', Q' (.inl v) σ' → gv_V μ k' w' pc' ls (v.toList ++ st) σ' Q) : gv_V μ k w pc ls (As.reverse ++ st) σ Q := by
  intro p l e R s m args below meth c D cA ad Z hC hE H locs cells slots sl hw0 hc hs hX hP hS hl T hT X
  subst hp
  subst hT
  obtain ⟨vm₁, mk, X₁, hnm, hstep⟩ := gv_goS hC cs hn (st := st) (sl := sl) X hd
  have hlocks := hC.1.2.2.2.2.2.1
  have hwt : 2 * (F0 m pc sl (st.map (gv_t ad))).monitorRoom + ((F0 m pc sl (st.map (gv_t ad))).stack.map fun v => v.category).sum ≤ 8 := by
    show 2 * 0 + ((st.map (gv_t ad)).map fun v => v.category).sum ≤ 8
    rw [gv_cat]; omega
  rcases gv_back hC hV cs.1 hent hk X₁ hc hs hX hP hS (g := F0 m pc sl (st.map (gv_t ad))) rfl (hl.1.trans hC.1.2.2.1.symm) (by rw [hC.1.2.1]; exact hd) hwt hnm with ⟨v, σ', B, L, hQ, hpu, hSt, hX', hP', hS', hst⟩ | ⟨n9, σ', B, L, a, hQ, hSt, hX', hP', hS', hex, hst⟩
  · obtain ⟨t, a1, b1⟩ := h v σ' hQ p l e R s m args below meth c D cA ad Z hC hE B.heap L (cells + μ'.c) (slots + 6 * μ'.c) sl (fun z => ⟨(hpu (hw' z).1).trans (hw0 (hw' z).2).1, (hw0 (hw' z).2).2⟩) (by omega) (by omega) hX' hP' hS' hl B rfl hSt
    refine ⟨t, hstep _ (hst.trans ?_), b1⟩
    have e9 : (v.toList ++ st).map (gv_t ad) = (v.map (gv_t ad)).toList ++ st.map (gv_t ad) := by cases v <;> rfl
    rw [e9] at a1
    exact a1
  · obtain ⟨w1, w2, w3, w4, w5⟩ := hSt.leaveThrown a (g := F0 m pc sl (st.map (gv_t ad))) rfl rfl rfl (gv_out hC hno)
    exact ⟨_, hstep _ (hst.trans w1), hE.2 n9 σ' _ a L (cells + 1) (slots + 6) (ht n9 σ' hQ) w2 w3 w4 w5 (by omega) (by omega) hX' hP' hS' hex⟩
set_option maxHeartbeats 1000000 in
theorem gv_callV {μ μ' : gM} {k k' pc pc' idx n : Nat} {w w' : Bool} {ls : List (Option Value)} {As st : List Value} {σ : gS} {Q Q' : gQ → gS → Prop} {q ci N : Nat} {fs : List (Option Nat)} {T0 : u_T} (cs : gv_csV μ μ' idx n) (hV : gv_K μ' (.ref q :: As) σ Q') (hd : decode μ.cc pc = .ok (.invokevirtual idx, 3)) (hsh : gv_sh[q]? = some (.inr (ci, fs))) (hcl : vwCl[ci]? = some (μ'.y.cls, T0, N)) (hn : As.length = n) (hent : (lg_sl (.ref q :: As)).length ≤ μ'.nL) (hw8 : (st.map fun v => v.category).sum ≤ 8) (hk : 1 ≤ k) (hkk : k' + μ'.c = k) (hw' : w' = true → μ'.pu = true ∧ w = true) (hno : μ.hh.all (fun h => !(decide (h.1 ≤ pc) && decide (pc < h.2.1))) = true) (hp : pc + 3 = pc')
    (ht : ∀ n σ', Q' (.inr n) σ' → Q (.inr n) σ') (h : ∀ v σ', Q' (.inl v) σ' → gv_V μ k' w' pc' ls (v.toList ++ st) σ' Q) : gv_V μ k w pc ls (As.reverse ++ .ref q :: st) σ Q := by
  intro p l e R s m args below meth c D cA ad Z hC hE H locs cells slots sl hw0 hc hs hX hP hS hl T hT X
  subst hp
  subst hT
  obtain ⟨vm₁, mk, X₁, hnm, hstep⟩ := gv_goV hC cs hn hsh hcl (st := st) (sl := sl) X hP hd
  have hlocks := hC.1.2.2.2.2.2.1
  have hwt : 2 * (F0 m pc sl (st.map (gv_t ad))).monitorRoom + ((F0 m pc sl (st.map (gv_t ad))).stack.map fun v => v.category).sum ≤ 8 := by
    show 2 * 0 + ((st.map (gv_t ad)).map fun v => v.category).sum ≤ 8
    rw [gv_cat]; omega
  rcases gv_back hC hV cs.1 hent hk X₁ hc hs hX hP hS (g := F0 m pc sl (st.map (gv_t ad))) rfl (hl.1.trans hC.1.2.2.1.symm) (by rw [hC.1.2.1]; exact hd) hwt hnm with ⟨v, σ', B, L, hQ, hpu, hSt, hX', hP', hS', hst⟩ | ⟨n9, σ', B, L, a, hQ, hSt, hX', hP', hS', hex, hst⟩
  · obtain ⟨t, a1, b1⟩ := h v σ' hQ p l e R s m args below meth c D cA ad Z hC hE B.heap L (cells + μ'.c) (slots + 6 * μ'.c) sl (fun z => ⟨(hpu (hw' z).1).trans (hw0 (hw' z).2).1, (hw0 (hw' z).2).2⟩) (by omega) (by omega) hX' hP' hS' hl B rfl hSt
    refine ⟨t, hstep _ (hst.trans ?_), b1⟩
    have e9 : (v.toList ++ st).map (gv_t ad) = (v.map (gv_t ad)).toList ++ st.map (gv_t ad) := by cases v <;> rfl
    rw [e9] at a1
    exact a1
  · obtain ⟨w1, w2, w3, w4, w5⟩ := hSt.leaveThrown a (g := F0 m pc sl (st.map (gv_t ad))) rfl rfl rfl (gv_out hC hno)
    exact ⟨_, hstep _ (hst.trans w1), hE.2 n9 σ' _ a L (cells + 1) (slots + 6) (ht n9 σ' hQ) w2 w3 w4 w5 (by omega) (by omega) hX' hP' hS' hex⟩
