def gv_so (x : Slot) : Option Value := match x with
  | .val v => some v
  | _ => none
def gv_ts (ad : Nat → Nat) (x : Slot) : Slot := match x with
  | .val v => .val (gv_t ad v)
  | x => x
def gv_ent (n : Nat) (As : List Value) : List (Option Value) := (lg_sl As ++ List.replicate (n - (lg_sl As).length) Slot.unset).map gv_so
theorem gv_slm (ad : Nat → Nat) (As : List Value) : lg_sl (As.map (gv_t ad)) = (lg_sl As).map (gv_ts ad) := by
  induction As with
  | nil => rfl
  | cons v t ih =>
    simp only [lg_sl, List.map_cons, List.flatMap_cons, List.map_append] at ih ⊢
    rw [ih, gv_tc]
    congr 1
    split <;> rfl
theorem gv_entl (ad : Nat → Nat) (As : List Value) {n : Nat} (h : (lg_sl As).length ≤ n) :
    lv_has ((lg_sl (As.map (gv_t ad)) ++ List.replicate (n - (lg_sl (As.map (gv_t ad))).length) Slot.unset).toArray) n (gv_l ad (gv_ent n As)) := by
  have hlen : (lg_sl (As.map (gv_t ad))).length = (lg_sl As).length := by rw [gv_slm]; simp
  have h0 := lv_entry (As.map (gv_t ad)) (n := n) (by rw [hlen]; exact h)
  refine ⟨h0.1, h0.2.1, fun q hq => ?_⟩
  obtain ⟨v, h1, h2⟩ := gv_lmem.mp hq
  rw [hlen, gv_slm, h2]
  have e : (lg_sl As).map (gv_ts ad) ++ List.replicate (n - (lg_sl As).length) Slot.unset = (lg_sl As ++ List.replicate (n - (lg_sl As).length) Slot.unset).map (gv_ts ad) := by
    rw [List.map_append, List.map_replicate]; rfl
  rw [e]
  simp only [gv_ent, List.getElem?_map, Option.map_eq_some_iff] at h1
  obtain ⟨x, h3, h4⟩ := h1
  have hx : x = .val v := by cases x <;> simp [gv_so] at h4; rw [h4]
  subst hx
  simp only [List.getElem?_toArray, List.getElem?_map, h3, Option.map_some]
  rfl
theorem gv_mono {p : Program} {l : Launch} {e : Env} {R : Room} {s : State} {m : MethodId} {args : Array Value} {below : List Frame} {meth : Method} {c : Code} {H : Heap} {locs : List Loc} {cells slots : Nat} {Z Z' : State → Prop} {g : JFrame} (hz : ∀ t, Z t → Z' t) (h : W p l e R s m args below meth c H locs cells slots Z g) : W p l e R s m args below meth c H locs cells slots Z' g := by
  intro T hT X
  obtain ⟨t, a, b⟩ := h T hT X
  exact ⟨t, a, hz t b⟩
def gv_cw (μ : gM) : Cond := match μ.hh with
  | [] => .code μ.y μ.cc μ.nL μ.rt
  | hh => .codeWith μ.y μ.cc μ.nL μ.rt hh
theorem gv_cwspec {μ : gM} {args : Array Value} {s : State} {m : MethodId} (hn : s.methodNamed? μ.y = some m) (h : (gv_cw μ).before args s = true) : ∃ (meth : Method) (c : Code), s.vm.method? m = some meth ∧ meth.code = some c ∧ c.code = μ.cc ∧ c.maxLocals = μ.nL ∧ meth.sig.returnType = μ.rt ∧ meth.locks = false ∧ (c.exceptionTable.toList.map fun h => (h.startPc, h.endPc, h.handlerPc, h.catchType)) = μ.hh ∧ parseMethodDescriptor μ.y.desc = some meth.sig := by
  obtain ⟨y, cc, nL, rt, hh, F, c0⟩ := μ
  cases hh with
  | nil =>
    obtain ⟨meth, c, h1, h2, h3, h4, h5, h6, h7, h8⟩ := Cond.code_spec hn h
    refine ⟨meth, c, h1, h2, h3, h4, h5, h6, ?_, h8⟩
    have h0 : c.exceptionTable.size = 0 := by simpa [Array.isEmpty] using h7
    have h1 : c.exceptionTable.toList = [] := List.eq_nil_of_length_eq_zero (by simpa using h0)
    show c.exceptionTable.toList.map _ = []
    rw [h1]; rfl
  | cons a t =>
    obtain ⟨m9, meth, c, hn9, h1, h2, h3, h4, h5, h6, h7, h8⟩ := Cond.codeWith_spec h
    cases hn.symm.trans hn9
    exact ⟨meth, c, h1, h2, h3, h4, h6, h7, h5, h8⟩
def gv_Po (μ : gM) (D : va_G) (cA : FieldType → ClassId) (ad : Nat → Nat) (Q : gQ → gS → Prop) (s : State) (o : Outcome) (t : State) : Prop :=
  (∃ (v : Option Value) (σ : gS) (L : List Loc), o = .returned (v.map (gv_t ad)) ∧ Q (.inl v) σ ∧ gv_X ad σ s ∧ va_P D vwCl (gv_w cA ad σ) t.heap ∧ va_F (gv_A ad s) s t ∧ FrameEnd s o t L μ.c (6 * μ.c) ∧ (∀ q ∈ L, gv_A ad s q.base) ∧ (μ.pu = true → L = [])) ∨
  ∃ (n : Nat) (σ : gS) (L : List Loc) (a : Addr), o = .threw a ∧ Q (.inr n) σ ∧ gv_X ad σ s ∧ va_P D vwCl (gv_w cA ad σ) t.heap ∧ va_F (gv_A ad s) s t ∧ (s.WarmedH t.vm ∧ s.sameButNew ({ t with vm := s.vm } : State) L 1 6) ∧ (∀ q ∈ L, gv_A ad s q.base) ∧ gv_exc n s t.heap a
def gv_K (μ : gM) (As : List Value) (σ : gS) (Q : gQ → gS → Prop) : Prop := gv_V μ 1 true 0 (gv_ent μ.nL As) [] σ Q
theorem gv_met {l : Launch} {μ : gM} {As : List Value} {σ : gS} {Q : gQ → gS → Prop} {D : va_G} {cA : FieldType → ClassId} {ad : Nat → Nat} (hV : gv_K μ As σ Q) (hy : plainName μ.y.cls = true) (hl0 : l.stackTraces = false) (hent : (lg_sl As).length ≤ μ.nL) :
    MetFree l μ.y (headSpec [gv_cw μ] (gv_rm μ)) (fun a U => a = (As.map (gv_t ad)).toArray ∧ gv_G D cA ad U ∧ gv_X ad σ U ∧ va_P D vwCl (gv_w cA ad σ) U.heap) (fun _ _ _ _ _ => True) (fun _ st o t => gv_Po μ D cA ad Q st o t) := by
  refine MetFree.of_bodyS (code := μ.cc) (maxLocals := μ.nL) (ret := μ.rt) hy ?_ ?_
  · intro args s m h hn
    obtain ⟨meth, c, h1, h2, h3, h4, h5, h6, -, -⟩ := gv_cwspec hn (atoms_spec (ws := [gv_cw μ]) h _ List.mem_cons_self)
    exact ⟨meth, c, h1, h2, h3, h4, h5, h6⟩
  · intro p e s m args below meth c s₁ B hml hP _
    obtain ⟨rfl, hG, hX, hPw⟩ := hP
    have hh0 : s₁.heap = s.heap := by rw [B.state]; rfl
    have X := Stand.of_body B
    obtain ⟨meth2, c2, g1, g2, -, -, -, -, g7, -⟩ := gv_cwspec B.named (atoms_spec (ws := [gv_cw μ]) B.pre _ List.mem_cons_self)
    cases g1.symm.trans B.method
    cases g2.symm.trans X.code
    have hC : gv_C μ p l (gv_rm μ) s m meth c D cA ad := ⟨⟨B.exec, B.bytes, hml, findClass_of_methodNamed B.named, B.returns, B.notSynchronized, g7, hl0, Nat.le_refl _, Nat.le_refl _⟩, hG⟩
    have hlocks := B.notSynchronized
    have hE : gv_Ex μ p l e (gv_rm μ) s m (As.map (gv_t ad)).toArray below meth c D cA ad (fun t => ∃ o, t.status = .running ∧ Ended t below o ∧ gv_Po μ D cA ad Q s o t) Q := by
      refine ⟨?_, ?_⟩
      · intro v σ' k H locs cells slots sl pc i hQ hri hk hu hc hs hX' hP' hS' hd
        have h1 : (gv_rm μ).cells = 1 := rfl
        have h6 : (gv_rm μ).slots = 6 := rfl
        refine W.widen (k := μ.c) (n := 6 * μ.c) (by omega) (by omega) ?_
        have hf : ∀ q ∈ locs, μ.pu = false ∧ gv_A ad s q.base := fun q hq => by
          cases hpu : μ.pu with
          | false => exact ⟨rfl, hS'.2.2 q hq⟩
          | true => rw [hu hpu] at hq; cases hq
        have key : ∀ t, MQ below (fun _ _ o t => o = .returned (v.map (gv_t ad)) ∧ t.heap = H) (As.map (gv_t ad)).toArray s μ.c (6 * μ.c) (fun q => μ.pu = false ∧ gv_A ad s q) t → ∃ o, t.status = .running ∧ Ended t below o ∧ gv_Po μ D cA ad Q s o t := by
          intro t ⟨o, a1, a2, ⟨a3, a4⟩, L, a5, a6⟩
          refine ⟨o, a1, a2, Or.inl ⟨v, σ', L, a3, hQ, hX', by rw [a4]; exact hP', hS'.F a4, a5, fun q hq => (a6 q hq).2, fun hpu => ?_⟩⟩
          cases L with
          | nil => rfl
          | cons q L' => exact absurd ((a6 q List.mem_cons_self).1.symm.trans hpu) (by decide)
        rcases hri with ⟨rfl, hr, rfl⟩ | ⟨x, ty, rfl, hr, hn, rfl⟩ | ⟨x, rfl, hr, rfl⟩
        · exact gv_mono key (W.vret (Qc := fun _ _ o t => o = .returned ((none : Option Value).map (gv_t ad)) ∧ t.heap = H) (free := fun q => μ.pu = false ∧ gv_A ad s q) B.exec B.bytes (B.returns.trans hr) (fun t ht _ => ⟨rfl, ht⟩) hf hd)
        · exact gv_mono key (W.zret (Qc := fun _ _ o t => o = .returned ((some (.int x) : Option Value).map (gv_t ad)) ∧ t.heap = H) (free := fun q => μ.pu = false ∧ gv_A ad s q) B.exec B.bytes (B.returns.trans hr) hn (fun t ht _ => ⟨rfl, ht⟩) hf hd)
        · exact gv_mono key (W.lret (Qc := fun _ _ o t => o = .returned ((some (.long x) : Option Value).map (gv_t ad)) ∧ t.heap = H) (free := fun q => μ.pu = false ∧ gv_A ad s q) B.exec B.bytes (B.returns.trans hr) (fun t ht _ => ⟨rfl, ht⟩) hf hd)
      · intro n σ' U a locs cells slots hQ h1 h2 h3 h4 h5 h6 hX' hP' hS' hex
        exact ⟨.threw a, h1, h2, Or.inr ⟨n, σ', locs, a, rfl, hQ, hX', hP', ⟨hS'.1, hS'.2.1⟩, ⟨h3, h4.mono h5 h6⟩, hS'.2.2, hex⟩⟩
    have hWW := hV p l e (gv_rm μ) s m (As.map (gv_t ad)).toArray below meth c D cA ad _ hC hE s.heap [] 0 0 _ (fun _ => ⟨rfl, fun i hi => (hPw i _ (gv_wget σ (List.getElem?_eq_getElem hi))).lt⟩) (Nat.le_refl 1) (Nat.le_refl 6) hX hPw va_S.rf (gv_entl ad As hent)
    have hWW2 := W.eq (lg_entry_eq m (As.map (gv_t ad)) μ.nL) hWW
    obtain ⟨t, a1, o, b1, b2, b3⟩ := hWW2 s₁ hh0 X
    exact ⟨t, o, a1, b1, b2, b3⟩
theorem gv_Gm {D : va_G} {cA : FieldType → ClassId} {ad : Nat → Nat} {s U : State} {locs : List Loc} (hG : gv_G D cA ad s) (hW : s.WarmedH U.vm) (hS : va_S (gv_A ad s) s.heap U.heap locs) : gv_G D cA ad U := by
  obtain ⟨h1, h2, h3, h4, h5, h6⟩ := hG
  have hA : ∀ q, gv_A ad U q → gv_A ad s q := fun q h => by
    rcases h with h | h
    · exact Or.inl h
    · exact Or.inr (Nat.le_trans hS.1 h)
  exact ⟨fun w hw => gv_wm hW hw (h1 w hw), va_K.moved hW.alike h2, h3, ⟨h4.1, Nat.lt_of_lt_of_le h4.2 hS.1⟩, ((h5.moved hW.alike).kept hS.2.1).narrow hA, ((h6.moved hW.alike).kept hS.2.1).narrow hA⟩
theorem gv_nA {D : va_G} {cA : FieldType → ClassId} {ad : Nat → Nat} {s : State} (hG : gv_G D cA ad s) : ¬ gv_A ad s (ad gv_scr) := fun z => by
  rcases z with ⟨i, h1, h2⟩ | z
  · exact hG.2.2.2.1.1 i h1 h2
  · exact absurd hG.2.2.2.1.2 (Nat.not_lt.mpr z)
theorem gv_Xm {D : va_G} {cA : FieldType → ClassId} {ad : Nat → Nat} {s U : State} {locs : List Loc} {σ : gS} (hG : gv_G D cA ad s) (hW : s.WarmedH U.vm) (hS : va_S (gv_A ad s) s.heap U.heap locs) (h : gv_X ad σ s) : gv_X ad σ U :=
  (va_X.moved hW.alike h).kept (hS.2.1 _ hG.2.2.2.1.2 (gv_nA hG))
theorem gv_Xb {D : va_G} {cA : FieldType → ClassId} {ad : Nat → Nat} {s U : State} {locs : List Loc} {σ : gS} (hG : gv_G D cA ad s) (hW : s.WarmedH U.vm) (hS : va_S (gv_A ad s) s.heap U.heap locs) (h : gv_X ad σ U) : gv_X ad σ s :=
  (va_X.moved hW.alike.symm h).kept (hS.2.1 _ hG.2.2.2.1.2 (gv_nA hG)).symm
def gv_ok (μ μ' : gM) : Prop := μ'.F + 1 ≤ μ.F ∧ μ'.nL ≤ 81 ∧ plainName μ'.y.cls = true ∧ gv_cw μ' ∈ gv_ws ∧ Cond.initialized μ'.y.cls ∈ gv_ws
set_option maxHeartbeats 1000000 in
theorem gv_back {μ μ' : gM} {p : Program} {l : Launch} {e : Env} {R : Room} {s : State} {m : MethodId} {args : Array Value} {below : List Frame} {meth : Method} {c : Code} {D : va_G} {cA : FieldType → ClassId} {ad : Nat → Nat} (hC : gv_C μ p l R s m meth c D cA ad) {As : List Value} {σ : gS} {Q' : gQ → gS → Prop} (hV : gv_K μ' As σ Q') (hok : gv_ok μ μ') (hent : (lg_sl As).length ≤ μ'.nL)
    {k : Nat} (hk : 1 ≤ k) {U : State} {locs : List Loc} {cells slots : Nat} (X : Stand p l e R s m args below meth c U locs cells slots) (hc : cells + k ≤ R.cells) (hs : slots + 6 * k ≤ R.slots) (hX : gv_X ad σ s) (hP : va_P D vwCl (gv_w cA ad σ) U.heap) (hS : va_S (gv_A ad s) s.heap U.heap locs)
    {g : JFrame} (hg : g.method = m) (hsize : g.locals.size = c.maxLocals) {ig : Instr} (hdg : decode c.code g.pc = .ok (ig, 3)) (hw : 2 * g.monitorRoom + (g.stack.map fun v => v.category).sum ≤ 8) {mk : MethodId} (hn : U.methodNamed? μ'.y = some mk) :
    (∃ (v : Option Value) (σ' : gS) (B : State) (L : List Loc), Q' (.inl v) σ' ∧ (μ'.pu = true → L = locs) ∧ Stand p l e R s m args below meth c B L (cells + μ'.c) (slots + 6 * μ'.c) ∧ gv_X ad σ' s ∧ va_P D vwCl (gv_w cA ad σ') B.heap ∧ va_S (gv_A ad s) s.heap B.heap L ∧
      Steps p.tables e below (doInvoke e (U.setTop g) [] mk (As.map (gv_t ad)).toArray).1 (B.setTop { g with pc := g.pc + 3, stack := (v.map (gv_t ad)).toList ++ g.stack })) ∨
    ∃ (n : Nat) (σ' : gS) (B : State) (L : List Loc) (a : Addr), Q' (.inr n) σ' ∧ Stand p l e R s m args below meth c B L (cells + 1) (slots + 6) ∧ gv_X ad σ' s ∧ va_P D vwCl (gv_w cA ad σ') B.heap ∧ va_S (gv_A ad s) s.heap B.heap L ∧ gv_exc n s B.heap a ∧
      Steps p.tables e below (doInvoke e (U.setTop g) [] mk (As.map (gv_t ad)).toArray).1 ((B.setTop g).pushFrame (.throwing a)) := by
  have hwU : ∀ w ∈ gv_ws, ∀ a', w.before a' U = true := fun w h a' => gv_wt h rfl (gv_wm X.warmed h (hC.2.1 w h))
  obtain ⟨methY, cY, hmY, hcY, -, hlY, -, -, -, -⟩ := gv_cwspec (args := #[]) hn (hwU _ hok.2.2.2.1 _)
  obtain ⟨kY, hkY, -⟩ := className_of_methodNamed hn
  have hinitY : kY.init = .initialized := Cond.initialized_spec (findClass_of_methodNamed hn) hkY (hwU _ hok.2.2.2.2 #[])
  have h : At U g.method c below := by rw [hg]; exact X.here
  have hr1 : (gv_rm μ').cells = 1 := rfl
  have hr2 : (gv_rm μ').slots = 6 := rfl
  have hr3 : (gv_rm μ').frames = μ'.F := rfl
  have hr4 : (gv_rm μ').locals = 100 * μ'.F := rfl
  have hF := hok.1
  have hN := hok.2.1
  have hF1 := hC.1.2.2.2.2.2.2.2.2.1
  have hF2 := hC.1.2.2.2.2.2.2.2.2.2
  generalize haa : (As.map (gv_t ad)).toArray = aa
  have happ : (headSpec [gv_cw μ'] (gv_rm μ')).appliesLoose μ'.y e.platform (U.calling g mk aa) = true :=
    Spec.appliesLoose_calling (g := g) h hdg hn hkY hinitY
      (X.room_calling (g := g) (R' := gv_rm μ') hsize hmY hcY (by omega) (by rw [hlY]; omega) (by omega) (by omega)) (atoms_intro fun w hw' => by
        rcases List.mem_cons.mp hw' with rfl | hw'
        · exact hwU _ hok.2.2.2.1 _
        · cases hw')
  obtain ⟨mid, hmid⟩ := h.above
  have hfr : (U.setTop g).frames = (.java g :: mid) ++ below := by rw [State.frames_setTop' g h.top, hmid]; rfl
  have hW1 : s.WarmedH (U.calling g mk aa).vm := X.warmed
  have hS1 : va_S (gv_A ad s) s.heap (U.calling g mk aa).heap locs := hS
  have hG1 : gv_G D cA ad (U.calling g mk aa) := gv_Gm hC.2 hW1 hS1
  obtain ⟨o, s₂, hsteps, -, hend, hq⟩ := Steps.callFree (gv_met (D := D) (cA := cA) (ad := ad) hV hok.2.2.1 hC.1.2.2.2.2.2.2.2.1 hent) p X.admits X.cas X.clock (acts := []) hfr happ ⟨haa.symm, hG1, gv_Xm hC.2 hW1 hS1 hX, hP⟩ trivial
  have hq : gv_Po μ' D cA ad Q' (U.calling g mk aa) o s₂ := hq
  rw [State.frames_setTop' g h.top] at hend
  have hAA : ∀ q, gv_A ad (U.calling g mk aa) q → gv_A ad s q := fun q h => by
    rcases h with h | h
    · exact Or.inl h
    · exact Or.inr (Nat.le_trans hS1.1 h)
  obtain ⟨g₀, hg0⟩ := Option.isSome_iff_exists.mp h.top
  obtain ⟨r, hr⟩ := State.topJava?_eq_some.mp hg0
  have fin : ∀ {L : List Loc} {kc ns : Nat}, (U.calling g mk aa).WarmedH s₂.vm → (U.calling g mk aa).sameButNew ({ s₂ with vm := (U.calling g mk aa).vm } : State) L kc ns → va_F (gv_A ad (U.calling g mk aa)) (U.calling g mk aa) s₂ → (∀ q ∈ L, gv_A ad (U.calling g mk aa) q.base) →
      Stand p l e R s m args below meth c (({ U with heap := s₂.heap, slotsUsed := s₂.slotsUsed } : State).setVm s₂.vm) (locs ++ L) (cells + kc) (slots + ns) ∧ va_S (gv_A ad s) s.heap s₂.heap (locs ++ L) := by
    intro L kc ns hW₂ hsm hF9 hL
    obtain ⟨e2, q2, q3, q4, q5, q6⟩ := hsm
    have hW' : U.WarmedH s₂.vm := hW₂
    have hsame : U.sameButNew ({ U with heap := s₂.heap, slotsUsed := s₂.slotsUsed } : State) L kc ns := by
      refine ⟨?_, q2, q3, q4, q5, q6⟩
      obtain ⟨t, ht, -⟩ := State.frames_cons hr
      show ({ U with heap := s₂.heap, slotsUsed := s₂.slotsUsed } : State) = { U.setFrames U.frames with heap := s₂.heap, slotsUsed := s₂.slotsUsed }
      rw [State.setFrames_self ht]
    subst hg
    refine ⟨⟨X.admits, X.cas, X.clock, X.frames, X.room, X.hears, X.method, X.code, (X.here.setHeapUsed s₂.heap s₂.slotsUsed).setVm hW'.alike, X.tail, State.WarmedH.trans X.warmed hW', X.limits, X.bytes, X.same.trans (hsame.setVm s.vm)⟩, ?_⟩
    refine ⟨Nat.le_trans hS1.1 hF9.1, fun q h1 h2 => ?_, fun q hq => ?_⟩
    · rw [hF9.2 q (Nat.lt_of_lt_of_le h1 hS1.1) (fun z => h2 (hAA q z))]
      exact hS1.2.1 q h1 h2
    · rcases List.mem_append.mp hq with h | h
      · exact hS.2.2 q h
      · exact hAA _ (hL q h)
  have e3 : ∀ {L : List Loc} {kc ns : Nat}, (U.calling g mk aa).sameButNew ({ s₂ with vm := (U.calling g mk aa).vm } : State) L kc ns → s₂ = ({ (U.calling g mk aa).setFrames s₂.frames with heap := s₂.heap, slotsUsed := s₂.slotsUsed } : State).setVm s₂.vm := by
    intro L kc ns hsm
    have e2 := hsm.1
    have : s₂ = ({ s₂ with vm := (U.calling g mk aa).vm } : State).setVm s₂.vm := rfl
    rw [e2] at this
    exact this
  have hr' : (({ U with heap := s₂.heap, slotsUsed := s₂.slotsUsed } : State).setVm s₂.vm).frames = .java g₀ :: r := hr
  rcases hq with ⟨v, σ', L, rfl, hQ, hX', hP', hF9, ⟨-, hW₂, hsm⟩, hL, hpu⟩ | ⟨n, σ', L, a, rfl, hQ, hX', hP', hF9, ⟨hW₂, hsm⟩, hL, hex⟩
  · obtain ⟨hSt, hS2⟩ := fin hW₂ hsm hF9 hL
    refine Or.inl ⟨v, σ', _, _, hQ, fun z => by rw [hpu z, List.append_nil], hSt, gv_Xb hC.2 hW1 hS1 hX', hP', hS2, ?_⟩
    obtain ⟨c₂, i₂, len₂, hc₂, hd₂, hf₂⟩ := hend
    have hW' : U.WarmedH s₂.vm := hW₂
    have hcc : c₂ = c := by
      have h1 : s₂.code? g.method = U.code? g.method := by
        rw [State.code?_eq, State.code?_eq, hW'.alike.method?]
      exact Option.some.inj (hc₂.symm.trans (h1.trans h.code))
    subst hcc
    have hlen : len₂ = 3 := by rw [hdg] at hd₂; cases hd₂; rfl
    subst hlen
    have hs₂ : s₂ = (({ U with heap := s₂.heap, slotsUsed := s₂.slotsUsed } : State).setVm s₂.vm).setTop { g with pc := g.pc + 3, stack := (v.map (gv_t ad)).toList ++ g.stack } := by
      refine (e3 hsm).trans ?_
      rw [hf₂, State.calling_eq h.top, State.setFrames_setFrames, State.setTop_of_frames _ hr', hr]
      rfl
    rw [← hs₂]
    exact hsteps
  · obtain ⟨hSt, hS2⟩ := fin hW₂ hsm hF9 hL
    refine Or.inr ⟨n, σ', _, _, a, hQ, hSt, gv_Xb hC.2 hW1 hS1 hX', hP', hS2, ?_, ?_⟩
    · obtain ⟨ce, z1, z2, z3⟩ := hex
      exact ⟨ce, z1, z2, by rw [← X.warmed.alike.findClass]; exact z3⟩
    · have hf₂ : s₂.frames = .throwing a :: .java g :: U.frames.tail := hend
      have hs₂ : s₂ = ((({ U with heap := s₂.heap, slotsUsed := s₂.slotsUsed } : State).setVm s₂.vm).setTop g).pushFrame (.throwing a) := by
        refine (e3 hsm).trans ?_
        rw [hf₂, State.calling_eq h.top, State.setFrames_setFrames, State.pushFrame, State.frames_setTop _ hr', State.setTop_of_frames _ hr', State.setFrames_setFrames, hr]
        rfl
      rw [← hs₂]
      exact hsteps
