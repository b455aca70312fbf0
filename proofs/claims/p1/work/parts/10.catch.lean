theorem gv_seek1 {e : Env} {S : State} {f : JFrame} {a : Addr} {cell : Cell} {y : ExceptionTableEntry} {t : List ExceptionTableEntry} {c : ClassId} {b : Bool} {Q : Handler → Pre} {E : CtlPost} {d : Bool} {acts : List Action} (hx : covers y f.pc = true) (h0 : y.catchType ≠ 0)
    (hl : S.vm.ClassLinks e.platform f.method.cls y.catchType c) (hcell : S.heap[a]? = some cell) (hobj : ∀ k, cell.vm ≠ .statics k) (hk : ∃ k, S.vm.classes[cell.cls]? = some k) (hc : ∃ k, S.vm.classes[c]? = some k) (hb : S.vm.assignable cell.cls c = b) :
    wp (findHandler.go f a (y :: t)) Q E e d acts S ↔ if b = true then Q (.found y.handlerPc) d acts (S.setVm (S.vm.noted f.method.cls y.catchType (.cls c))) else wp (findHandler.go f a t) Q E e d acts (S.setVm (S.vm.noted f.method.cls y.catchType (.cls c))) := by
  simp only [covers] at hx
  obtain ⟨ha, ht⟩ := (resolveClass_links e.toSetting hl).op (op := VmOp.resolveClass f.method.cls y.catchType) rfl
  have hal : S.vm.Alike (S.vm.noted f.method.cls y.catchType (.cls c)) := (Vm.Alike.refl S.vm).noted _ _ _
  obtain ⟨k1, hk1⟩ := hk
  obtain ⟨k2, hk2⟩ := hc
  obtain ⟨k1', hk1', -⟩ := hal.2.2 _ _ hk1
  obtain ⟨k2', hk2', -⟩ := hal.2.2 _ _ hk2
  have hb' : (S.vm.noted f.method.cls y.catchType (.cls c)).assignable cell.cls c = b := by rw [hal.assignable]; exact hb
  cases b <;> simp [findHandler.go, hx, h0, ha, ht, hcell, hobj, hk1', hk2', hb', VmOp.dirties, VmOp.acts]
theorem gv_seek {e : Env} {s0 : State} {f : JFrame} {a : Addr} {cell : Cell} (hobj : ∀ k, cell.vm ≠ .statics k) (hk0 : ∃ k, s0.vm.classes[cell.cls]? = some k) (x : ExceptionTableEntry) (post : List ExceptionTableEntry) (hx : covers x f.pc = true) (hx0 : x.catchType ≠ 0) {c : ClassId}
    (hl : s0.vm.ClassLinks e.platform f.method.cls x.catchType c) (hfit : s0.vm.assignable cell.cls c = true) :
    ∀ (pre : List ExceptionTableEntry) (S : State), s0.WarmedH S.vm → S.heap[a]? = some cell → (∀ y ∈ pre, covers y f.pc = true ∧ y.catchType ≠ 0 ∧ ∃ c, s0.vm.ClassLinks e.platform f.method.cls y.catchType c ∧ s0.vm.assignable cell.cls c = false) →
      ∃ vm', s0.WarmedH vm' ∧ ∀ (Q : Handler → Pre) (E : CtlPost) (d : Bool) (acts : List Action), wp (findHandler.go f a (pre ++ x :: post)) Q E e d acts S ↔ Q (.found x.handlerPc) d acts (S.setVm vm') := by
  obtain ⟨k0, hk0⟩ := hk0
  intro pre
  induction pre with
  | nil =>
    intro S hW hcell _
    obtain ⟨k0', hk0', -⟩ := hW.alike.2.2 _ _ hk0
    obtain ⟨dk, _, _, kt, hd, _, _, _, _, hkt, _, hopen⟩ := hl.here
    obtain ⟨kt', hkt', -⟩ := hW.alike.2.2 _ _ hkt
    refine ⟨_, hW.noted hd hopen (State.rightAt_cls hl), fun Q E d acts => ?_⟩
    rw [List.nil_append, gv_seek1 (b := true) hx hx0 (hW.classLinks hl) hcell hobj ⟨k0', hk0'⟩ ⟨kt', hkt'⟩ (by rw [hW.alike.assignable]; exact hfit), if_pos rfl]
  | cons y ys ih =>
    intro S hW hcell hpass
    obtain ⟨k0', hk0', -⟩ := hW.alike.2.2 _ _ hk0
    obtain ⟨hy, hy0, c', hl', hno⟩ := hpass y List.mem_cons_self
    obtain ⟨dk, _, _, kt, hd, _, _, _, _, hkt, _, hopen⟩ := hl'.here
    obtain ⟨kt', hkt', -⟩ := hW.alike.2.2 _ _ hkt
    obtain ⟨vm', hW', hq⟩ := ih (S.setVm (S.vm.noted f.method.cls y.catchType (.cls c'))) (hW.noted hd hopen (State.rightAt_cls hl')) hcell (fun z hz => hpass z (List.mem_cons_of_mem _ hz))
    refine ⟨vm', hW', fun Q E d acts => ?_⟩
    rw [List.cons_append, gv_seek1 (b := false) hy hy0 (hW.classLinks hl') hcell hobj ⟨k0', hk0'⟩ ⟨kt', hkt'⟩ (by rw [hW.alike.assignable]; exact hno), if_neg (by decide)]
    exact hq Q E d acts
theorem gv_lands {tb : Tables} {e : Env} {s target : State} {g : JFrame} {c : Code} {below : List Frame} {a : Addr} (h : At s g.method c below) {pc : Nat} {vm' : Vm}
    (hf : ∀ (Q : Handler → Pre) (E : CtlPost) (d : Bool) (acts : List Action), wp (findHandler g a) Q E e d acts ((s.setTop g).pushFrame (.throwing a)) ↔ Q (.found pc) d acts (((s.setTop g).pushFrame (.throwing a)).setVm vm'))
    (hrest : Steps tb e below ((s.setVm vm').setTop { g with pc := pc, stack := [.ref a] }) target) : Steps tb e below ((s.setTop g).pushFrame (.throwing a)) target := by
  obtain ⟨hgo, hw⟩ := h.throwing a
  refine Steps.head hgo hw ?_
  obtain ⟨g₀, hg⟩ := Option.isSome_iff_exists.mp h.top
  obtain ⟨r, hr⟩ := State.topJava?_eq_some.mp hg
  have key : (stepThrowing e ((s.setTop g).pushFrame (.throwing a)) a (.java g :: s.frames.tail)).Is ((((s.setTop g).pushFrame (.throwing a)).setVm vm').setFrames (.java { g with pc := pc, stack := [.ref a] } :: s.frames.tail)) [] := by
    simp only [stepThrowing, searchFrame, vmDo]
    generalize hz : Sem.go _ e false [] ((s.setTop g).pushFrame (.throwing a)) = res
    obtain ⟨as, rfl, ha⟩ := Sem.eq_ok_of hz (a := Handler.found pc) (s' := ((s.setTop g).pushFrame (.throwing a)).setVm vm') (acts' := []) (by simp [hf _ _ _ _])
    exact ⟨rfl, ha⟩
  rw [stepThread_throwing (frames_entered h.top _), key.1]
  have hr' : (s.setVm vm').frames = .java g₀ :: r := hr
  rw [State.setTop_of_frames _ hr'] at hrest
  rw [hr, List.tail_cons, State.pushFrame, State.setTop_of_frames _ hr]
  have e1 : ∀ (u : State) (f1 f2 : List Frame), ((u.setFrames f1).setVm vm').setFrames f2 = (u.setVm vm').setFrames f2 := fun u f1 f2 => by
    show ((u.setVm vm').setFrames f1).setFrames f2 = _
    rw [State.setFrames_setFrames]
  rw [e1, e1]
  exact hrest
def gv_ct (μ : gM) (pc n hpc : Nat) (v : Int32) : Prop := ∃ (pre : List (Nat × Nat × Nat × Nat)) (a b ct : Nat) (post : List (Nat × Nat × Nat × Nat)), μ.hh = pre ++ (a, b, hpc, ct) :: post ∧
  (∀ y ∈ pre, (y.1 ≤ pc ∧ pc < y.2.1) ∧ y.2.2.2 ≠ 0 ∧ ∃ nm, Cond.classLink μ.y.cls y.2.2.2 nm ∈ gv_ws ∧ Cond.not (.castable (gv_en n) nm) ∈ gv_ws) ∧ (a ≤ pc ∧ pc < b) ∧ ct ≠ 0 ∧ (∃ nm, Cond.classLink μ.y.cls ct nm ∈ gv_ws ∧ Cond.castable (gv_en n) nm ∈ gv_ws) ∧
  ∃ (j : Nat) (len : Nat) (z : Int), j < μ.nL ∧ ((∃ f : Fin 4, (f : Nat) = j ∧ len = 1 ∧ decode μ.cc hpc = .ok (.astore_n f, 1)) ∨ (len = 2 ∧ decode μ.cc hpc = .ok (.astore j, 2))) ∧ decode μ.cc (hpc + len) = .ok (.iconst z, 1) ∧ Int32.ofInt z = v ∧ decode μ.cc (hpc + len + 1) = .ok (.ireturn, 1)
set_option maxHeartbeats 2000000 in
theorem gv_callC {μ μ' : gM} {k k' pc pc' idx n : Nat} {w w' : Bool} {ls : List (Option Value)} {As st : List Value} {σ : gS} {Q Q' : gQ → gS → Prop} {q ci N : Nat} {fs : List (Option Nat)} {T0 : u_T} (cs : gv_csV μ μ' idx n) (hV : gv_K μ' (.ref q :: As) σ Q') (hd : decode μ.cc pc = .ok (.invokevirtual idx, 3)) (hsh : gv_sh[q]? = some (.inr (ci, fs))) (hcl : vwCl[ci]? = some (μ'.y.cls, T0, N)) (hn : As.length = n) (hent : (lg_sl (.ref q :: As)).length ≤ μ'.nL) (hw8 : (st.map fun v => v.category).sum ≤ 8) (hk : 1 ≤ k) (hkk : k' + μ'.c = k) (hw' : w' = true → μ'.pu = true ∧ w = true) (hrt : μ.rt = some .int) (hu : μ.pu = false) (hkc : 1 ≤ k - 1 + μ.c) (hp : pc + 3 = pc')
    (ht : ∀ n σ', Q' (.inr n) σ' → ∃ hpc v, gv_ct μ pc n hpc v ∧ Q (.inl (some (.int v))) σ') (h : ∀ v σ', Q' (.inl v) σ' → gv_V μ k' w' pc' ls (v.toList ++ st) σ' Q) : gv_V μ k w pc ls (As.reverse ++ .ref q :: st) σ Q := by
  intro p l e R s m args below meth c D cA ad Z hC hE H locs cells slots sl hw0 hc hs hX hP hS hl T hT X
  subst hp
  subst hT
  obtain ⟨vm₁, mk, X₁, hnm, hstep⟩ := gv_goV hC cs hn hsh hcl (st := st) (sl := sl) X hP hd
  have hlocks := hC.1.2.2.2.2.2.1
  have hts := gv_hts hC args
  have hwt : 2 * (F0 m pc sl (st.map (gv_t ad))).monitorRoom + ((F0 m pc sl (st.map (gv_t ad))).stack.map fun v => v.category).sum ≤ 8 := by
    show 2 * 0 + ((st.map (gv_t ad)).map fun v => v.category).sum ≤ 8
    rw [gv_cat]; omega
  rcases gv_back hC hV cs.1 hent hk X₁ hc hs hX hP hS (g := F0 m pc sl (st.map (gv_t ad))) rfl (hl.1.trans hC.1.2.2.1.symm) (by rw [hC.1.2.1]; exact hd) hwt hnm with ⟨v, σ', B, L, hQ, hpu, hSt, hX', hP', hS', hst⟩ | ⟨n9, σ', B, L, a, hQ, hSt, hX', hP', hS', hex, hst⟩
  · obtain ⟨t, a1, b1⟩ := h v σ' hQ p l e R s m args below meth c D cA ad Z hC hE B.heap L (cells + μ'.c) (slots + 6 * μ'.c) sl (fun z => ⟨(hpu (hw' z).1).trans (hw0 (hw' z).2).1, (hw0 (hw' z).2).2⟩) (by omega) (by omega) hX' hP' hS' hl B rfl hSt
    refine ⟨t, hstep _ (hst.trans ?_), b1⟩
    have e9 : (v.toList ++ st).map (gv_t ad) = (v.map (gv_t ad)).toList ++ st.map (gv_t ad) := by cases v <;> rfl
    rw [e9] at a1
    exact a1
  · obtain ⟨hpc, v, ⟨pre, ra, rb, ct, post, hhh, hpass, hcov, hct0, ⟨nm, hlk, hcast⟩, j, len, z, hj, hast, hdi, hvz, hdr⟩, hQv⟩ := ht n9 σ' hQ
    obtain ⟨ce, hce, hces, hcec⟩ := hex
    have hpl : e.platform.magicAccessors = ({} : Platform).magicAccessors := by rw [X.admits.platform]
    have htab : c.exceptionTable.toList = tableOf pre ++ (⟨ra, rb, hpc, ct⟩ : ExceptionTableEntry) :: tableOf post := by
      have h1 := table_eq c.exceptionTable.toList
      rw [hC.1.2.2.2.2.2.2.1, hhh] at h1
      rw [← h1]; simp [tableOf]
    obtain ⟨cT, hcT, hclk⟩ := Cond.classLink_spec hC.1.2.2.2.1 (hts _ hlk) e.platform hpl
    obtain ⟨c3, t3, w1, w2, w3⟩ := Cond.castable_spec (hts _ hcast)
    cases hcec.symm.trans w1
    cases hcT.symm.trans w2
    have hk0 : ∃ k, s.vm.classes[ce.cls]? = some k := Vm.classAt_of_findClass hcec
    obtain ⟨vm', hW', hseek⟩ := gv_seek (e := e) (s0 := s) (f := F0 m pc sl (st.map (gv_t ad))) (a := a) (cell := ce) (VmData.ne_statics_of hces) hk0 (⟨ra, rb, hpc, ct⟩ : ExceptionTableEntry) (tableOf post) (by simp [covers, hcov]) hct0 hclk w3 (tableOf pre) ((B.setTop (F0 m pc sl (st.map (gv_t ad)))).pushFrame (.throwing a)) hSt.warmed hce (by
      intro y hy
      obtain ⟨q, hq, rfl⟩ := List.mem_map.mp hy
      obtain ⟨g1, g2, nm', g3, g4⟩ := hpass q hq
      obtain ⟨c', hc', hcl'⟩ := Cond.classLink_spec hC.1.2.2.2.1 (hts _ g3) e.platform hpl
      refine ⟨by simp [covers, g1], g2, c', hcl', ?_⟩
      have hv := Cond.holds_not_iff.mp (hts _ g4)
      simp only [Cond.value, hcec, hc'] at hv
      exact Option.some.inj hv)
    have hWh : W p l e R s m args below meth c B.heap L (cells + 1) (slots + 6) Z (F0 m hpc sl [.ref a]) := by
      rcases hast with ⟨f, hf, rfl, hda⟩ | ⟨rfl, hda⟩
      · exact lv_astore_n hC.1.1 hC.1.2.1 hda hf hl hj rfl (fun sl' _ => lv_iconst hC.1.1 hC.1.2.1 hdi hvz (hE.1 (some (.int v)) σ' (k - 1) B.heap L (cells + 1) (slots + 6) sl' _ .ireturn hQv (Or.inr (Or.inl ⟨v, .int, rfl, hrt, rfl, rfl⟩)) hkc (fun z => by rw [hu] at z; cases z) (by omega) (by omega) hX' hP' hS' hdr))
      · exact lv_astore hC.1.1 hC.1.2.1 hda hl hj rfl (fun sl' _ => lv_iconst hC.1.1 hC.1.2.1 hdi hvz (hE.1 (some (.int v)) σ' (k - 1) B.heap L (cells + 1) (slots + 6) sl' _ .ireturn hQv (Or.inr (Or.inl ⟨v, .int, rfl, hrt, rfl, rfl⟩)) hkc (fun z => by rw [hu] at z; cases z) (by omega) (by omega) hX' hP' hS' hdr))
    obtain ⟨t, a1, b1⟩ := hWh (B.setVm vm') rfl (hSt.noted hW')
    refine ⟨t, hstep _ (hst.trans (gv_lands (g := F0 m pc sl (st.map (gv_t ad))) hSt.here ?_ a1)), b1⟩
    intro Q9 E9 d9 acts9
    rw [Jvm.W.findHandler_eq (meth := meth) (code := c) hSt.method' hSt.code, htab]
    exact hseek Q9 E9 d9 acts9
def gv_is (o : gQ) (σ : gS) : gQ → gS → Prop := fun o' σ' => o' = o ∧ σ' = σ
