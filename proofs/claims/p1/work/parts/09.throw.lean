theorem gv_same0 {s s' : State} {c n : Nat} (h : s.sameButNew s' [] c n) : ∀ q, q < s.heap.size → s'.heap[q]? = s.heap[q]? := by
  intro q hq
  obtain ⟨c', h1, h2, h3, h4⟩ := h.2.2.2.2.2 q s.heap[q] (Array.getElem?_eq_getElem hq)
  rw [h1, Array.getElem?_eq_getElem hq]
  have h5 : c'.slots = (s.heap[q]).slots := by
    refine Array.ext h3 fun i hi1 hi2 => ?_
    have := h4 i (by simp)
    rw [Array.getElem?_eq_getElem hi1, Array.getElem?_eq_getElem hi2] at this
    exact Option.some.inj this
  rw [h2, h5]
def gv_nm : List String := ["java/lang/RuntimeException", "java/lang/Exception"]
def gv_th (own : String) (idx ic n : Nat) : Prop := Cond.classLink own idx (gv_en n) ∈ gv_ws ∧ Cond.instantiable (gv_en n) 6 ∈ gv_ws ∧ Cond.initialized (gv_en n) ∈ gv_ws ∧ Jvm.Bundle.fit (gv_en n) = true ∧
  ∀ a ∈ Jvm.Bundle.ownAtoms0 own ic (gv_en n) gv_nm, a ∈ gv_ws ∨ (a = .isRef (.static "java/lang/Throwable" "UNASSIGNED_STACK" "[Ljava/lang/StackTraceElement;") ∨ a = .laysStatic "java/lang/Throwable" "UNASSIGNED_STACK" "[Ljava/lang/StackTraceElement;") ∨ (a = .isRef (.static "java/lang/Throwable" "SUPPRESSED_SENTINEL" "Ljava/util/List;") ∨ a = .laysStatic "java/lang/Throwable" "SUPPRESSED_SENTINEL" "Ljava/util/List;")
set_option maxHeartbeats 1000000 in
theorem gv_throw {μ : gM} {k pc idx ic n : Nat} {ls : List (Option Value)} {st : List Value} {σ : gS} {Q : gQ → gS → Prop} (th : gv_th μ.y.cls idx ic n) (hd0 : decode μ.cc pc = .ok (.new idx, 3)) (hd3 : decode μ.cc (pc + 3) = .ok (.dup, 1)) (hd4 : decode μ.cc (pc + 3 + 1) = .ok (.invokespecial ic, 3)) (hd7 : decode μ.cc (pc + 3 + 1 + 3) = .ok (.athrow, 1))
    (hk : 1 ≤ k) (hF : 6 ≤ μ.F) (hw8 : (st.map fun v => v.category).sum ≤ 8) (hno : μ.hh.all (fun h => !(decide (h.1 ≤ pc + 3 + 1 + 3) && decide (pc + 3 + 1 + 3 < h.2.1))) = true) (h : Q (.inr n) σ) : gv_V μ k true pc ls st σ Q := by
  intro p l e R s m args below meth c D cA ad Z hC hE H locs cells slots sl hw0 hc hs hX hP hS hl T hT X
  subst hT
  obtain ⟨rfl, hold⟩ := hw0 rfl
  obtain ⟨t1, t2, t3, t4, t5⟩ := th
  have hts := gv_hts hC args
  have hlocks := hC.1.2.2.2.2.2.1
  have hF1 := hC.1.2.2.2.2.2.2.2.2.1
  have hF2 := hC.1.2.2.2.2.2.2.2.2.2
  have htr : e.platform.stackTraces = false := by rw [X.admits.platform]; exact hC.1.2.2.2.2.2.2.2.1
  obtain ⟨vm₁, cX, kX, hfX, hkX, -, -, X₁, st1⟩ := X.newCold hC.1.1 (own := μ.y.cls) (C := gv_en n) (index := idx) (n := 6) hC.1.2.2.2.1 (hts _ t1) (hts _ t2) (hts _ t3)
    (g := F0 m pc sl (st.map (gv_t ad))) rfl (by rw [hC.1.2.1]; exact hd0) (by omega) (by omega)
  generalize hT : (T.setVm vm₁).pushCell { cls := cX, slots := kX.instanceTypes.map defaultValue, vm := .none } = T1 at X₁ st1
  have hcellA : T1.heap[T.heap.size]? = some (freshCell cX kX) := by rw [← hT]; exact State.heap_pushCell_size _ _
  have hat : ∀ a ∈ Jvm.Bundle.ownAtoms0 μ.y.cls ic (gv_en n) gv_nm, a.before args s = true := by
    intro a ha
    rcases t5 a ha with h1 | (rfl | rfl) | (rfl | rfl)
    · exact hts _ h1
    · exact hC.2.2.2.2.2.1.isref args
    · exact hC.2.2.2.2.2.1.lays args
    · exact hC.2.2.2.2.2.2.isref args
    · exact hC.2.2.2.2.2.2.lays args
  obtain ⟨U, hsteps, hrun, hend, hW, hsame, ce, hce, K⟩ := X₁.ctorThrow0 hC.1.1 htr (own := μ.y.cls) (cls := gv_en n) (names := gv_nm) (ic := ic) hC.1.2.2.2.1 t4 (by decide +kernel) hat (fun y hy => by cases hy) hfX hkX hcellA hS.1
    (g := F0 m (pc + 3 + 1) sl (.ref T.heap.size :: .ref T.heap.size :: st.map (gv_t ad))) rfl (hl.1.trans hC.1.2.2.1.symm) rfl rfl (rest := st.map (gv_t ad)) rfl (by rw [hC.1.2.1]; exact hd4) (by rw [hC.1.2.1]; exact hd7) (gv_out hC hno)
    (by simp only [gv_nm, List.length_cons, List.length_nil]; omega) (by
      show 2 * 0 + ((Value.ref T.heap.size :: st.map (gv_t ad)).map fun v => v.category).sum + (13 * (gv_nm.length + 1) + 41) ≤ R.locals
      rw [List.map_cons, List.sum_cons, gv_cat]
      show 2 * 0 + (1 + (st.map fun v => v.category).sum) + (13 * (2 + 1) + 41) ≤ R.locals
      omega)
  have hu : ∀ q, q < s.heap.size → U.heap[q]? = s.heap[q]? := by
    have h9 := gv_same0 hsame
    exact h9
  have hu0 : ∀ q, q < s.heap.size → T.heap[q]? = s.heap[q]? := by
    have h9 := gv_same0 X.same
    exact h9
  refine ⟨U, st1 _ ?_, hE.2 n σ U T.heap.size [] (cells + 1) (slots + 6) h hrun hend hW hsame (by omega) (by omega) hX ?_ ?_ ⟨ce, hce, by rw [K.vm]; rfl, K.cls⟩⟩
  · have hx := hC.1.1
    have hb := hC.1.2.1
    show Steps p.tables e below (T1.setTop (F0 m (pc + 3) sl (.ref T.heap.size :: st.map (gv_t ad)))) _
    jvm_step X₁.here [X₁.here.top, hx, hb, hd3, Value.category]
    exact hsteps
  · intro j q hq
    have hj : j < gv_sh.length := by rw [← gv_wlen cA ad σ]; exact (List.getElem?_eq_some_iff.mp hq).1
    have hqa : q.1 = ad j := by
      rw [gv_wget σ (List.getElem?_eq_getElem hj)] at hq
      cases hq; rfl
    refine (hP j q hq).kept ?_
    rw [hqa, hu _ (hold j hj), hu0 _ (hold j hj)]
  · exact ⟨hsame.2.1, fun q h1 _ => hu q h1, fun q hq => by cases hq⟩
