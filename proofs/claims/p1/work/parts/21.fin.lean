set_option maxHeartbeats 1000000 in
theorem gc_fin {p : Program} {e : Env} {s : State} {m : MethodId} {below : List Frame} {meth : Method} {c : Code} (l : Launch) (hl0 : l.stackTraces = false) {b L : Nat} {xs : Nat → Int32} (C0 : lw_At p s m meth c b L xs) (htab : (c.exceptionTable.toList.map fun h => (h.startPc, h.endPc, h.handlerPc, h.catchType)) = [])
    (hV : gv_V m_L_law 600 false 23 [some (.ref 900), some (.ref 0), some (.ref 41), some (.ref 66), some (.int 0), none, none] [] (gv_s0 ((List.range L).map xs)) (fun o _ => o = .inl (some (.int 1))))
    {dC : Nat → ClassId} {dI : Nat → Nat → Nat} {cA : FieldType → ClassId} (hK : va_K (dC, dI) vwCl (gv_ty cA) s) {QL : List Nat} (hlenq : QL.length = 67) (hinj : (∀ i j, i < QL.length → j < QL.length → QL.getD i 0 = QL.getD j 0 → i = j) ∧ ∀ i, i < QL.length → s.heap.size ≤ QL.getD i 0) {H : Heap} {locs : List Loc} {ls : Array Slot}
    (hP2 : va_P (dC, dI) vwCl (gv_w cA (gc_ad b QL) (gv_s0 ((List.range L).map xs))) H) (hS : va_S (fun q => s.heap.size ≤ q) s.heap H locs) (hl : lv_has ls 7 [(4, .int 0), (3, .ref (QL.getD 66 0)), (2, .ref (QL.getD 41 0)), (1, .ref (QL.getD 0 0)), (0, .ref b)]) :
    W p l e room_1 s m #[Value.ref b] below meth c H locs 67 139984 (lw_Z below #[Value.ref b] s) (F0 m 23 ls []) := by
  have hT := gc_Tc C0.2.2.2.2.2.1 C0.2.2.2.2.2.2.2.2.2
  obtain ⟨hx, hb, hr, hml, hown, hts0, hX, hbl, hlocks, hgv⟩ := C0
  have hinj1 : ∀ i j, i < gv_sh.length → j < gv_sh.length → gc_ad b QL i = gc_ad b QL j → i = j := by
    intro i j hi hj he
    rw [gv_shl] at hi hj
    rw [gc_adn hi, gc_adn hj] at he
    exact hinj.1 i j (by rw [hlenq]; exact hi) (by rw [hlenq]; exact hj) he
  have hnew : ∀ i, i < gv_sh.length → s.heap.size ≤ gc_ad b QL i := by
    intro i hi
    rw [gv_shl] at hi
    rw [gc_adn hi]
    exact hinj.2 i (by rw [hlenq]; exact hi)
  have hscr : gc_ad b QL gv_scr = b := rfl
  have hnA : ∀ a : Nat, a < s.heap.size → ¬ gv_A (gc_ad b QL) s a := by
    intro a ha z
    rcases z with ⟨i, hi, rfl⟩ | z
    · exact absurd (hnew i hi) (by omega)
    · omega
  have hq := flat_of_before _ hgv
  have hZ1 : gv_Zs "java/lang/Throwable" "UNASSIGNED_STACK" "[Ljava/lang/StackTraceElement;" (gv_A (gc_ad b QL) s) s s.heap := gv_Zs.of (hts0 (.laysStatic "java/lang/Throwable" "UNASSIGNED_STACK" "[Ljava/lang/StackTraceElement;") (List.mem_append_right _ (List.mem_append_right _ (List.mem_append_right _ (List.mem_append_left _ (List.mem_of_getElem? (i := 23) rfl)))))) (hq (.isRef (.static "java/lang/Throwable" "UNASSIGNED_STACK" "[Ljava/lang/StackTraceElement;")) (by decide +kernel)) hnA
  have hZ2 : gv_Zs "java/lang/Throwable" "SUPPRESSED_SENTINEL" "Ljava/util/List;" (gv_A (gc_ad b QL) s) s s.heap := gv_Zs.of (hts0 (.laysStatic "java/lang/Throwable" "SUPPRESSED_SENTINEL" "Ljava/util/List;") (List.mem_append_right _ (List.mem_append_right _ (List.mem_append_right _ (List.mem_append_left _ (List.mem_of_getElem? (i := 25) rfl)))))) (hq (.isRef (.static "java/lang/Throwable" "SUPPRESSED_SENTINEL" "Ljava/util/List;")) (by decide +kernel)) hnA
  have hC : gv_C m_L_law p l room_1 s m meth c (dC, dI) cA (gc_ad b QL) :=
    ⟨⟨hx, hb, hml, hown, hr, hlocks, htab, hl0, by decide, by decide⟩, hT.1, hK, hinj1, ⟨fun i hi z => by
      have := hnew i hi
      rw [hscr] at z
      omega, by rw [hscr]; exact hbl⟩, hZ1, hZ2⟩
  have hE : gv_Ex m_L_law p l e room_1 s m #[Value.ref b] below meth c (dC, dI) cA (gc_ad b QL) (lw_Z below #[Value.ref b] s) (fun o _ => o = .inl (some (.int 1))) := by
    refine ⟨?_, ?_⟩
    · intro v σ k H locs cells slots sl pc i hQ hri _ _ hc hs _ _ hS' hd
      cases hQ
      rcases hri with ⟨h, _⟩ | ⟨x, ty, h, _, _, rfl⟩ | ⟨x, h, _⟩
      · cases h
      · cases h
        refine va_forget (fun q hq => ?_) ?_
        · rcases hS'.2.2 q hq with ⟨i, hi, z⟩ | z
          · rw [z]; exact hnew i hi
          · exact z
        · refine W.widen (k := 600002) (n := 7302232) ?_ ?_ (lw_ret hx hb hr hlocks hd)
          · have : room_1.cells = 600002 := rfl
            omega
          · have : room_1.slots = 7302232 := rfl
            omega
      · cases h
    · intro n σ U a locs cells slots hQ
      cases hQ
  have hX2 : gv_X (gc_ad b QL) (gv_s0 ((List.range L).map xs)) s := by
    show va_X b ((List.range L).map xs).length (fun j => ((List.range L).map xs).getD j 0) s s.heap
    obtain ⟨scr, z1, z2, z3, z4, z5⟩ := hX
    refine ⟨scr, z1, z2, z3, by rw [z4]; simp, fun j hj => ?_⟩
    rw [List.length_map, List.length_range] at hj
    rw [z5 j hj]
    simp [hj]
  have hS2 : va_S (gv_A (gc_ad b QL) s) s.heap H locs := ⟨hS.1, fun q h1 h2 => hS.2.1 q h1 (fun z => h2 (Or.inr z)), fun q hq => Or.inr (hS.2.2 q hq)⟩
  refine hV p l e room_1 s m #[Value.ref b] below meth c (dC, dI) cA (gc_ad b QL) _ hC hE H locs 67 139984 ls (fun z => by cases z) (by decide) (by decide) hX2 hP2 hS2 ⟨hl.1, hl.2.1, fun q hq => ?_⟩
  refine hl.2.2 q ?_
  have hq2 : q ∈ [(0, Value.ref b), (1, Value.ref (QL.getD 0 0)), (2, Value.ref (QL.getD 41 0)), (3, Value.ref (QL.getD 66 0)), (4, Value.int 0)] := hq
  simp only [List.mem_cons, List.not_mem_nil, or_false] at hq2 ⊢
  rcases hq2 with h | h | h | h | h
  · exact Or.inr (Or.inr (Or.inr (Or.inr h)))
  · exact Or.inr (Or.inr (Or.inr (Or.inl h)))
  · exact Or.inr (Or.inr (Or.inl h))
  · exact Or.inr (Or.inl h)
  · exact Or.inl h
