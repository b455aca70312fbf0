theorem gv_castm {a b : String} {s U : State} (hW : s.WarmedH U.vm) (h : (Cond.castable a b).before #[] s = true) : (Cond.castable a b).before #[] U = true := by
  have hal := hW.alike
  simp only [Cond.before, Cond.holds, Cond.value] at h ⊢
  rw [hal.findClass, hal.findClass]
  cases h1 : s.vm.findClass a with
  | none => rw [h1] at h; exact h
  | some x =>
    cases h2 : s.vm.findClass b with
    | none => rw [h1, h2] at h; exact h
    | some y =>
      rw [h1, h2] at h
      simp only [hal.assignable] at h ⊢
      exact h
theorem gv_ncastm {a b : String} {s U : State} (hW : s.WarmedH U.vm) (h : (Cond.not (.castable a b)).before #[] s = true) : (Cond.not (.castable a b)).before #[] U = true := by
  have hal := hW.alike
  simp only [Cond.before, Cond.holds, Cond.value] at h ⊢
  rw [hal.findClass, hal.findClass]
  cases h1 : s.vm.findClass a with
  | none => rw [h1] at h; exact h
  | some x =>
    cases h2 : s.vm.findClass b with
    | none => rw [h1, h2] at h; exact h
    | some y =>
      rw [h1, h2] at h
      simp only [hal.assignable] at h ⊢
      exact h
theorem gv_ncs {w : Cond} (h : w ∈ gv_nc) : ∃ a b, w = .not (.castable a b) := by
  simp only [gv_nc, List.mem_cons, List.not_mem_nil, or_false] at h
  rcases h with rfl | rfl | rfl | rfl | rfl | rfl <;> exact ⟨_, _, rfl⟩
theorem gv_wt {w : Cond} (hw : w ∈ gv_ws) {A A' : Array Value} {u U : State} (h : u.vm = U.vm) (hb : w.before A u = true) : w.before A' U = true := by
  rcases List.mem_append.mp hw with hw | hw
  · obtain ⟨a, b, rfl⟩ := gv_ncs hw
    simp only [Cond.before, Cond.holds, Cond.value] at hb ⊢
    rw [← h]
    exact hb
  · have hg := (List.mem_filter.mp hw).2
    have ho : w.onTables = true := by
      by_cases h1 : (w.onTables && w.keeps) = true
      · exact (Bool.and_eq_true_iff.mp h1).1
      · cases w <;> first | rfl | exact absurd hg h1
    exact va_tabs ho h hb
theorem gv_wm {s U : State} (hW : s.WarmedH U.vm) {w : Cond} (hw : w ∈ gv_ws) (h : w.before #[] s = true) : w.before #[] U = true := by
  rcases List.mem_append.mp hw with hw | hw
  · obtain ⟨a, b, rfl⟩ := gv_ncs hw
    exact gv_ncastm hW h
  · have hg := (List.mem_filter.mp hw).2
    by_cases h1 : (w.onTables && w.keeps) = true
    · exact word_at hW (Or.inl h1) h
    · cases w <;> first | exact va_Nw.warmF hW h | exact va_Nw.warmM hW h | exact va_Nw.warmD hW h | exact gv_castm hW h | exact absurd hg h1
def gv_Zs (C n d : String) (A : Nat → Prop) (U : State) (H : Heap) : Prop := ∃ (c : ClassId) (k : Class) (i : Nat) (f : Field) (a : Nat) (cell : Cell) (v : Value), U.vm.findClass C = some c ∧ U.fieldFound? C n d = some (c, k, i, f) ∧ f.isStatic = true ∧ k.statics = some a ∧ k.staticTypes[f.slot]? = some f.type ∧ H[a]? = some cell ∧ cell.vm.isStatics = true ∧ cell.cls = c ∧ f.slot < cell.slots.size ∧ cell.slots[f.slot]? = some v ∧ (v = .null ∨ ∃ t, v = .ref t) ∧ ¬ A a
theorem gv_Zs.moved {C n d : String} {A : Nat → Prop} {u U : State} {H : Heap} (hvm : u.vm.Alike U.vm) (h : gv_Zs C n d A u H) : gv_Zs C n d A U H := by
  obtain ⟨c, k, i, f, a, cell, v, h0, h1, h2, h3, h4, h5⟩ := h
  obtain ⟨k', hi', he⟩ := State.fieldFound?_setVm hvm h1
  exact ⟨c, k', i, f, a, cell, v, by rw [hvm.findClass]; exact h0, hi', h2, by rw [he]; exact h3, by rw [he]; exact h4, h5⟩
theorem gv_Zs.kept {C n d : String} {A : Nat → Prop} {U : State} {H H1 : Heap} (h : gv_Zs C n d A U H) (hq : ∀ a : Nat, a < H.size → ¬ A a → H1[a]? = H[a]?) : gv_Zs C n d A U H1 := by
  obtain ⟨c, k, i, f, a, cell, v, h0, h1, h2, h3, h4, h5, h6, h7, h8, h9, h10, h11⟩ := h
  exact ⟨c, k, i, f, a, cell, v, h0, h1, h2, h3, h4, by rw [hq a (Array.getElem?_eq_some_iff.mp h5).1 h11]; exact h5, h6, h7, h8, h9, h10, h11⟩
theorem gv_Zs.narrow {C n d : String} {A B : Nat → Prop} {U : State} {H : Heap} (h : gv_Zs C n d A U H) (hAB : ∀ q, B q → A q) : gv_Zs C n d B U H := by
  obtain ⟨c, k, i, f, a, cell, v, h0, h1, h2, h3, h4, h5, h6, h7, h8, h9, h10, h11⟩ := h
  exact ⟨c, k, i, f, a, cell, v, h0, h1, h2, h3, h4, h5, h6, h7, h8, h9, h10, fun z => h11 (hAB a z)⟩
theorem gv_Zs.of {C n d : String} {A : Nat → Prop} {s : State} {args : Array Value} (hl : (Cond.laysStatic C n d).before args s = true) (h : (Cond.isRef (.static C n d)).before args s = true) (hA : ∀ a : Nat, a < s.heap.size → ¬ A a) : gv_Zs C n d A s s.heap := by
  obtain ⟨c, k, i, f, a, cell, hc, hi, hst, ha, hcell, hs, hcls, hlt, hty⟩ := Cond.laysStatic_spec hl
  cases hv : (Term.static C n d).eval args s none [] s with
  | none => simp [Cond.before, Cond.holds, Cond.value, hv] at h
  | some w =>
    obtain ⟨hst', a', cell', ha', hcell', -, hslot⟩ := Term.static_spec hi hv
    cases ha.symm.trans ha'
    cases hcell.symm.trans hcell'
    refine ⟨c, k, i, f, a, cell, w, hc, hi, hst, ha, hty, hcell, hs, hcls, hlt, hslot, ?_, hA a (Array.getElem?_eq_some_iff.mp hcell).1⟩
    simp only [Cond.before, Cond.holds, Cond.value, hv] at h
    cases w with
    | null => exact Or.inl rfl
    | ref t => exact Or.inr ⟨t, rfl⟩
    | _ => simp at h
theorem gv_Zs.isref {C n d : String} {A : Nat → Prop} {s : State} (h : gv_Zs C n d A s s.heap) (args : Array Value) : (Cond.isRef (.static C n d)).before args s = true := by
  obtain ⟨c, k, i, f, a, cell, v, h0, h1, h2, h3, h4, h5, h6, h7, h8, h9, h10, h11⟩ := h
  rcases h10 with rfl | ⟨t, rfl⟩ <;> simp [Cond.before, Cond.holds, Cond.value, Term.eval, State.fieldNamed?, h1, h2, h3, h5, h6, h9]
theorem gv_Zs.lays {C n d : String} {A : Nat → Prop} {s : State} (h : gv_Zs C n d A s s.heap) (args : Array Value) : (Cond.laysStatic C n d).before args s = true := by
  obtain ⟨c, k, i, f, a, cell, v, h0, h1, h2, h3, h4, h5, h6, h7, h8, h9, h10, h11⟩ := h
  simp [Cond.before, Cond.holds, Cond.value, h0, h1, h2, h3, h4, h5, h6, h7, h8]
