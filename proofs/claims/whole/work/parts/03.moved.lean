theorem gv_castm {a b : String} {s U : State} (hW : s.WarmedH U.vm) (h : (Cond.castable a b).before #[] s = true) : (Cond.castable a b).before #[] U = true := by
  have hal := hW.alike
  simp only [Cond.before, Cond.holds, Cond.value] at h ⊢
  rw [hal.findClass, hal.findClass]
  cases h1 : s.vm.findClass a with
  | none => rw [h1] at h; exact h
  | some x =>
    cases h2 : s.vm.findClass b with
    | none => rw [h1, h2] at h; exact h
    | some y =>
      rw [h1, h2] at h
      simp only [hal.assignable] at h ⊢
      exact h
theorem gv_ncastm {a b : String} {s U : State} (hW : s.WarmedH U.vm) (h : (Cond.not (.castable a b)).before #[] s = true) : (Cond.not (.castable a b)).before #[] U = true := by
  have hal := hW.alike
  simp only [Cond.before, Cond.holds, Cond.value] at h ⊢
  rw [hal.findClass, hal.findClass]
  cases h1 : s.vm.findClass a with
  | none => rw [h1] at h; exact h
  | some x =>
    cases h2 : s.vm.findClass b with
    | none => rw [h1, h2] at h; exact h
    | some y =>
      rw [h1, h2] at h
      simp only [hal.assignable] at h ⊢
      exact h
theorem gv_ncs {w : Cond} (h : w ∈ gv_nc) : ∃ a b, w = .not (.castable a b) := by
  simp only [gv_nc, List.mem_cons, List.not_mem_nil, or_false] at h
  rcases h with rfl | rfl | rfl | rfl | rfl | rfl <;> exact ⟨_, _, rfl⟩
theorem gv_wt {w : Cond} (hw : w ∈ gv_ws) {A A' : Array Value} {u U : State} (h : u.vm = U.vm) (hb : w.before A u = true) : w.before A' U = true := by
  rcases List.mem_append.mp hw with hw | hw
  · obtain ⟨a, b, rfl⟩ := gv_ncs hw
    simp only [Cond.before, Cond.holds, Cond.value] at hb ⊢
    rw [← h]
    exact hb
  · have hg := (List.mem_filter.mp hw).2
    have ho : w.onTables = true := by
      by_cases h1 : (w.onTables && w.keeps) = true
      · exact (Bool.and_eq_true_iff.mp h1).1
      · cases w <;> first | rfl | exact absurd hg h1
    exact va_tabs ho h hb
theorem gv_wm {s U : State} (hW : s.WarmedH U.vm) {w : Cond} (hw : w ∈ gv_ws) (h : w.before #[] s = true) : w.before #[] U = true := by
  rcases List.mem_append.mp hw with hw | hw
  · obtain ⟨a, b, rfl⟩ := gv_ncs hw
    exact gv_ncastm hW h
  · have hg := (List.mem_filter.mp hw).2
    by_cases h1 : (w.onTables && w.keeps) = true
    · exact word_at hW (Or.inl h1) h
    · cases w <;> first | exact va_Nw.warmF hW h | exact va_Nw.warmM hW h | exact va_Nw.warmD hW h | exact gv_castm hW h | exact absurd hg h1
