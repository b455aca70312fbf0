theorem gv_thall (own : String) (ic n : Nat) (h : ((Jvm.Bundle.ownAtoms0 own ic (gv_en n) gv_nm).all fun a => (decide (a = .isRef (.static "java/lang/Throwable" "UNASSIGNED_STACK" "[Ljava/lang/StackTraceElement;")) || decide (a = .laysStatic "java/lang/Throwable" "UNASSIGNED_STACK" "[Ljava/lang/StackTraceElement;")) || ((decide (a = .isRef (.static "java/lang/Throwable" "SUPPRESSED_SENTINEL" "Ljava/util/List;")) || decide (a = .laysStatic "java/lang/Throwable" "SUPPRESSED_SENTINEL" "Ljava/util/List;")) || (gv_good a && decide (a ∈ tables_1)))) = true) :
    ∀ a ∈ Jvm.Bundle.ownAtoms0 own ic (gv_en n) gv_nm, a ∈ gv_ws ∨ (a = .isRef (.static "java/lang/Throwable" "UNASSIGNED_STACK" "[Ljava/lang/StackTraceElement;") ∨ a = .laysStatic "java/lang/Throwable" "UNASSIGNED_STACK" "[Ljava/lang/StackTraceElement;") ∨ (a = .isRef (.static "java/lang/Throwable" "SUPPRESSED_SENTINEL" "Ljava/util/List;") ∨ a = .laysStatic "java/lang/Throwable" "SUPPRESSED_SENTINEL" "Ljava/util/List;") := by
  intro a ha
  have h1 := List.all_eq_true.mp h a ha
  simp only [Bool.or_eq_true, Bool.and_eq_true, decide_eq_true_eq] at h1
  rcases h1 with h1 | h1 | ⟨h1, h2⟩
  · exact Or.inr (Or.inl h1)
  · exact Or.inr (Or.inr h1)
  · exact Or.inl (List.mem_append_right _ (List.mem_filter.mpr ⟨List.mem_append_right _ h2, h1⟩))
theorem th_0_83 : gv_th "GuessFences" 83 85 3 := ⟨gv_i2 236 rfl rfl, gv_i2 237 rfl rfl, gv_i1 14 rfl rfl, by decide, gv_thall "GuessFences" 85 3 (by decide +kernel)⟩
theorem th_0_183 : gv_th "GuessFences" 183 185 2 := ⟨gv_i3 94 rfl rfl, gv_i3 95 rfl rfl, gv_i1 18 rfl rfl, by decide, gv_thall "GuessFences" 185 2 (by decide +kernel)⟩
theorem th_0_186 : gv_th "GuessFences" 186 188 1 := ⟨gv_i3 75 rfl rfl, gv_i3 76 rfl rfl, gv_i1 17 rfl rfl, by decide, gv_thall "GuessFences" 188 1 (by decide +kernel)⟩
