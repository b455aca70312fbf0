theorem gv_thall (own : String) (ic n : Nat) (h : ((Jvm.Bundle.ownAtoms0 own ic (gv_en n) gv_nm).all fun a => (decide (a = .isRef (.static "java/lang/Throwable" "UNASSIGNED_STACK" "[Ljava/lang/StackTraceElement;")) || decide (a = .laysStatic "java/lang/Throwable" "UNASSIGNED_STACK" "[Ljava/lang/StackTraceElement;")) || ((decide (a = .isRef (.static "java/lang/Throwable" "SUPPRESSED_SENTINEL" "Ljava/util/List;")) || decide (a = .laysStatic "java/lang/Throwable" "SUPPRESSED_SENTINEL" "Ljava/util/List;")) || (gv_good a && decide (a ∈ tables_1)))) = true) :
    ∀ a ∈ Jvm.Bundle.ownAtoms0 own ic (gv_en n) gv_nm, a ∈ gv_ws ∨ (a = .isRef (.static "java/lang/Throwable" "UNASSIGNED_STACK" "[Ljava/lang/StackTraceElement;") ∨ a = .laysStatic "java/lang/Throwable" "UNASSIGNED_STACK" "[Ljava/lang/StackTraceElement;") ∨ (a = .isRef (.static "java/lang/Throwable" "SUPPRESSED_SENTINEL" "Ljava/util/List;") ∨ a = .laysStatic "java/lang/Throwable" "SUPPRESSED_SENTINEL" "Ljava/util/List;") := by
  intro a ha
  have h1 := List.all_eq_true.mp h a ha
  simp only [Bool.or_eq_true, Bool.and_eq_true, decide_eq_true_eq] at h1
  rcases h1 with h1 | h1 | ⟨h1, h2⟩
  · exact Or.inr (Or.inl h1)
  · exact Or.inr (Or.inr h1)
  · exact Or.inl (List.mem_append_right _ (List.mem_filter.mpr ⟨List.mem_append_right _ h2, h1⟩))
theorem th_0_83 : gv_th "GuessFences" 83 85 3 := ⟨gv_i2 236 rfl rfl, gv_i2 237 rfl rfl, gv_i1 14 rfl rfl, by decide, gv_thall "GuessFences" 85 3 (by decide +kernel)⟩
theorem th_0_183 : gv_th "GuessFences" 183 185 2 := ⟨gv_i3 94 rfl rfl, gv_i3 95 rfl rfl, gv_i1 18 rfl rfl, by decide, gv_thall "GuessFences" 185 2 (by decide +kernel)⟩
theorem th_0_186 : gv_th "GuessFences" 186 188 1 := ⟨gv_i3 75 rfl rfl, gv_i3 76 rfl rfl, gv_i1 17 rfl rfl, by decide, gv_thall "GuessFences" 188 1 (by decide +kernel)⟩
set_option maxRecDepth 20000 in
theorem c_G_noteNewWords (σ : gS) : gv_K m_G_noteNewWords [.ref 0] σ (gv_is (.inl none) (gs_I (gs_I σ 0 9 0) 0 11 0)) := by
  refine gv_aload_n (n := 0) (pc' := 1) (by decide +kernel) rfl rfl ?_
  refine gv_iconst (n := 0) (v := 0) (pc' := 2) (by decide +kernel) (by decide) rfl ?_
  refine gv_putj lp_0_70 (by decide +kernel) rfl rfl rfl rfl (pc' := 5) rfl ?_
  refine gv_aload_n (n := 0) (pc' := 6) (by decide +kernel) rfl rfl ?_
  refine gv_iconst (n := 0) (v := 0) (pc' := 7) (by decide +kernel) (by decide) rfl ?_
  refine gv_putj lp_0_77 (by decide +kernel) rfl rfl rfl rfl (pc' := 10) rfl ?_
  exact gv_ret (by decide +kernel) rfl (by decide) (by decide) (gv_isr _ _)

set_option maxRecDepth 20000 in
theorem c_M_changed (σ : gS) : gv_K m_M_changed [.ref 41] σ (gv_is (.inl none) (gs_I (gs_I σ 41 5 0) 41 4 0)) := by
  refine gv_aload_n (n := 0) (pc' := 1) (by decide +kernel) rfl rfl ?_
  refine gv_iconst (n := 0) (v := 0) (pc' := 2) (by decide +kernel) (by decide) rfl ?_
  refine gv_putj lp_9_95 (by decide +kernel) rfl rfl rfl rfl (pc' := 5) rfl ?_
  refine gv_aload_n (n := 0) (pc' := 6) (by decide +kernel) rfl rfl ?_
  refine gv_iconst (n := 0) (v := 0) (pc' := 7) (by decide +kernel) (by decide) rfl ?_
  refine gv_putj lp_9_99 (by decide +kernel) rfl rfl rfl rfl (pc' := 10) rfl ?_
  exact gv_ret (by decide +kernel) rfl (by decide) (by decide) (gv_isr _ _)

