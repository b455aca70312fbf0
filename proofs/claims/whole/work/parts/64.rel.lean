def rA (n : Nat) (σ : gS) : Prop := n ≤ 1040 ∧ gI σ 0 7 = nI n ∧ gI σ 41 2 = nI n ∧ ∀ i, i < n → gA σ 1 i = gA σ 42 i
def rB (n : Nat) (σ : gS) : Prop := gI σ 0 8 = gI σ 41 6 ∧ (gI σ 0 9 = gI σ 41 5 ∧ (gI σ 0 9 = 0 ∨ gI σ 0 9 = 1)) ∧ (gI σ 0 11 = gI σ 41 4 ∧ (gI σ 0 11 = 0 ∨ gI σ 0 11 = 1) ∧ (gI σ 0 11 = 1 → ∀ i, i < n → gA σ 40 i = gA σ 43 i)) ∧ gI σ 10 6 = gI σ 41 12
def rCl (W : Nat → Int32) (n : Nat) : Prop := n ≤ 520 ∨ ∀ u, ¬ sp_X W n u
noncomputable def sp_m (W : Nat → Int32) (n p : Nat) : Nat := sp_i (sp_g W n p) + 2 * sp_i (sp_T W n p) + 4 * sp_i (sp_X W n p) + 8 * sp_i (sp_C W n p)
def rSC (n : Nat) (σ : gS) : Prop := ((gI σ 0 10 = 0 ∨ gI σ 0 10 = 1) ∧ (gI σ 0 10 = 1 → (∀ p, p < n → gA σ 27 p = nI (sp_m (gA σ 42) n p)) ∧ gI σ 26 10 = nI (sp_n (sp_X (gA σ 42) n) n) ∧ gI σ 33 8 = nI (sp_n (sp_C (gA σ 42) n) n))) ∧ (∀ p, p < n → ¬ gA σ 23 p = 0 → ∀ q, q < n → ((gL σ 22 (17 * p + q / 64)).toBitVec.getLsbD (q % 64) = true ↔ sp_c (gA σ 42) n p q)) ∧ ∀ q, q < n → gA σ 24 q = 0 ∨ ∃ f, f < n ∧ gA σ 24 q = nI (f + 1) ∧ ¬ gA σ 23 f = 0
def rSR (n : Nat) (σ : gS) : Prop := (gI σ 41 6 = -1 ∧ (gI σ 41 20 = 0 ∨ gI σ 41 20 = 1)) ∧ (gI σ 41 20 = 1 → (∀ p, p < n → gA σ 52 p = nI (sp_i (sp_g (gA σ 42) n p)) ∧ gA σ 53 p = nI (sp_i (sp_T (gA σ 42) n p)) ∧ gA σ 54 p = nI (sp_i (sp_X (gA σ 42) n p)) ∧ gA σ 56 p = nI (sp_i (sp_C (gA σ 42) n p))) ∧ gI σ 41 27 = nI (sp_n (sp_X (gA σ 42) n) n) ∧ gI σ 41 26 = nI (sp_n (sp_C (gA σ 42) n) n) ∧ ∀ p, p < n → ∀ q, q < n → ((gA σ 57 (33 * p + q / 32)).toBitVec.getLsbD (q % 32) = true ↔ sp_c (gA σ 42) n p q))
def ke_ok (W : Nat → Int32) (n : Nat) (ks : List kE) : Prop := ∀ e ∈ ks, e.1 < n ∧ sp_k W e.1 = 5 ∧ e.2.2.2.1 0 = 0
def rM (n : Nat) (σ : gS) : Prop := ∃ (m : mS) (o : Nat) (ks : List kE), aC σ m ∧ aR σ m ∧ mc_ok n m ∧ gC (gA σ 42) σ o ks ∧ gK σ ks ∧ ke_ok (gA σ 42) n ks
def rL (n : Nat) (σ : gS) : Prop := rD n σ ∧ rM n σ ∧ rSC n σ ∧ rSR n σ
def rel (X : List Int32) (σ : gS) : Prop := σ.2.2.2 = X ∧ ∃ n, rA n σ ∧ rB n σ ∧ rCl (gA σ 42) n ∧ (gI σ 0 9 = 1 → rL n σ)
theorem sm_I {I : List (Nat × Nat)} {A L : List Nat} {σ s : gS} (h : gd_sm I A L σ s) {p k : Nat} (hp : I.contains (p, k) = true) : gI s p k = gI σ p k := h.1 (p, k) (List.contains_iff_mem.mp hp)
theorem sm_A {I : List (Nat × Nat)} {A L : List Nat} {σ s : gS} (h : gd_sm I A L σ s) {p : Nat} (hp : A.contains p = true) : gA s p = gA σ p := h.2.1 p (List.contains_iff_mem.mp hp)
theorem sm_L {I : List (Nat × Nat)} {A L : List Nat} {σ s : gS} (h : gd_sm I A L σ s) {p : Nat} (hp : L.contains p = true) : gL s p = gL σ p := h.2.2 p (List.contains_iff_mem.mp hp)
theorem rA_sm {n : Nat} {σ s : gS} (h : rA n σ) (g : gd_sm [(0, 7), (41, 2)] [1, 42] [] σ s) : rA n s := by
  unfold rA at h ⊢
  rw [sm_I g (p := 0) (k := 7) rfl, sm_I g (p := 41) (k := 2) rfl, sm_A g (p := 1) rfl, sm_A g (p := 42) rfl]
  exact h
theorem rB_sm {n : Nat} {σ s : gS} (h : rB n σ) (g : gd_sm [(0, 8), (41, 6), (0, 9), (41, 5), (0, 11), (41, 4), (10, 6), (41, 12)] [40, 43] [] σ s) : rB n s := by
  unfold rB at h ⊢
  rw [sm_I g (p := 0) (k := 8) rfl, sm_I g (p := 41) (k := 6) rfl, sm_I g (p := 0) (k := 9) rfl, sm_I g (p := 41) (k := 5) rfl, sm_I g (p := 0) (k := 11) rfl, sm_I g (p := 41) (k := 4) rfl, sm_I g (p := 10) (k := 6) rfl, sm_I g (p := 41) (k := 12) rfl, sm_A g (p := 40) rfl, sm_A g (p := 43) rfl]
  exact h
theorem rSC_sm {n : Nat} {σ s : gS} (h : rSC n σ) (g : gd_sm [(0, 10), (26, 10), (33, 8)] [27, 42, 23, 24] [22] σ s) : rSC n s := by
  unfold rSC at h ⊢
  rw [sm_I g (p := 0) (k := 10) rfl, sm_I g (p := 26) (k := 10) rfl, sm_I g (p := 33) (k := 8) rfl, sm_A g (p := 27) rfl, sm_A g (p := 42) rfl, sm_A g (p := 23) rfl, sm_A g (p := 24) rfl, sm_L g (p := 22) rfl]
  exact h
theorem rSR_sm {n : Nat} {σ s : gS} (h : rSR n σ) (g : gd_sm [(41, 20), (41, 27), (41, 26), (41, 6)] [52, 53, 54, 56, 42, 57] [] σ s) : rSR n s := by
  unfold rSR at h ⊢
  rw [sm_I g (p := 41) (k := 6) rfl, sm_I g (p := 41) (k := 20) rfl, sm_I g (p := 41) (k := 27) rfl, sm_I g (p := 41) (k := 26) rfl, sm_A g (p := 52) rfl, sm_A g (p := 53) rfl, sm_A g (p := 54) rfl, sm_A g (p := 56) rfl, sm_A g (p := 42) rfl, sm_A g (p := 57) rfl]
  exact h
theorem aC_sm {m : mS} {σ s : gS} (h : aC σ m) (g : gd_sm [(10, 5), (13, 1)] [11, 12] [14] σ s) : aC s m := by
  unfold aC at h ⊢
  rw [sm_I g (p := 10) (k := 5) rfl, sm_I g (p := 13) (k := 1) rfl, sm_A g (p := 11) rfl, sm_A g (p := 12) rfl, sm_L g (p := 14) rfl]
  exact h
theorem aR_sm {m : mS} {σ s : gS} (h : aR σ m) (g : gd_sm [(41, 7), (41, 11)] [44, 45] [46] σ s) : aR s m := by
  unfold aR at h ⊢
  rw [sm_I g (p := 41) (k := 7) rfl, sm_I g (p := 41) (k := 11) rfl, sm_A g (p := 44) rfl, sm_A g (p := 45) rfl, sm_L g (p := 46) rfl]
  exact h
theorem gC1_sm {W : Nat → Int32} {i : Nat} {e : kE} {σ s : gS} (h : gC1 W σ i e) (g : gd_sm [(15, 5), (15, 6), (15, 7)] [16, 17, 18, 19, 20] [] σ s) : gC1 W s i e := by
  unfold gC1 at h ⊢
  rw [sm_I g (p := 15) (k := 7) rfl, sm_A g (p := 16) rfl, sm_A g (p := 17) rfl, sm_A g (p := 18) rfl, sm_A g (p := 19) rfl, sm_A g (p := 20) rfl]
  exact h
theorem gC_sm {W : Nat → Int32} {o : Nat} {ks : List kE} {σ s : gS} (h : gC W σ o ks) (g : gd_sm [(15, 5), (15, 6), (15, 7)] [16, 17, 18, 19, 20] [] σ s) : gC W s o ks :=
  ⟨h.1, ⟨(sm_I g (p := 15) (k := 5) rfl).trans h.2.1.1, (sm_I g (p := 15) (k := 6) rfl).trans h.2.1.2⟩, fun i e he => gC1_sm (h.2.2 i e he) g⟩
theorem gK1_sm {i : Nat} {e : kE} {σ s : gS} (h : gK1 σ i e) (g : gd_sm [(41, 18), (41, 19)] [47, 48, 49, 50, 51] [] σ s) : gK1 s i e := by
  unfold gK1 at h ⊢
  rw [sm_I g (p := 41) (k := 19) rfl, sm_A g (p := 47) rfl, sm_A g (p := 48) rfl, sm_A g (p := 49) rfl, sm_A g (p := 50) rfl, sm_A g (p := 51) rfl]
  exact h
theorem gK_sm {ks : List kE} {σ s : gS} (h : gK σ ks) (g : gd_sm [(41, 18), (41, 19)] [47, 48, 49, 50, 51] [] σ s) : gK s ks :=
  ⟨h.1, (sm_I g (p := 41) (k := 18) rfl).trans h.2.1, fun i e he => gK1_sm (h.2.2 i e he) g⟩
theorem rM_sm {n : Nat} {σ s : gS} (h : rM n σ) (g : gd_sm [(10, 5), (13, 1), (41, 7), (41, 11), (15, 5), (15, 6), (15, 7), (41, 18), (41, 19)] [11, 12, 44, 45, 16, 17, 18, 19, 20, 47, 48, 49, 50, 51, 42] [14, 46] σ s) : rM n s := by
  obtain ⟨m, o, ks, h1, h2, h3, h4, h5, h6⟩ := h
  have e := sm_A g (p := 42) rfl
  refine ⟨m, o, ks, aC_sm h1 ⟨fun x hx => ?_, fun x hx => ?_, fun x hx => ?_⟩, aR_sm h2 ⟨fun x hx => ?_, fun x hx => ?_, fun x hx => ?_⟩, h3, ?_, gK_sm h5 ⟨fun x hx => ?_, fun x hx => ?_, fun x hx => ?_⟩, by rw [e]; exact h6⟩
  · exact g.1 x ((by decide : ∀ x ∈ [(10, 5), (13, 1)], x ∈ [(10, 5), (13, 1), (41, 7), (41, 11), (15, 5), (15, 6), (15, 7), (41, 18), (41, 19)]) x hx)
  · exact g.2.1 x ((by decide : ∀ x ∈ [11, 12], x ∈ [11, 12, 44, 45, 16, 17, 18, 19, 20, 47, 48, 49, 50, 51, 42]) x hx)
  · exact g.2.2 x ((by decide : ∀ x ∈ [14], x ∈ [14, 46]) x hx)
  · exact g.1 x ((by decide : ∀ x ∈ [(41, 7), (41, 11)], x ∈ [(10, 5), (13, 1), (41, 7), (41, 11), (15, 5), (15, 6), (15, 7), (41, 18), (41, 19)]) x hx)
  · exact g.2.1 x ((by decide : ∀ x ∈ [44, 45], x ∈ [11, 12, 44, 45, 16, 17, 18, 19, 20, 47, 48, 49, 50, 51, 42]) x hx)
  · exact g.2.2 x ((by decide : ∀ x ∈ [46], x ∈ [14, 46]) x hx)
  · rw [e]
    exact gC_sm h4 ⟨fun x hx => g.1 x ((by decide : ∀ x ∈ [(15, 5), (15, 6), (15, 7)], x ∈ [(10, 5), (13, 1), (41, 7), (41, 11), (15, 5), (15, 6), (15, 7), (41, 18), (41, 19)]) x hx), fun x hx => g.2.1 x ((by decide : ∀ x ∈ [16, 17, 18, 19, 20], x ∈ [11, 12, 44, 45, 16, 17, 18, 19, 20, 47, 48, 49, 50, 51, 42]) x hx), fun x hx => by cases hx⟩
  · exact g.1 x ((by decide : ∀ x ∈ [(41, 18), (41, 19)], x ∈ [(10, 5), (13, 1), (41, 7), (41, 11), (15, 5), (15, 6), (15, 7), (41, 18), (41, 19)]) x hx)
  · exact g.2.1 x ((by decide : ∀ x ∈ [47, 48, 49, 50, 51], x ∈ [11, 12, 44, 45, 16, 17, 18, 19, 20, 47, 48, 49, 50, 51, 42]) x hx)
  · cases hx
theorem rel_fm {X : List Int32} {V : gW} {σ s : gS} (h : rel X σ) (f : gd_fm V σ s) (h1 : fm_dis V [(0, 7), (41, 2)] [1, 42] [] = true) (h2 : fm_dis V [(0, 8), (41, 6), (0, 9), (41, 5), (0, 11), (41, 4), (10, 6), (41, 12)] [40, 43] [] = true) (h3 : fm_dis V [(2, 7)] [3, 4, 5, 6, 7, 8, 9, 42] [] = true) (h4 : fm_dis V [(10, 5), (13, 1), (41, 7), (41, 11), (15, 5), (15, 6), (15, 7), (41, 18), (41, 19)] [11, 12, 44, 45, 16, 17, 18, 19, 20, 47, 48, 49, 50, 51, 42] [14, 46] = true) (h5 : fm_dis V [(0, 10), (26, 10), (33, 8)] [27, 42, 23, 24] [22] = true) (h6 : fm_dis V [(41, 20), (41, 27), (41, 26), (41, 6)] [52, 53, 54, 56, 42, 57] [] = true) : rel X s := by
  obtain ⟨hX, n, a, b, c, l⟩ := h
  have e42 := sm_A (fm_sm f h1) (p := 42) rfl
  have e09 := sm_I (fm_sm f h2) (p := 0) (k := 9) rfl
  refine ⟨f.2.2.2.trans hX, n, rA_sm a (fm_sm f h1), rB_sm b (fm_sm f h2), by rw [e42]; exact c, fun z => ?_⟩
  rw [e09] at z
  obtain ⟨d1, d2, d3, d4⟩ := l z
  exact ⟨rD_sm d1 (fm_sm f h3), rM_sm d2 (fm_sm f h4), rSC_sm d3 (fm_sm f h5), rSR_sm d4 (fm_sm f h6)⟩
