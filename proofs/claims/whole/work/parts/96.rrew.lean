def rwk (W : Nat → Int32) (n : Nat) (σ : gS) : Prop := gA σ 42 = W ∧ sp_ok W n ∧ n ≤ 1040 ∧ gI σ 41 2 = nI n ∧ nm (sp_C W n) n ≤ 1040 ∧ ∀ p, p < n → gA σ 56 p = nI (sp_i (sp_C W n p))
theorem rwk_fm {W : Nat → Int32} {n : Nat} {V : gW} {σ s : gS} (h : rwk W n σ) (f : gd_fm V σ s) (hd : fm_dis V [(41, 2)] [42, 56] [] = true) : rwk W n s := by
  have g := fm_sm f hd
  refine ⟨(sm_A g (p := 42) rfl).trans h.1, h.2.1, h.2.2.1, (sm_I g (p := 41) (k := 2) rfl).trans h.2.2.2.1, h.2.2.2.2.1, ?_⟩
  rw [sm_A g (p := 56) rfl]; exact h.2.2.2.2.2
theorem rr_33 {W : Nat → Int32} {n : Nat} {σ : gS} (κ : Int32 → gS → gR) (h : rwk W n σ) :
    ∃ s, gd_lp (fun _ _ _ => none) (B_M_rewrite_33 κ) gd_N 0 0 σ = κ (nI (nm (sp_C W n) n)) s ∧ (∀ p, p < n → gA s 65 p = nI (nm (sp_C W n) p)) ∧ gd_fm ([], [65], []) σ s := by
  have hn := h.2.2.1
  have hN := h.2.2.2.2.1
  refine gd_it3 (I := fun m f i s => ∃ j, j ≤ n ∧ m = n - j ∧ f = nI (nm (sp_C W n) j) ∧ i = nI j ∧ (∀ p, p < j → gA s 65 p = nI (nm (sp_C W n) p)) ∧ gd_fm ([], [65], []) σ s) (E := fun (r : gR) => ∃ s, r = κ (nI (nm (sp_C W n) n)) s ∧ (∀ p, p < n → gA s 65 p = nI (nm (sp_C W n) p)) ∧ gd_fm ([], [65], []) σ s) ?_ gd_N n 0 0 σ ⟨0, by omega, rfl, rfl, rfl, fun p hp => absurd hp (Nat.not_lt_zero p), gd_fm0 _ _⟩ (gd_Nlt (by omega))
  rintro m f i s ag ⟨j, hj, rfl, rfl, rfl, h65, fr⟩
  have h1 := rwk_fm h fr rfl
  unfold B_M_rewrite_33
  rw [h1.2.2.2.1]
  by_cases hjn : j = n
  · subst hjn
    rw [if_pos ((gi_le (by omega) (by omega)).mpr (Nat.le_refl _))]
    exact Or.inr ⟨s, rfl, h65, fr⟩
  · have hjn' : j < n := by omega
    have hm := nm_lt (C := sp_C W n) hjn'
    have fr2 : gd_fm ([], [65], []) σ (gs_A s 65 j (nI (nm (sp_C W n) j))) := gd_fmA fr rfl
    have g56 : gA (gs_A s 65 j (nI (nm (sp_C W n) j))) 56 j = nI (sp_i (sp_C W n j)) := h1.2.2.2.2.2 j hjn'
    rw [if_neg (fun z => by have := (gi_le (by omega) (by omega)).mp z; omega), gd_gI (gi_in (show j < 1041 by omega) (by omega : 1041 ≤ 100000)), gd_s1, gd_gI (gi_in (show j < 1040 by omega) (by omega : 1040 ≤ 100000)), gd_t1]
    simp only [gi_cl (show j ≤ 100000 by omega), g56, nI_1]
    have v12 : (if nI (sp_i (sp_C W n j)) = 0 then nI (nm (sp_C W n) j + 1) else nI (nm (sp_C W n) j) + (2 : Int32)) = nI (nm (sp_C W n) (j + 1)) := by
      rw [nm_s]
      by_cases c : sp_C W n j
      · rw [sp_it c, if_neg (show ¬ nI 1 = 0 by decide), show (2 : Int32) = nI 2 from rfl, nI_add]
      · rw [sp_if c, if_pos (show nI 0 = 0 from rfl)]
    rw [v12]
    refine Or.inl ⟨_, _, _, n - (j + 1), by omega, ⟨j + 1, by omega, rfl, rfl, rfl, fun p hp => ?_, fr2⟩, rfl⟩
    show (if p = j then nI (nm (sp_C W n) j) else gA s 65 p) = _
    by_cases e : p = j
    · rw [if_pos e, e]
    · rw [if_neg e]; exact h65 p (by omega)
theorem inrt {o : Int32} : (-4096 ≤ o.toInt ∧ o.toInt ≤ 4094) ↔ ¬ o < -4096 ∧ o ≤ 4094 := by
  rw [Int32.lt_iff_toInt_lt, Int32.le_iff_toInt_le, show (-4096 : Int32).toInt = -4096 by decide, show (4094 : Int32).toInt = 4094 by decide]
  omega
def w64 (W : Nat → Int32) (n j : Nat) (s : gS) : Prop := (∀ p, p < j → gA s 64 (nm (sp_C W n) p) = nwd W n p) ∧ ∀ p, p < j → sp_C W n p → gA s 64 (nm (sp_C W n) p + 1) = 267386895
theorem rr_85 {W : Nat → Int32} {n : Nat} {σ : gS} (κ : gS → gR) (a : Int32) (h : rwk W n σ) (h65 : ∀ p, p ≤ n → gA σ 65 p = nI (nm (sp_C W n) p)) :
    (∃ s, gd_lp (fun _ _ => none) (B_M_rewrite_85 κ a) gd_N 0 σ = κ s ∧ (∀ p, p < n → sp_k W p = 5 → inr W n p) ∧ w64 W n n s ∧ gd_fm ([], [64], []) σ s) ∨ (∃ s, gd_lp (fun _ _ => none) (B_M_rewrite_85 κ a) gd_N 0 σ = some (.inl (some (.int (-1))), s) ∧ (∃ p, p < n ∧ sp_k W p = 5 ∧ ¬ inr W n p) ∧ gd_fm ([], [64], []) σ s) := by
  have hn := h.2.2.1
  have hN := h.2.2.2.2.1
  refine gd_it2 (I := fun m i s => ∃ j, j ≤ n ∧ m = n - j ∧ i = nI j ∧ (∀ p, p < j → sp_k W p = 5 → inr W n p) ∧ w64 W n j s ∧ gd_fm ([], [64], []) σ s) (E := fun (r : gR) => (∃ s, r = κ s ∧ (∀ p, p < n → sp_k W p = 5 → inr W n p) ∧ w64 W n n s ∧ gd_fm ([], [64], []) σ s) ∨ (∃ s, r = some (.inl (some (.int (-1))), s) ∧ (∃ p, p < n ∧ sp_k W p = 5 ∧ ¬ inr W n p) ∧ gd_fm ([], [64], []) σ s)) ?_ gd_N n 0 σ ⟨0, by omega, rfl, rfl, fun p hp => absurd hp (Nat.not_lt_zero p), ⟨fun p hp => absurd hp (Nat.not_lt_zero p), fun p hp => absurd hp (Nat.not_lt_zero p)⟩, gd_fm0 _ _⟩ (gd_Nlt (by omega))
  rintro m i s ag ⟨j, hj, rfl, rfl, hi, hw, fr⟩
  have h1 := rwk_fm h fr rfl
  have w1 := h1.1
  have s65 : ∀ p, p ≤ n → gA s 65 p = nI (nm (sp_C W n) p) := by rw [fm_A fr (p := 65) rfl]; exact h65
  unfold B_M_rewrite_85
  rw [h1.2.2.2.1]
  by_cases hjn : j = n
  · subst hjn
    rw [if_pos ((gi_le (by omega) (by omega)).mpr (Nat.le_refl _))]
    exact Or.inr (Or.inl ⟨s, rfl, hi, hw, fr⟩)
  · have hjn' : j < n := by omega
    have hm := nm_lt (C := sp_C W n) hjn'
    have g56 : ∀ v, gA (gs_A s 64 (nm (sp_C W n) j) v) 56 j = nI (sp_i (sp_C W n j)) := fun v => h1.2.2.2.2.2 j hjn'
    have g65 : ∀ v, gA (gs_A s 64 (nm (sp_C W n) j) v) 65 j = nI (nm (sp_C W n) j) := fun v => s65 j (by omega)
    rw [if_neg (fun z => by have := (gi_le (by omega) (by omega)).mp z; omega)]
    simp only [gd_gI (gi_in (show j < 1040 by omega) (by omega : 1040 ≤ 100000)), gd_gI (gi_in (show j < 1041 by omega) (by omega : 1041 ≤ 100000)), br_kindN (show j < 1040 by omega), br_target (gi_in (show j < 1040 by omega) (by omega : 1040 ≤ 100000)), gd_qi1, gd_j1, gi_cl (show j ≤ 100000 by omega), w1, show gA s 42 j = W j from congrFun w1 j, s65 j (by omega), gd_gI (gi_in (show nm (sp_C W n) j < 1040 by omega) (by omega : 1040 ≤ 100000)), gi_cl (show nm (sp_C W n) j ≤ 100000 by omega), gd_s1, gd_t1, g56, g65, nI_1]
    have fin : ∀ v, v = nwd W n j → (sp_k W j = 5 → inr W n j) → ∃ a' b' m', m' < n - j ∧ (∃ j, j ≤ n ∧ m' = n - j ∧ a' = nI j ∧ (∀ p, p < j → sp_k W p = 5 → inr W n p) ∧ w64 W n j b' ∧ gd_fm ([], [64], []) σ b') ∧ (if nI (sp_i (sp_C W n j)) = 0 then ag (nI (j + 1)) (gs_A s 64 (nm (sp_C W n) j) v) else gd_g (gd_in (nI (nm (sp_C W n) j + 1)) 1040) (ag (nI (j + 1)) (gs_A (gs_A s 64 (nm (sp_C W n) j) v) 64 (nI (nm (sp_C W n) j + 1)).toNatClampNeg 267386895))) = ag a' b' := by
      intro v hv hin
      have hi2 : ∀ p, p < j + 1 → sp_k W p = 5 → inr W n p := fun p hp hk => by
        by_cases e : p = j
        · rw [e] at hk ⊢; exact hin hk
        · exact hi p (by omega) hk
      by_cases c : sp_C W n j
      · rw [sp_it c] at hm ⊢
        rw [if_neg (show ¬ nI 1 = 0 by decide), gd_gI (gi_in (show nm (sp_C W n) j + 1 < 1040 by omega) (by omega : 1040 ≤ 100000)), gi_cl (show nm (sp_C W n) j + 1 ≤ 100000 by omega)]
        refine ⟨_, _, n - (j + 1), by omega, ⟨j + 1, by omega, rfl, rfl, hi2, ⟨fun p hp => ?_, fun p hp hC => ?_⟩, gd_fmA (gd_fmA fr rfl) rfl⟩, rfl⟩
        · show (if nm (sp_C W n) p = nm (sp_C W n) j + 1 then _ else if nm (sp_C W n) p = nm (sp_C W n) j then v else gA s 64 (nm (sp_C W n) p)) = _
          by_cases e : p = j
          · rw [e, if_neg (by omega), if_pos rfl]; exact hv
          · have := nm_lt (C := sp_C W n) (show p < j by omega)
            rw [if_neg (by omega), if_neg (by omega)]; exact hw.1 p (by omega)
        · show (if nm (sp_C W n) p + 1 = nm (sp_C W n) j + 1 then _ else if nm (sp_C W n) p + 1 = nm (sp_C W n) j then v else gA s 64 (nm (sp_C W n) p + 1)) = _
          by_cases e : p = j
          · rw [e, if_pos rfl]
          · have := nm_lt (C := sp_C W n) (show p < j by omega)
            rw [sp_it hC] at this
            rw [if_neg (by omega), if_neg (by omega)]; exact hw.2 p (by omega) hC
      · rw [sp_if c, if_pos (show nI 0 = 0 from rfl)]
        refine ⟨_, _, n - (j + 1), by omega, ⟨j + 1, by omega, rfl, rfl, hi2, ⟨fun p hp => ?_, fun p hp hC => ?_⟩, gd_fmA fr rfl⟩, rfl⟩
        · show (if nm (sp_C W n) p = nm (sp_C W n) j then v else gA s 64 (nm (sp_C W n) p)) = _
          by_cases e : p = j
          · rw [e, if_pos rfl]; exact hv
          · have := nm_lt (C := sp_C W n) (show p < j by omega)
            rw [if_neg (by omega)]; exact hw.1 p (by omega)
        · show (if nm (sp_C W n) p + 1 = nm (sp_C W n) j then v else gA s 64 (nm (sp_C W n) p + 1)) = _
          by_cases e : p = j
          · rw [e] at hC; exact absurd hC c
          · have := nm_lt (C := sp_C W n) (show p < j by omega)
            rw [sp_it hC] at this
            rw [if_neg (by omega)]; exact hw.2 p (by omega) hC
    have tgt : (sp_k W j = 5 ∨ sp_k W j = 6) → ∃ t, t ≤ n ∧ nI j + f_M_offset (W j) / 4 = nI t ∧ (4 : Int32) * (nI (nm (sp_C W n) t) - nI (nm (sp_C W n) j)) = nof W n j := by
      intro hk
      obtain ⟨t, ht, e1, e2⟩ := sp_tt h.2.1 hn hjn' hk
      refine ⟨t, ht, e2, ?_⟩
      unfold nof
      rw [e1, gi_cl (by omega)]
    by_cases k5 : sp_k W j = 5
    · obtain ⟨t, ht, e2, e3⟩ := tgt (Or.inl k5)
      simp only [if_pos k5, e2, gd_gI (gi_in (show t < 1041 by omega) (by omega : 1041 ≤ 100000)), gi_cl (show t ≤ 100000 by omega), s65 t ht, e3]
      by_cases c : inr W n j
      · rw [if_neg (inrt.mp c).1, if_pos (inrt.mp c).2]
        exact Or.inl (fin _ (by unfold nwd; rw [if_pos k5]) (fun _ => c))
      · by_cases d : nof W n j < -4096
        · rw [if_pos d]
          exact Or.inr (Or.inr ⟨s, rfl, ⟨j, hjn', k5, c⟩, fr⟩)
        · rw [if_neg d, if_neg (fun z => c (inrt.mpr ⟨d, z⟩))]
          exact Or.inr (Or.inr ⟨s, rfl, ⟨j, hjn', k5, c⟩, fr⟩)
    · by_cases k6 : sp_k W j = 6
      · obtain ⟨t, ht, e2, e3⟩ := tgt (Or.inr k6)
        simp only [if_neg k5, if_pos k6, e2, gd_gI (gi_in (show t < 1041 by omega) (by omega : 1041 ≤ 100000)), gi_cl (show t ≤ 100000 by omega), s65 t ht, e3]
        exact Or.inl (fin _ (by unfold nwd; rw [if_neg k5, if_pos k6]) (fun z => absurd z k5))
      · simp only [if_neg k5, if_neg k6]
        exact Or.inl (fin _ (by unfold nwd; rw [if_neg k5, if_neg k6]) (fun z => absurd z k5))
theorem rr_245 {N : Nat} {σ : gS} (κ : gS → gR) (hN : N ≤ 1040) : ∃ s, gd_lp (fun _ _ => none) (B_M_rewrite_245 κ (nI N)) gd_N 0 σ = κ s ∧ (∀ i, gA s 42 i = if i < N then gA σ 64 i else gA σ 42 i) ∧ (∀ i, i < N → gA s 43 i = -1) ∧ gd_fm ([], [42, 43], []) σ s := by
  refine gd_it2 (I := fun m i s => ∃ j, j ≤ N ∧ m = N - j ∧ i = nI j ∧ (∀ i, gA s 42 i = if i < j then gA σ 64 i else gA σ 42 i) ∧ (∀ i, i < j → gA s 43 i = -1) ∧ gd_fm ([], [42, 43], []) σ s) (E := fun (r : gR) => ∃ s, r = κ s ∧ (∀ i, gA s 42 i = if i < N then gA σ 64 i else gA σ 42 i) ∧ (∀ i, i < N → gA s 43 i = -1) ∧ gd_fm ([], [42, 43], []) σ s) ?_ gd_N N 0 σ ⟨0, by omega, rfl, rfl, fun i => (if_neg (Nat.not_lt_zero i)).symm, fun i hi => absurd hi (Nat.not_lt_zero i), gd_fm0 _ _⟩ (gd_Nlt (by omega))
  rintro m i s ag ⟨j, hj, rfl, rfl, h42, h43, fr⟩
  unfold B_M_rewrite_245
  by_cases hjn : j = N
  · subst hjn
    rw [if_pos ((gi_le (by omega) (by omega)).mpr (Nat.le_refl _))]
    exact Or.inr ⟨s, rfl, h42, h43, fr⟩
  · have e64 : gA s 64 j = gA σ 64 j := congrFun (fm_A fr (p := 64) rfl) j
    rw [if_neg (fun z => by have := (gi_le (by omega) (by omega)).mp z; omega)]
    simp only [gd_gI (gi_in (show j < 1040 by omega) (by omega : 1040 ≤ 100000)), gi_cl (show j ≤ 100000 by omega), gd_s1, e64, nI_1]
    refine Or.inl ⟨nI (j + 1), _, N - (j + 1), by omega, ⟨j + 1, by omega, rfl, rfl, fun i => ?_, fun i hi => ?_, gd_fmA (gd_fmA fr rfl) rfl⟩, rfl⟩
    · show (if i = j then gA σ 64 j else gA s 42 i) = _
      by_cases e : i = j
      · rw [if_pos e, if_pos (by omega), e]
      · rw [if_neg e, h42]
        by_cases c : i < j
        · rw [if_pos c, if_pos (by omega)]
        · rw [if_neg c, if_neg (by omega)]
    · show (if i = j then -1 else gA s 43 i) = -1
      by_cases e : i = j
      · rw [if_pos e]
      · rw [if_neg e]; exact h43 i (by omega)
theorem rr_277 {C : Nat → Prop} {n : Nat} {σ : gS} (κ : gS → gR) (a : Int32) (hn : n ≤ 1040) (hN : nm C n ≤ 1040) (h2 : gI σ 41 2 = nI n) (h65 : ∀ p, p ≤ n → gA σ 65 p = nI (nm C p)) : ∃ s, gd_lp (fun _ _ => none) (B_M_rewrite_277 κ a) gd_N 0 σ = κ s ∧ (∀ p, p < n → gA s 43 (nm C p) = nI p) ∧ (∀ i, (∀ p, p < n → ¬ i = nm C p) → gA s 43 i = gA σ 43 i) ∧ gd_fm ([], [43], []) σ s := by
  refine gd_it2 (I := fun m i s => ∃ j, j ≤ n ∧ m = n - j ∧ i = nI j ∧ (∀ p, p < j → gA s 43 (nm C p) = nI p) ∧ (∀ i, (∀ p, p < j → ¬ i = nm C p) → gA s 43 i = gA σ 43 i) ∧ gd_fm ([], [43], []) σ s) (E := fun (r : gR) => ∃ s, r = κ s ∧ (∀ p, p < n → gA s 43 (nm C p) = nI p) ∧ (∀ i, (∀ p, p < n → ¬ i = nm C p) → gA s 43 i = gA σ 43 i) ∧ gd_fm ([], [43], []) σ s) ?_ gd_N n 0 σ ⟨0, by omega, rfl, rfl, fun p hp => absurd hp (Nat.not_lt_zero p), fun i _ => rfl, gd_fm0 _ _⟩ (gd_Nlt (by omega))
  rintro m i s ag ⟨j, hj, rfl, rfl, ha, hb, fr⟩
  unfold B_M_rewrite_277
  rw [show gI s 41 2 = nI n from (fm_I fr rfl).trans h2]
  by_cases hjn : j = n
  · subst hjn
    rw [if_pos ((gi_le (by omega) (by omega)).mpr (Nat.le_refl _))]
    exact Or.inr ⟨s, rfl, ha, hb, fr⟩
  · have hm := nm_lt (C := C) (show j < n by omega)
    have s65 : gA s 65 j = nI (nm C j) := (congrFun (fm_A fr (p := 65) rfl) j).trans (h65 j (by omega))
    rw [if_neg (fun z => by have := (gi_le (by omega) (by omega)).mp z; omega)]
    simp only [gd_gI (gi_in (show j < 1041 by omega) (by omega : 1041 ≤ 100000)), gi_cl (show j ≤ 100000 by omega), s65, gd_gI (gi_in (show nm C j < 1040 by omega) (by omega : 1040 ≤ 100000)), gi_cl (show nm C j ≤ 100000 by omega), gd_s1, nI_1]
    refine Or.inl ⟨nI (j + 1), _, n - (j + 1), by omega, ⟨j + 1, by omega, rfl, rfl, fun p hp => ?_, fun i hi => ?_, gd_fmA fr rfl⟩, rfl⟩
    · show (if nm C p = nm C j then nI j else gA s 43 (nm C p)) = _
      by_cases e : p = j
      · rw [e, if_pos rfl]
      · rw [if_neg (fun z => e (nm_inj z))]; exact ha p (by omega)
    · show (if i = nm C j then nI j else gA s 43 i) = _
      rw [if_neg (hi j (by omega))]; exact hb i (fun p hp => hi p (by omega))
theorem mr_all {W : Nat → Int32} {n : Nat} {τ σ : gS} (h5 : ¬ gI τ 41 5 = 0) (hk : F_M_know (gs_I τ 41 0 0) = some (.inl none, σ)) (h : rwk W n σ) :
    (∃ s, F_M_rewrite τ = some (.inl (some (.int (nI (nm (sp_C W n) n)))), s) ∧ (∀ p, p < n → sp_k W p = 5 → inr W n p) ∧ gA s 42 = NV W n ∧ (∀ p, p < n → gA s 43 (nm (sp_C W n) p) = nI p) ∧ (∀ p, p < n → sp_C W n p → gA s 43 (nm (sp_C W n) p + 1) = -1) ∧ gI s 41 2 = nI (nm (sp_C W n) n) ∧ gI s 41 4 = 1 ∧ aR s ld_m0 ∧ gK s [] ∧ gI s 41 5 = 1 ∧ gI s 41 20 = 0 ∧ gI s 41 6 = gI σ 41 6 ∧ gI s 41 0 = gI σ 41 0) ∨ (∃ s, F_M_rewrite τ = some (.inl (some (.int (-1))), s) ∧ (∃ p, p < n ∧ sp_k W p = 5 ∧ ¬ inr W n p) ∧ gd_fm ([], [64, 65], []) σ s) := by
  have hn := h.2.2.1
  have hN := h.2.2.2.2.1
  unfold F_M_rewrite
  rw [gd_t1, if_neg h5, gd_s1, th0, if_pos (show (0 : Int32) ≤ 0 by decide), hk, gd_01, gd_j1]
  obtain ⟨s1, a1, a2, a3⟩ := rr_33 (fun (v14 : Int32) (s13 : gS) =>
   gd_g (gd_in (gI s13 41 2) 1041) <|
   gd_s (gs_A s13 65 (gI s13 41 2).toNatClampNeg v14) fun s15 =>
   gd_j (α := gS → gR) (fun (s33 : gS) =>
    gd_j (α := gS → gR) (fun (s41 : gS) =>
     gd_j (α := gS → gR) (fun (s48 : gS) =>
      gd_s (gs_I s48 41 4 1) fun s49 =>
      gd_s (gs_I s49 41 2 v14) fun s50 =>
      gd_0 (F_M_begin s50) fun s51 =>
      some (.inl (some (.int v14)), s51)) fun k46 =>
     gd_lp (fun _ _ => none) (B_M_rewrite_277 k46 v14) gd_N 0 s41) fun k38 =>
    gd_lp (fun _ _ => none) (B_M_rewrite_245 k38 v14) gd_N 0 s33) fun k20 =>
   gd_lp (fun _ _ => none) (B_M_rewrite_85 k20 v14) gd_N 0 s15) h
  have h1 := rwk_fm h a3 rfl
  rw [a1, h1.2.2.2.1, gd_gI (gi_in (show n < 1041 by omega) (by omega : 1041 ≤ 100000)), gi_cl (show n ≤ 100000 by omega), gd_s1, gd_j1]
  have fr2 : gd_fm ([], [64, 65], []) σ (gs_A s1 65 n (nI (nm (sp_C W n) n))) := gd_fmA (gd_fmT (gd_sbI rfl) (gd_fm0 _ _) a3) rfl
  have h65 : ∀ p, p ≤ n → gA (gs_A s1 65 n (nI (nm (sp_C W n) n))) 65 p = nI (nm (sp_C W n) p) := by
    intro p hp
    show (if p = n then nI (nm (sp_C W n) n) else gA s1 65 p) = _
    by_cases e : p = n
    · rw [if_pos e, e]
    · rw [if_neg e]; exact a2 p (by omega)
  rcases rr_85 (fun (s33 : gS) =>
    gd_j (α := gS → gR) (fun (s41 : gS) =>
     gd_j (α := gS → gR) (fun (s48 : gS) =>
      gd_s (gs_I s48 41 4 1) fun s49 =>
      gd_s (gs_I s49 41 2 (nI (nm (sp_C W n) n))) fun s50 =>
      gd_0 (F_M_begin s50) fun s51 =>
      some (.inl (some (.int (nI (nm (sp_C W n) n)))), s51)) fun k46 =>
     gd_lp (fun _ _ => none) (B_M_rewrite_277 k46 (nI (nm (sp_C W n) n))) gd_N 0 s41) fun k38 =>
    gd_lp (fun _ _ => none) (B_M_rewrite_245 k38 (nI (nm (sp_C W n) n))) gd_N 0 s33) (nI (nm (sp_C W n) n)) (rwk_fm h fr2 rfl) h65 with ⟨s2, b1, b2, b3, b4⟩ | ⟨s2, b1, b2, b4⟩
  · left
    have fr3 : gd_fm ([], [64, 65], []) σ s2 := gd_fmT (gd_sbI rfl) fr2 b4
    rw [b1, gd_j1]
    obtain ⟨s3, c1, c2, c3, c4⟩ := rr_245 (σ := s2) (fun (s41 : gS) =>
     gd_j (α := gS → gR) (fun (s48 : gS) =>
      gd_s (gs_I s48 41 4 1) fun s49 =>
      gd_s (gs_I s49 41 2 (nI (nm (sp_C W n) n))) fun s50 =>
      gd_0 (F_M_begin s50) fun s51 =>
      some (.inl (some (.int (nI (nm (sp_C W n) n)))), s51)) fun k46 =>
     gd_lp (fun _ _ => none) (B_M_rewrite_277 k46 (nI (nm (sp_C W n) n))) gd_N 0 s41) hN
    have fr4 : gd_fm ([], [42, 43, 64, 65], []) σ s3 := gd_fmT (gd_sbI rfl) (gd_fmT (gd_sbI rfl) (gd_fm0 _ _) fr3) c4
    rw [c1, gd_j1]
    obtain ⟨s4, d1, d2, d3, d4⟩ := rr_277 (C := sp_C W n) (n := n) (σ := s3) (fun (s48 : gS) =>
      gd_s (gs_I s48 41 4 1) fun s49 =>
      gd_s (gs_I s49 41 2 (nI (nm (sp_C W n) n))) fun s50 =>
      gd_0 (F_M_begin s50) fun s51 =>
      some (.inl (some (.int (nI (nm (sp_C W n) n)))), s51)) (nI (nm (sp_C W n) n)) hn hN ((fm_I fr4 rfl).trans h.2.2.2.1) (fun p hp => by
        rw [fm_A c4 (p := 65) rfl, fm_A b4 (p := 65) rfl]; exact h65 p hp)
    have fr5 : gd_fm ([], [42, 43, 64, 65], []) σ s4 := gd_fmT (gd_sbI rfl) fr4 d4
    obtain ⟨s5, e1, e2, e3, e4, e5⟩ := ld_mb (gs_I (gs_I s4 41 4 1) 41 2 (nI (nm (sp_C W n) n)))
    have f5 := K_M_begin _ _ e1
    rw [d1, gd_s1, gd_s1, e1, gd_01]
    refine ⟨s5, rfl, b2, ?_, fun p hp => ?_, fun p hp hC => ?_, ?_, ?_, e2, e3, e4, e5, ?_, ?_⟩
    · rw [fm_A f5 (p := 42) rfl]
      show gA s4 42 = _
      rw [fm_A d4 (p := 42) rfl]
      funext i
      rw [c2]
      by_cases c : i < nm (sp_C W n) n
      · rw [if_pos c]; exact NV_e b3.1 b3.2 c
      · rw [if_neg c, NV_o (by omega), fm_A fr3 (p := 42) rfl, h.1]
    · rw [fm_A f5 (p := 43) rfl]; exact d2 p hp
    · have hm := nm_lt (C := sp_C W n) hp
      rw [sp_it hC] at hm
      rw [fm_A f5 (p := 43) rfl]
      show gA s4 43 (nm (sp_C W n) p + 1) = -1
      rw [d3 _ (fun q _ z => nm_ne hC z)]; exact c3 _ hm
    · exact fm_I f5 (p := 41) (k := 2) rfl
    · exact fm_I f5 (p := 41) (k := 4) rfl
    · rw [fm_I f5 (p := 41) (k := 6) rfl]; exact fm_I fr5 (p := 41) (k := 6) rfl
    · rw [fm_I f5 (p := 41) (k := 0) rfl]; exact fm_I fr5 (p := 41) (k := 0) rfl
  · right
    exact ⟨s2, b1, b2, gd_fmT (gd_sbI rfl) fr2 b4⟩
