theorem cp_lp {κ : gS → gR} {B : (gS → gR) → (Int32 → gS → gR) → Int32 → gS → gR} (σ : gS) (P st N : Nat) (v : Nat → Int32) (hN : N ≤ 4096)
    (hs : ∀ ag j s, j < N → s = gs_row σ P (mc_put (gA σ P) st j v) → B κ ag (nI j) s = ag (nI j + 1) (gs_A s P (st + j) (v j)))
    (he : ∀ ag s, s = gs_row σ P (mc_put (gA σ P) st N v) → B κ ag (nI N) s = κ s) : gd_lp (fun _ _ => none) (B κ) gd_N 0 σ = κ (gs_row σ P (mc_put (gA σ P) st N v)) := by
  refine gd_it2 (I := fun m i s => ∃ j, j ≤ N ∧ m = N - j ∧ i = nI j ∧ s = gs_row σ P (mc_put (gA σ P) st j v)) (E := fun (r : gR) => r = κ (gs_row σ P (mc_put (gA σ P) st N v))) ?_ gd_N N 0 σ ⟨0, by omega, rfl, rfl, gs_row0 σ P _ (mc_put0 _ _ _)⟩ (gd_Nlt (by omega))
  rintro m i s ag ⟨j, hj, rfl, rfl, hss⟩
  by_cases hjb : j = N
  · subst hjb
    rw [he ag s hss, hss]
    exact Or.inr rfl
  · rw [hs ag j s (by omega) hss]
    refine Or.inl ⟨nI (j + 1), _, N - (j + 1), by omega, ⟨j + 1, by omega, rfl, rfl, rfl⟩, ?_⟩
    rw [nI_1, hss]
    exact congrArg (ag (nI (j + 1))) (gs_rowA σ P _ _ _ _ (mc_put1 (gA σ P) st j v))
theorem cp_g43 (κ : gS → gR) (x : Int32) (σ : gS) {g : Nat} (hg : g < 16) (h : gI σ 41 18 = nI g) : gd_lp (fun _ _ => none) (B_M_guess_43 κ x) gd_N 0 σ = κ (gs_row σ 47 (mc_put (gA σ 47) (32 * g) 32 (gA σ 44))) := by
  refine cp_lp (B := fun κ => B_M_guess_43 κ x) σ 47 (32 * g) 32 (gA σ 44) (by omega) (fun ag j s hj hs => ?_) (fun ag s hs => ?_)
  · subst hs
    unfold B_M_guess_43
    rw [if_neg (fun z => by have := (gi_le (a := 32) (by omega) (by omega)).mp z; omega)]
    have h1 : gI (gs_row σ 47 (mc_put (gA σ 47) (32 * g) j (gA σ 44))) 41 18 = nI g := h
    have e1 : (32 : Int32) * nI g + nI j = nI (32 * g + j) := by rw [show (32 : Int32) = nI 32 from rfl, pk_mul, nI_add]
    simp only [h1, e1, gd_gI (gi_in (by omega : j < 32) (by omega : 32 ≤ 100000)), gd_gI (gi_in (by omega : 32 * g + j < 512) (by omega : 512 ≤ 100000)), gi_cl (by omega : j ≤ 100000), gi_cl (by omega : 32 * g + j ≤ 100000)]
    rfl
  · unfold B_M_guess_43
    rw [if_pos (show (32 : Int32) ≤ nI 32 by decide)]
theorem cp_g77 (κ : gS → gR) (x : Int32) (σ : gS) {g : Nat} (hg : g < 16) (h : gI σ 41 18 = nI g) : gd_lp (fun _ _ => none) (B_M_guess_77 κ x) gd_N 0 σ = κ (gs_row σ 48 (mc_put (gA σ 48) (256 * g) 256 (gA σ 45))) := by
  refine cp_lp (B := fun κ => B_M_guess_77 κ x) σ 48 (256 * g) 256 (gA σ 45) (by omega) (fun ag j s hj hs => ?_) (fun ag s hs => ?_)
  · subst hs
    unfold B_M_guess_77
    rw [if_neg (fun z => by have := (gi_le (a := 256) (by omega) (by omega)).mp z; omega)]
    have h1 : gI (gs_row σ 48 (mc_put (gA σ 48) (256 * g) j (gA σ 45))) 41 18 = nI g := h
    have e1 : (256 : Int32) * nI g + nI j = nI (256 * g + j) := by rw [show (256 : Int32) = nI 256 from rfl, pk_mul, nI_add]
    simp only [h1, e1, gd_gI (gi_in (by omega : j < 256) (by omega : 256 ≤ 100000)), gd_gI (gi_in (by omega : 256 * g + j < 4096) (by omega : 4096 ≤ 100000)), gi_cl (by omega : j ≤ 100000), gi_cl (by omega : 256 * g + j ≤ 100000)]
    rfl
  · unfold B_M_guess_77
    rw [if_pos (show (256 : Int32) ≤ nI 256 by decide)]
theorem cp_r78 (κ : gS → gR) (x : Int32) (σ : gS) : gd_lp (fun _ _ => none) (B_M_resolve_78 κ x) gd_N 0 σ = κ (gs_row σ 44 (mc_put (gA σ 44) 0 32 (gA σ 47))) := by
  refine cp_lp (B := fun κ => B_M_resolve_78 κ x) σ 44 0 32 (gA σ 47) (by omega) (fun ag j s hj hs => ?_) (fun ag s hs => ?_)
  · subst hs
    unfold B_M_resolve_78
    rw [if_neg (fun z => by have := (gi_le (a := 32) (by omega) (by omega)).mp z; omega)]
    simp only [gd_gI (gi_in (by omega : j < 32) (by omega : 32 ≤ 100000)), gd_gI (gi_in (by omega : j < 512) (by omega : 512 ≤ 100000)), gi_cl (by omega : j ≤ 100000), Nat.zero_add]
    rfl
  · unfold B_M_resolve_78
    rw [if_pos (show (32 : Int32) ≤ nI 32 by decide)]
theorem cp_r104 (κ : gS → gR) (x : Int32) (σ : gS) : gd_lp (fun _ _ => none) (B_M_resolve_104 κ x) gd_N 0 σ = κ (gs_row σ 45 (mc_put (gA σ 45) 0 256 (gA σ 48))) := by
  refine cp_lp (B := fun κ => B_M_resolve_104 κ x) σ 45 0 256 (gA σ 48) (by omega) (fun ag j s hj hs => ?_) (fun ag s hs => ?_)
  · subst hs
    unfold B_M_resolve_104
    rw [if_neg (fun z => by have := (gi_le (a := 256) (by omega) (by omega)).mp z; omega)]
    simp only [gd_gI (gi_in (by omega : j < 256) (by omega : 256 ≤ 100000)), gd_gI (gi_in (by omega : j < 4096) (by omega : 4096 ≤ 100000)), gi_cl (by omega : j ≤ 100000), Nat.zero_add]
    rfl
  · unfold B_M_resolve_104
    rw [if_pos (show (256 : Int32) ≤ nI 256 by decide)]
theorem cp_r211 (κ : gS → gR) (σ : gS) {g : Nat} (hg : g < 16) (h : gI σ 41 18 = nI g) : gd_lp (fun _ _ => none) (B_M_resolve_211 κ) gd_N 0 σ = κ (gs_row σ 47 (mc_put (gA σ 47) 0 (32 * g) (fun i => gA σ 47 (i + 32)))) := by
  refine cp_lp (B := fun κ => B_M_resolve_211 κ) σ 47 0 (32 * g) (fun i => gA σ 47 (i + 32)) (by omega) (fun ag j s hj hs => ?_) (fun ag s hs => ?_)
  · subst hs
    unfold B_M_resolve_211
    have h1 : gI (gs_row σ 47 (mc_put (gA σ 47) 0 j (fun i => gA σ 47 (i + 32)))) 41 18 = nI g := h
    have e1 : (32 : Int32) * nI g = nI (32 * g) := by rw [show (32 : Int32) = nI 32 from rfl, pk_mul]
    have e2 : nI j + (32 : Int32) = nI (j + 32) := by rw [show (32 : Int32) = nI 32 from rfl, nI_add]
    rw [h1, e1, e2, if_neg (fun z => by have := (gi_le (by omega) (by omega)).mp z; omega)]
    simp only [gd_gI (gi_in (by omega : j < 512) (by omega : 512 ≤ 100000)), gd_gI (gi_in (by omega : j + 32 < 512) (by omega : 512 ≤ 100000)), gi_cl (by omega : j ≤ 100000), gi_cl (by omega : j + 32 ≤ 100000), Nat.zero_add, gd_s1]
    rw [gA_row, if_pos rfl]
    have e3 : mc_put (gA σ 47) 0 j (fun i => gA σ 47 (i + 32)) (j + 32) = gA σ 47 (j + 32) := if_neg (by omega)
    rw [e3]
  · subst hs
    unfold B_M_resolve_211
    have h1 : gI (gs_row σ 47 (mc_put (gA σ 47) 0 (32 * g) (fun i => gA σ 47 (i + 32)))) 41 18 = nI g := h
    have e1 : (32 : Int32) * nI g = nI (32 * g) := by rw [show (32 : Int32) = nI 32 from rfl, pk_mul]
    rw [h1, e1, if_pos ((gi_le (by omega) (by omega)).mpr (Nat.le_refl _))]
theorem cp_r245 (σ : gS) {g : Nat} (hg : g < 16) (h : gI σ 41 18 = nI g) : gd_lp (fun _ _ => none) B_M_resolve_245 gd_N 0 σ = some (.inl (some (.int 1)), gs_row σ 48 (mc_put (gA σ 48) 0 (256 * g) (fun i => gA σ 48 (i + 256)))) := by
  refine cp_lp (κ := fun s => some (.inl (some (.int 1)), s)) (B := fun _ => B_M_resolve_245) σ 48 0 (256 * g) (fun i => gA σ 48 (i + 256)) (by omega) (fun ag j s hj hs => ?_) (fun ag s hs => ?_)
  · subst hs
    unfold B_M_resolve_245
    have h1 : gI (gs_row σ 48 (mc_put (gA σ 48) 0 j (fun i => gA σ 48 (i + 256)))) 41 18 = nI g := h
    have e1 : (256 : Int32) * nI g = nI (256 * g) := by rw [show (256 : Int32) = nI 256 from rfl, pk_mul]
    have e2 : nI j + (256 : Int32) = nI (j + 256) := by rw [show (256 : Int32) = nI 256 from rfl, nI_add]
    rw [h1, e1, e2, if_neg (fun z => by have := (gi_le (by omega) (by omega)).mp z; omega)]
    simp only [gd_gI (gi_in (by omega : j < 4096) (by omega : 4096 ≤ 100000)), gd_gI (gi_in (by omega : j + 256 < 4096) (by omega : 4096 ≤ 100000)), gi_cl (by omega : j ≤ 100000), gi_cl (by omega : j + 256 ≤ 100000), Nat.zero_add, gd_s1]
    rw [gA_row, if_pos rfl]
    have e3 : mc_put (gA σ 48) 0 j (fun i => gA σ 48 (i + 256)) (j + 256) = gA σ 48 (j + 256) := if_neg (by omega)
    rw [e3]
  · subst hs
    unfold B_M_resolve_245
    have h1 : gI (gs_row σ 48 (mc_put (gA σ 48) 0 (256 * g) (fun i => gA σ 48 (i + 256)))) 41 18 = nI g := h
    have e1 : (256 : Int32) * nI g = nI (256 * g) := by rw [show (256 : Int32) = nI 256 from rfl, pk_mul]
    rw [h1, e1, if_pos ((gi_le (by omega) (by omega)).mpr (Nat.le_refl _))]
def cp_3 (σ : gS) (j : Nat) : gS := gs_row (gs_row (gs_row σ 49 (mc_put (gA σ 49) 0 j (fun i => gA σ 49 (i + 1)))) 50 (mc_put (gA σ 50) 0 j (fun i => gA σ 50 (i + 1)))) 51 (mc_put (gA σ 51) 0 j (fun i => gA σ 51 (i + 1)))
theorem cp_30 (σ : gS) : σ = cp_3 σ 0 := by
  unfold cp_3
  rw [← gs_row0 σ 49 _ (mc_put0 _ _ _), ← gs_row0 σ 50 _ (mc_put0 _ _ _), ← gs_row0 σ 51 _ (mc_put0 _ _ _)]
theorem cp_3A (σ : gS) (q j : Nat) : gA (cp_3 σ j) q = if q = 51 then mc_put (gA σ 51) 0 j (fun i => gA σ 51 (i + 1)) else if q = 50 then mc_put (gA σ 50) 0 j (fun i => gA σ 50 (i + 1)) else if q = 49 then mc_put (gA σ 49) 0 j (fun i => gA σ 49 (i + 1)) else gA σ q := rfl
theorem cp_31 (σ : gS) (j : Nat) : gs_A (gs_A (gs_A (cp_3 σ j) 49 j (gA σ 49 (j + 1))) 50 j (gA σ 50 (j + 1))) 51 j (gA σ 51 (j + 1)) = cp_3 σ (j + 1) := by
  refine Prod.ext rfl (Prod.ext ?_ rfl)
  funext q i
  show gA (gs_A (gs_A (gs_A (cp_3 σ j) 49 j (gA σ 49 (j + 1))) 50 j (gA σ 50 (j + 1))) 51 j (gA σ 51 (j + 1))) q i = gA (cp_3 σ (j + 1)) q i
  rw [gA_A, gA_A, gA_A, cp_3A, cp_3A]
  by_cases h1 : q = 51
  · subst h1
    simp only [if_true]
    rw [mc_put1, Nat.zero_add]
    rfl
  · simp only [if_neg h1]
    by_cases h2 : q = 50
    · subst h2
      simp only [if_true]
      rw [mc_put1, Nat.zero_add]
      rfl
    · simp only [if_neg h2]
      by_cases h3 : q = 49
      · subst h3
        simp only [if_true]
        rw [mc_put1, Nat.zero_add]
      · simp only [if_neg h3]
theorem cp_r153 (κ : gS → gR) (σ : gS) {g : Nat} (hg : g < 16) (h : gI σ 41 18 = nI g) : gd_lp (fun _ _ => none) (B_M_resolve_153 κ) gd_N 0 σ = κ (cp_3 σ g) := by
  refine gd_it2 (I := fun m i s => ∃ j, j ≤ g ∧ m = g - j ∧ i = nI j ∧ s = cp_3 σ j) (E := fun (r : gR) => r = κ (cp_3 σ g)) ?_ gd_N g 0 σ ⟨0, by omega, rfl, rfl, cp_30 σ⟩ (gd_Nlt (by omega))
  rintro m i s ag ⟨j, hj, rfl, rfl, rfl⟩
  unfold B_M_resolve_153
  have h1 : gI (cp_3 σ j) 41 18 = nI g := h
  by_cases hjg : j = g
  · subst hjg
    rw [h1, if_pos ((gi_le (by omega) (by omega)).mpr (Nat.le_refl _))]
    exact Or.inr rfl
  · have e2 : nI j + (1 : Int32) = nI (j + 1) := nI_1 j
    rw [h1, if_neg (fun z => by have := (gi_le (by omega) (by omega)).mp z; omega)]
    simp only [e2, gd_gI (gi_in (by omega : j < 16) (by omega : 16 ≤ 100000)), gd_gI (gi_in (by omega : j + 1 < 16) (by omega : 16 ≤ 100000)), gi_cl (by omega : j ≤ 100000), gi_cl (by omega : j + 1 ≤ 100000), gd_s1]
    refine Or.inl ⟨nI (j + 1), _, g - (j + 1), by omega, ⟨j + 1, by omega, rfl, rfl, rfl⟩, ?_⟩
    rw [← cp_31]
    have a1 : gA (cp_3 σ j) 49 (j + 1) = gA σ 49 (j + 1) := if_neg (by omega)
    have a2 : gA (gs_A (cp_3 σ j) 49 j (gA σ 49 (j + 1))) 50 (j + 1) = gA σ 50 (j + 1) := if_neg (by omega)
    have a3 : gA (gs_A (gs_A (cp_3 σ j) 49 j (gA σ 49 (j + 1))) 50 j (gA σ 50 (j + 1))) 51 (j + 1) = gA σ 51 (j + 1) := if_neg (by omega)
    rw [a1, a2, a3]
