noncomputable def NV (W : Nat → Int32) (n i : Nat) : Int32 := @ite Int32 (i < nm (sp_C W n) n) (Classical.propDecidable _) (@dite Int32 (∃ p, p < n ∧ i = nm (sp_C W n) p) (Classical.propDecidable _) (fun h => nwd W n (Classical.choose h)) (fun _ => 267386895)) (W i)
theorem NV_m {W : Nat → Int32} {n p : Nat} (hp : p < n) : NV W n (nm (sp_C W n) p) = nwd W n p := by
  unfold NV
  have h1 := nm_lt (C := sp_C W n) hp
  have h : ∃ q, q < n ∧ nm (sp_C W n) p = nm (sp_C W n) q := ⟨p, hp, rfl⟩
  rw [if_pos (by omega), dif_pos h, ← nm_inj (Classical.choose_spec h).2]
theorem NV_f {W : Nat → Int32} {n p : Nat} (hp : p < n) (hC : sp_C W n p) : NV W n (nm (sp_C W n) p + 1) = 267386895 := by
  unfold NV
  have h1 := nm_lt (C := sp_C W n) hp
  rw [sp_it hC] at h1
  rw [if_pos h1, dif_neg (fun ⟨q, _, e⟩ => nm_ne hC e)]
theorem NV_o {W : Nat → Int32} {n i : Nat} (h : nm (sp_C W n) n ≤ i) : NV W n i = W i := by
  unfold NV
  rw [if_neg (by omega)]
theorem NV_e {W f : Nat → Int32} {n : Nat} (h1 : ∀ p, p < n → f (nm (sp_C W n) p) = nwd W n p) (h2 : ∀ p, p < n → sp_C W n p → f (nm (sp_C W n) p + 1) = 267386895) {i : Nat} (hi : i < nm (sp_C W n) n) : f i = NV W n i := by
  obtain ⟨p, hp, e | ⟨hC, e⟩⟩ := nm_cov hi
  · rw [e, h1 p hp, NV_m hp]
  · rw [e, h2 p hp hC, NV_f hp hC]
def inr (W : Nat → Int32) (n p : Nat) : Prop := -4096 ≤ (nof W n p).toInt ∧ (nof W n p).toInt ≤ 4094
theorem ibo (o : Int32) : f_Word_isBranchOffset o = 0 ↔ ¬ (-4096 ≤ o.toInt ∧ o.toInt ≤ 4094) := by
  unfold f_Word_isBranchOffset
  by_cases c : o < -4096
  · rw [if_pos c]
    rw [Int32.lt_iff_toInt_lt, show (-4096 : Int32).toInt = -4096 by decide] at c
    exact ⟨fun _ z => by omega, fun _ => rfl⟩
  · rw [if_neg c]
    rw [Int32.lt_iff_toInt_lt, show (-4096 : Int32).toInt = -4096 by decide] at c
    by_cases d : 4094 < o
    · rw [if_pos d]
      rw [Int32.lt_iff_toInt_lt, show (4094 : Int32).toInt = 4094 by decide] at d
      exact ⟨fun _ z => by omega, fun _ => rfl⟩
    · rw [if_neg d]
      rw [Int32.lt_iff_toInt_lt, show (4094 : Int32).toInt = 4094 by decide] at d
      exact ⟨fun z => absurd z (by decide), fun z => absurd ⟨by omega, by omega⟩ z⟩
def cw (W : Nat → Int32) (n : Nat) (σ : gS) : Prop := gA σ 42 = W ∧ rD n σ ∧ nm (sp_C W n) n ≤ 1040 ∧ ∀ p, p < n → gA σ 27 p = mk (sp_g W n p) (sp_T W n p) (sp_X W n p) (sp_C W n p)
theorem cw_fm {W : Nat → Int32} {n : Nat} {V : gW} {σ s : gS} (h : cw W n σ) (f : gd_fm V σ s) (hd : fm_dis V [(2, 7)] [3, 4, 5, 6, 7, 8, 9, 42] [] = true) (hd2 : fm_dis V [] [27] [] = true) : cw W n s := by
  have g := fm_sm f hd
  refine ⟨(sm_A g (p := 42) rfl).trans h.1, rD_sm h.2.1 g, h.2.2.1, ?_⟩
  rw [sm_A (fm_sm f hd2) (p := 27) rfl]; exact h.2.2.2
theorem isc {W : Nat → Int32} {n p : Nat} {σ : gS} (h : cw W n σ) (hp : p < n) : R_Rewriter_isCut (nI p) σ = some (.inl (some (.int (sp_o (sp_C W n p))))) := by
  have hn := h.2.1.2.1
  unfold R_Rewriter_isCut
  rw [gd_gI (gi_in (show p < 1040 by omega) (by omega : 1040 ≤ 100000)), gi_cl (show p ≤ 100000 by omega), h.2.2.2 p hp]
  by_cases c : sp_C W n p
  · rw [if_neg (fun z => mk_8.mp z c), sp_ot c]
  · rw [if_pos (mk_8.mpr c), sp_of c]
theorem pl_4 {W : Nat → Int32} {n : Nat} {σ : gS} (κ : gS → gR) (a : Int32) (h : cw W n σ) :
    ∃ s, gd_lp (fun _ _ _ => none) (B_Rewriter_plan_4 κ a) gd_N 0 0 σ = κ s ∧ (∀ p, p < n → gA s 39 p = nI (nm (sp_C W n) p)) ∧ gd_fm ([], [39], []) σ s := by
  have hn := h.2.1.2.1
  refine gd_it3 (I := fun m f i s => ∃ j, j ≤ n ∧ m = n - j ∧ f = nI (sp_n (sp_C W n) j) ∧ i = nI j ∧ (∀ p, p < j → gA s 39 p = nI (nm (sp_C W n) p)) ∧ gd_fm ([], [39], []) σ s) (E := fun (r : gR) => ∃ s, r = κ s ∧ (∀ p, p < n → gA s 39 p = nI (nm (sp_C W n) p)) ∧ gd_fm ([], [39], []) σ s) ?_ gd_N n 0 0 σ ⟨0, by omega, rfl, rfl, rfl, fun p hp => absurd hp (Nat.not_lt_zero p), gd_fm0 _ _⟩ (gd_Nlt (by omega))
  rintro m f i s ag ⟨j, hj, rfl, rfl, rfl, h39, fr⟩
  have h1 := cw_fm h fr rfl rfl
  unfold B_Rewriter_plan_4
  rw [h1.2.1.1]
  by_cases hjn : j = n
  · subst hjn
    rw [if_pos ((gi_le (by omega) (by omega)).mpr (Nat.le_refl _))]
    exact Or.inr ⟨s, rfl, h39, fr⟩
  · have hjn' : j < n := by omega
    have hle := sp_n_le (sp_C W n) j
    rw [if_neg (fun z => by have := (gi_le (by omega) (by omega)).mp z; omega), gd_gI (gi_in (show j < 1041 by omega) (by omega : 1041 ≤ 100000)), gd_s1, gi_cl (show j ≤ 100000 by omega), nI_add, nI_1]
    have fr2 : gd_fm ([], [39], []) σ (gs_A s 39 j (nI (j + sp_n (sp_C W n) j))) := gd_fmA fr rfl
    rw [isc (cw_fm h fr2 rfl rfl) hjn', gd_qi1, gd_t1]
    have v10 : (if sp_o (sp_C W n j) = 0 then (0 : Int32) else 1) = nI (sp_i (sp_C W n j)) := by
      by_cases c : sp_C W n j
      · rw [sp_ot c, sp_it c]; rfl
      · rw [sp_of c, sp_if c]; rfl
    rw [v10, nI_add]
    refine Or.inl ⟨_, _, _, n - (j + 1), by omega, ⟨j + 1, by omega, rfl, rfl, rfl, fun p hp => ?_, fr2⟩, rfl⟩
    show (if p = j then nI (j + sp_n (sp_C W n) j) else gA s 39 p) = _
    by_cases e : p = j
    · rw [if_pos e, e]; rfl
    · rw [if_neg e]; exact h39 p (by omega)
theorem nofr {W : Nat → Int32} {n p : Nat} {σ : gS} (h : cw W n σ) (h39 : ∀ p, p ≤ n → gA σ 39 p = nI (nm (sp_C W n) p)) (hp : p < n) (hk : sp_k W p = 5 ∨ sp_k W p = 6) : R_Rewriter_newOffset (nI p) σ = some (.inl (some (.int (nof W n p)))) := by
  have hn := h.2.1.2.1
  obtain ⟨t, ht, e1, _⟩ := sp_tt (by rw [← h.1]; exact h.2.1.2.2.1) hn hp hk
  unfold R_Rewriter_newOffset nof
  simp only [gd_gI (gi_in (show p < 1040 by omega) (by omega : 1040 ≤ 100000)), gi_cl (show p ≤ 100000 by omega), (h.2.1.2.2.2 p hp).2.2.2.2.2.2, h.1, e1, gd_gI (gi_in (show t < 1041 by omega) (by omega : 1041 ≤ 100000)), gd_gI (gi_in (show p < 1041 by omega) (by omega : 1041 ≤ 100000)), gi_cl (show t ≤ 100000 by omega), h39 t ht, h39 p (by omega)]
theorem pl_61 {W : Nat → Int32} {n : Nat} {σ : gS} (κ : gS → gR) (a : Int32) (h : cw W n σ) (h39 : ∀ p, p ≤ n → gA σ 39 p = nI (nm (sp_C W n) p)) :
    (gd_lp (fun _ _ => none) (B_Rewriter_plan_61 κ a) gd_N 0 σ = κ σ ∧ ∀ p, p < n → sp_k W p = 5 → inr W n p) ∨ (gd_lp (fun _ _ => none) (B_Rewriter_plan_61 κ a) gd_N 0 σ = some (.inl (some (.int 0)), σ) ∧ ∃ p, p < n ∧ sp_k W p = 5 ∧ ¬ inr W n p) := by
  have hn := h.2.1.2.1
  refine gd_it2 (I := fun m i s => ∃ j, j ≤ n ∧ m = n - j ∧ i = nI j ∧ s = σ ∧ ∀ p, p < j → sp_k W p = 5 → inr W n p) (E := fun (r : gR) => (r = κ σ ∧ ∀ p, p < n → sp_k W p = 5 → inr W n p) ∨ (r = some (.inl (some (.int 0)), σ) ∧ ∃ p, p < n ∧ sp_k W p = 5 ∧ ¬ inr W n p)) ?_ gd_N n 0 σ ⟨0, by omega, rfl, rfl, rfl, fun p hp => absurd hp (Nat.not_lt_zero p)⟩ (gd_Nlt (by omega))
  rintro m i s ag ⟨j, hj, rfl, rfl, rfl, hi⟩
  unfold B_Rewriter_plan_61
  rw [h.2.1.1]
  by_cases hjn : j = n
  · subst hjn
    rw [if_pos ((gi_le (by omega) (by omega)).mpr (Nat.le_refl _))]
    exact Or.inr (Or.inl ⟨rfl, hi⟩)
  · have hjn' : j < n := by omega
    rw [if_neg (fun z => by have := (gi_le (by omega) (by omega)).mp z; omega), gd_gI (gi_in (show j < 1040 by omega) (by omega : 1040 ≤ 100000)), gi_cl (show j ≤ 100000 by omega), gd_j1, (h.2.1.2.2.2 j hjn').1, h.1, nI_1]
    by_cases c : sp_k W j = 5
    · rw [if_pos c, nofr h h39 hjn' (Or.inl c), gd_qi1]
      by_cases d : inr W n j
      · rw [if_neg (fun z => (ibo _).mp z d)]
        refine Or.inl ⟨nI (j + 1), s, n - (j + 1), by omega, ⟨j + 1, by omega, rfl, rfl, rfl, fun p hp hk => ?_⟩, rfl⟩
        by_cases e : p = j
        · rw [e]; exact d
        · exact hi p (by omega) hk
      · rw [if_pos ((ibo _).mpr d)]
        exact Or.inr (Or.inr ⟨rfl, j, hjn', c, d⟩)
    · rw [if_neg c]
      refine Or.inl ⟨nI (j + 1), s, n - (j + 1), by omega, ⟨j + 1, by omega, rfl, rfl, rfl, fun p hp hk => ?_⟩, rfl⟩
      by_cases e : p = j
      · rw [e] at hk; exact absurd hk c
      · exact hi p (by omega) hk
theorem pl_all {W : Nat → Int32} {n : Nat} {σ : gS} (h : cw W n σ) : ∃ s, (∀ p, p ≤ n → gA s 39 p = nI (nm (sp_C W n) p)) ∧ gd_fm ([], [39], []) σ s ∧ ((F_Rewriter_plan (nI (nm (sp_C W n) n)) σ = some (.inl (some (.int 1)), s) ∧ ∀ p, p < n → sp_k W p = 5 → inr W n p) ∨ (F_Rewriter_plan (nI (nm (sp_C W n) n)) σ = some (.inl (some (.int 0)), s) ∧ ∃ p, p < n ∧ sp_k W p = 5 ∧ ¬ inr W n p)) := by
  have hn := h.2.1.2.1
  unfold F_Rewriter_plan
  rw [gd_j1]
  obtain ⟨s, k1, k2, k3⟩ := pl_4 (fun (s11 : gS) => gd_g (gd_in (gI s11 2 7) 1041) <| gd_s (gs_A s11 39 (gI s11 2 7).toNatClampNeg (nI (nm (sp_C W n) n))) fun s12 => gd_j (α := gS → gR) (fun (s20 : gS) => if 1040 < nI (nm (sp_C W n) n) then some (.inl (some (.int 0)), s20) else some (.inl (some (.int 1)), s20)) fun k17 => gd_lp (fun _ _ => none) (B_Rewriter_plan_61 k17 (nI (nm (sp_C W n) n))) gd_N 0 s12) (nI (nm (sp_C W n) n)) h
  have h1 := cw_fm h k3 rfl rfl
  rw [k1, h1.2.1.1, gd_gI (gi_in (show n < 1041 by omega) (by omega : 1041 ≤ 100000)), gi_cl (show n ≤ 100000 by omega), gd_s1, gd_j1]
  have fr2 : gd_fm ([], [39], []) σ (gs_A s 39 n (nI (nm (sp_C W n) n))) := gd_fmA k3 rfl
  have h39 : ∀ p, p ≤ n → gA (gs_A s 39 n (nI (nm (sp_C W n) n))) 39 p = nI (nm (sp_C W n) p) := by
    intro p hp
    show (if p = n then nI (nm (sp_C W n) n) else gA s 39 p) = _
    by_cases e : p = n
    · rw [if_pos e, e]
    · rw [if_neg e]; exact k2 p (by omega)
  refine ⟨_, h39, fr2, ?_⟩
  rcases pl_61 (fun (s20 : gS) => if 1040 < nI (nm (sp_C W n) n) then some (.inl (some (.int 0)), s20) else some (.inl (some (.int 1)), s20)) (nI (nm (sp_C W n) n)) (cw_fm h fr2 rfl rfl) h39 with ⟨g1, g2⟩ | ⟨g1, g2⟩
  · left
    refine ⟨?_, g2⟩
    rw [g1, if_neg (fun z => by have := (gi_lt (a := 1040) (by omega) (by have := h.2.2.1; omega)).mp z; have := h.2.2.1; omega)]
  · right
    exact ⟨g1, g2⟩
theorem nwr {W : Nat → Int32} {n p : Nat} {σ : gS} (h : cw W n σ) (h39 : ∀ p, p ≤ n → gA σ 39 p = nI (nm (sp_C W n) p)) (hp : p < n) : R_Rewriter_newWord (nI p) (W p) σ = some (.inl (some (.int (nwd W n p)))) := by
  have hn := h.2.1.2.1
  unfold R_Rewriter_newWord nwd
  rw [gd_gI (gi_in (show p < 1040 by omega) (by omega : 1040 ≤ 100000)), gi_cl (show p ≤ 100000 by omega), (h.2.1.2.2.2 p hp).1, h.1]
  by_cases k5 : sp_k W p = 5
  · rw [if_pos k5, if_pos k5, nofr h h39 hp (Or.inl k5), gd_pi1, bt_bw]
  · rw [if_neg k5, if_neg k5]
    by_cases k6 : sp_k W p = 6
    · rw [if_pos k6, if_pos k6, nofr h h39 hp (Or.inr k6), gd_pi1, bt_jw]
    · rw [if_neg k6, if_neg k6]
def wd (W : Nat → Int32) (n : Nat) (s : gS) (j : Nat) : Prop := (∀ q, j ≤ q → q < n → gA s 1 (nm (sp_C W n) q) = nwd W n q ∧ gA s 40 (nm (sp_C W n) q) = nI q) ∧ (∀ q, j ≤ q → q < n → sp_C W n q → gA s 1 (nm (sp_C W n) q + 1) = 267386895 ∧ gA s 40 (nm (sp_C W n) q + 1) = -1)
theorem wo_10 {W : Nat → Int32} {n : Nat} {σ : gS} (κ : gS → gR) (h : cw W n σ) (h39 : ∀ p, p ≤ n → gA σ 39 p = nI (nm (sp_C W n) p)) (h1 : ∀ i, i < n → gA σ 1 i = W i) :
    ∃ s, gd_lp (fun _ _ => none) (B_Rewriter_writeOver_1_10 κ) gd_N (nI n - 1) σ = κ s ∧ wd W n s 0 ∧ gd_fm ([], [1, 40], []) σ s := by
  have hn := h.2.1.2.1
  have hN := h.2.2.1
  have pre : ∀ j, j ≤ n → ¬ j = 0 → nI j - 1 = nI (j - 1) := fun j hj hz => by
    refine Int32.toInt_inj.mp ?_
    rw [show (1 : Int32) = nI 1 from rfl, subI (by omega) (by omega), nI_toInt (by omega)]
    omega
  refine gd_it2 (I := fun m i s => ∃ j, j ≤ n ∧ m = j ∧ i = nI j - 1 ∧ wd W n s j ∧ (∀ i, i < j → gA s 1 i = W i) ∧ gd_fm ([], [1, 40], []) σ s) (E := fun (r : gR) => ∃ s, r = κ s ∧ wd W n s 0 ∧ gd_fm ([], [1, 40], []) σ s) ?_ gd_N n (nI n - 1) σ ⟨n, Nat.le_refl n, rfl, rfl, ⟨fun q h1 h2 => by omega, fun q h1 h2 => by omega⟩, h1, gd_fm0 _ _⟩ (gd_Nlt (by omega))
  rintro m i s ag ⟨j, hj, rfl, rfl, hw, ho, fr⟩
  unfold B_Rewriter_writeOver_1_10
  by_cases hz : m = 0
  · subst hz
    rw [if_pos (by decide)]
    exact Or.inr ⟨s, rfl, hw, fr⟩
  · obtain ⟨p, rfl⟩ : ∃ p, m = p + 1 := ⟨m - 1, by omega⟩
    have hc1 := cw_fm h fr rfl rfl
    have h39s : ∀ p, p ≤ n → gA s 39 p = nI (nm (sp_C W n) p) := by rw [fm_A fr (p := 39) rfl]; exact h39
    have hp : p < n := by omega
    have hm := nm_lt (C := sp_C W n) hp
    rw [pre (p + 1) hj hz, show p + 1 - 1 = p by omega]
    rw [if_neg (nI_pos (by omega))]
    simp only [gd_gI (gi_in (show p < 1041 by omega) (by omega : 1041 ≤ 100000)), gd_gI (gi_in (show p < 1040 by omega) (by omega : 1040 ≤ 100000)), gi_cl (show p ≤ 100000 by omega), ho p (by omega), nwr hc1 h39s hp, gd_qi1, h39s p (by omega), gd_gI (gi_in (show nm (sp_C W n) p < 1040 by omega) (by omega : 1040 ≤ 100000)), gi_cl (show nm (sp_C W n) p ≤ 100000 by omega), gd_s1, nI_1]
    generalize hρ : gs_A (gs_A s 1 (nm (sp_C W n) p) (nwd W n p)) 40 (nm (sp_C W n) p) (nI p) = ρ
    have fρ : gd_fm ([], [1, 40], []) σ ρ := by rw [← hρ]; exact gd_fmA (gd_fmA fr rfl) rfl
    have a1 : ∀ i, gA ρ 1 i = if i = nm (sp_C W n) p then nwd W n p else gA s 1 i := by rw [← hρ]; intro i; rfl
    have a40 : ∀ i, gA ρ 40 i = if i = nm (sp_C W n) p then nI p else gA s 40 i := by rw [← hρ]; intro i; rfl
    rw [isc (cw_fm h fρ rfl rfl) hp, gd_qi1, gd_j1]
    have last : nI p + (-1) = nI p - 1 := by
      refine Int32.toInt_inj.mp ?_
      rw [Int32.toInt_add, Int32.toInt_sub, show (-1 : Int32).toInt = -1 by decide, show (1 : Int32).toInt = 1 by decide]
      rfl
    refine Or.inl ?_
    by_cases c : sp_C W n p
    · rw [sp_it c] at hm
      rw [sp_ot c, if_neg (show ¬ (1 : Int32) = 0 by decide)]
      simp only [gd_gI (gi_in (show nm (sp_C W n) p + 1 < 1040 by omega) (by omega : 1040 ≤ 100000)), gi_cl (show nm (sp_C W n) p + 1 ≤ 100000 by omega), gd_s1]
      rw [last]
      have ne : ∀ q, p + 1 ≤ q → ¬ nm (sp_C W n) q = nm (sp_C W n) p ∧ ¬ nm (sp_C W n) q = nm (sp_C W n) p + 1 ∧ ¬ nm (sp_C W n) q + 1 = nm (sp_C W n) p ∧ ¬ nm (sp_C W n) q + 1 = nm (sp_C W n) p + 1 := by
        intro q hq
        have := nm_lt (C := sp_C W n) (show p < q by omega)
        rw [sp_it c] at this
        omega
      refine ⟨nI p - 1, _, p, by omega, ⟨p, by omega, rfl, rfl, ⟨fun q q1 q2 => ?_, fun q q1 q2 q3 => ?_⟩, fun i hi => ?_, gd_fmA (gd_fmA fρ rfl) rfl⟩, rfl⟩
      · show (if nm (sp_C W n) q = nm (sp_C W n) p + 1 then _ else gA ρ 1 (nm (sp_C W n) q)) = _ ∧ (if nm (sp_C W n) q = nm (sp_C W n) p + 1 then _ else gA ρ 40 (nm (sp_C W n) q)) = _
        by_cases e : q = p
        · subst e
          rw [if_neg (by omega), if_neg (by omega), a1, a40, if_pos rfl, if_pos rfl]; exact ⟨rfl, rfl⟩
        · obtain ⟨n1, n2, n3, n4⟩ := ne q (by omega)
          rw [if_neg n2, if_neg n2, a1, a40, if_neg n1, if_neg n1]; exact hw.1 q (by omega) q2
      · show (if nm (sp_C W n) q + 1 = nm (sp_C W n) p + 1 then _ else gA ρ 1 (nm (sp_C W n) q + 1)) = _ ∧ (if nm (sp_C W n) q + 1 = nm (sp_C W n) p + 1 then _ else gA ρ 40 (nm (sp_C W n) q + 1)) = _
        by_cases e : q = p
        · subst e
          rw [if_pos rfl, if_pos rfl]; exact ⟨rfl, rfl⟩
        · obtain ⟨n1, n2, n3, n4⟩ := ne q (by omega)
          rw [if_neg n4, if_neg n4, a1, a40, if_neg n3, if_neg n3]; exact hw.2 q (by omega) q2 q3
      · have := nm_ge (sp_C W n) p
        show (if i = nm (sp_C W n) p + 1 then _ else gA ρ 1 i) = _
        rw [if_neg (by omega), a1, if_neg (by omega)]; exact ho i (by omega)
    · rw [sp_of c, if_pos (rfl : (0 : Int32) = 0), last]
      have ne : ∀ q, p + 1 ≤ q → ¬ nm (sp_C W n) q = nm (sp_C W n) p ∧ ¬ nm (sp_C W n) q + 1 = nm (sp_C W n) p := by
        intro q hq
        have := nm_lt (C := sp_C W n) (show p < q by omega)
        omega
      refine ⟨nI p - 1, ρ, p, by omega, ⟨p, by omega, rfl, rfl, ⟨fun q q1 q2 => ?_, fun q q1 q2 q3 => ?_⟩, fun i hi => ?_, fρ⟩, rfl⟩
      · rw [a1, a40]
        by_cases e : q = p
        · subst e
          rw [if_pos rfl, if_pos rfl]; exact ⟨rfl, rfl⟩
        · obtain ⟨n1, n3⟩ := ne q (by omega)
          rw [if_neg n1, if_neg n1]; exact hw.1 q (by omega) q2
      · rw [a1, a40]
        by_cases e : q = p
        · subst e; exact absurd q3 c
        · obtain ⟨n1, n3⟩ := ne q (by omega)
          rw [if_neg n3, if_neg n3]; exact hw.2 q (by omega) q2 q3
      · have := nm_ge (sp_C W n) p
        rw [a1, if_neg (by omega)]; exact ho i (by omega)
theorem wo_all {W : Nat → Int32} {n : Nat} {σ : gS} (h : cw W n σ) (h39 : ∀ p, p ≤ n → gA σ 39 p = nI (nm (sp_C W n) p)) (h1 : ∀ i, i < n → gA σ 1 i = W i) :
    ∃ s, F_Rewriter_writeOver_1 σ = some (.inl (some (.int (nI (nm (sp_C W n) n)))), s) ∧ wd W n s 0 ∧ gd_fm ([], [1, 40], []) σ s := by
  have hn := h.2.1.2.1
  unfold F_Rewriter_writeOver_1
  rw [gd_j1, h.2.1.1]
  obtain ⟨s, k1, k2, k3⟩ := wo_10 (fun (s13 : gS) => gd_g (gd_in (gI s13 2 7) 1041) <| some (.inl (some (.int (gA s13 39 (gI s13 2 7).toNatClampNeg))), s13)) h h39 h1
  rw [k1, show gI s 2 7 = nI n from (fm_I k3 rfl).trans h.2.1.1, gd_gI (gi_in (show n < 1041 by omega) (by omega : 1041 ≤ 100000)), gi_cl (show n ≤ 100000 by omega), fm_A k3 (p := 39) rfl, h39 n (Nat.le_refl n)]
  exact ⟨s, rfl, k2, k3⟩
