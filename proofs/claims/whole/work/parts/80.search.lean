theorem d2n {d : Nat} (h : d ≤ 100000) : nI d - nI (d / 2) * (2 : Int32) = nI (d % 2) := by rw [← d2v h]; exact d2m h
theorem rs_2 (κ : gS → gR) (σ : gS) {n : Nat} (hn : n ≤ 1040) (h2 : gI σ 41 2 = nI n) : gd_lp (fun _ _ => none) (B_M_search_2 κ) gd_N 0 σ = κ (gs_row σ 61 (mc_put (gA σ 61) 0 (2 * n) (fun _ => -1))) := by
  refine cp_lp (B := fun κ => B_M_search_2 κ) σ 61 0 (2 * n) (fun _ => -1) (by omega) (fun ag j s hj hs => ?_) (fun ag s hs => ?_)
  · subst hs
    unfold B_M_search_2
    rw [show gI (gs_row σ 61 (mc_put (gA σ 61) 0 j (fun _ => -1))) 41 2 = nI n from h2, d2, if_neg (fun z => by have := (gi_le (by omega) (by omega)).mp z; omega)]
    simp only [gd_gI (gi_in (show j < 2080 by omega) (by omega : 2080 ≤ 100000)), gi_cl (show j ≤ 100000 by omega), Nat.zero_add, gd_s1]
  · subst hs
    unfold B_M_search_2
    rw [show gI (gs_row σ 61 (mc_put (gA σ 61) 0 (2 * n) (fun _ => -1))) 41 2 = nI n from h2, d2, if_pos ((gi_le (by omega) (by omega)).mpr (Nat.le_refl _))]
theorem rs_32 {W : Nat → Int32} {n : Nat} {b : fl_F} {σ : gS} {L0 : List Nat} {f0 : Nat → Nat} (κ : gS → gR) (hk : rk W n σ) (h : sq W n b σ L0 f0) :
    ∃ s L f, gd_lp (fun _ _ => none) (B_M_search_32 κ) gd_N 0 σ = κ s ∧ sq W n b s L f ∧ (∀ u, sp_S W n u → 2 * u ∈ L) ∧ gd_fm W_M_find σ s := by
  refine gd_it2 (I := fun m i s => ∃ j L f, j ≤ n ∧ m = n - j ∧ i = nI j ∧ sq W n b s L f ∧ (∀ u, u < j → sp_S W n u → 2 * u ∈ L) ∧ gd_fm W_M_find σ s) (E := fun (r : gR) => ∃ s L f, r = κ s ∧ sq W n b s L f ∧ (∀ u, sp_S W n u → 2 * u ∈ L) ∧ gd_fm W_M_find σ s) ?_ gd_N n 0 σ ⟨0, L0, f0, by omega, rfl, rfl, h, fun u hu => absurd hu (Nat.not_lt_zero u), gd_fm0 _ _⟩ (gd_Nlt (by have := hk.2.2.1; omega))
  rintro m i s ag ⟨j, L, f, hj, rfl, rfl, hq, hm, fr⟩
  obtain ⟨w1, hok, hn, s1, h57, h53, h55⟩ := rk_fm hk fr rfl
  unfold B_M_search_32
  rw [s1]
  by_cases hjn : j = n
  · subst hjn
    rw [if_pos ((gi_le (by omega) (by omega)).mpr (Nat.le_refl _))]
    exact Or.inr ⟨s, L, f, rfl, hq, fun u hu => hm u (sp_Tl hu.1) hu, fr⟩
  · rw [if_neg (fun z => by have := (gi_le (by omega) (by omega)).mp z; omega), br_kindN (by omega), gd_j1, w1]
    simp only [gd_gI (gi_in (show j < 1040 by omega) (by omega : 1040 ≤ 100000)), gi_cl (show j ≤ 100000 by omega), gd_qi1, h53 j (by omega), d2, nI_1]
    refine Or.inl ?_
    have skip : ¬ sp_S W n j → ∃ a' b' m', m' < n - j ∧ (∃ j L f, j ≤ n ∧ m' = n - j ∧ a' = nI j ∧ sq W n b b' L f ∧ (∀ u, u < j → sp_S W n u → 2 * u ∈ L) ∧ gd_fm W_M_find σ b') ∧ ag (nI (j + 1)) s = ag a' b' := by
      intro hc
      refine ⟨nI (j + 1), s, n - (j + 1), by omega, ⟨j + 1, L, f, by omega, rfl, rfl, hq, fun u hu he => ?_, fr⟩, rfl⟩
      by_cases e : u = j
      · subst e; exact (hc he).elim
      · exact hm u (by omega) he
    by_cases c1 : sp_T W n j
    · rw [sp_it c1, if_neg (show ¬ nI 1 = 0 by decide)]
      by_cases c2 : sp_k W j = 3
      · rw [if_pos c2]
        obtain ⟨s', L', f', k1, k2, k3, k4⟩ := sq_find (d := 2 * j) (y := 2 * j) hn hq (by omega) (by rw [show 2 * j / 2 = j by omega]; exact c1) (by omega) (Or.inl ⟨j, rfl, ⟨c1, c2⟩, rfl⟩)
        rw [k1, gd_01]
        refine ⟨nI (j + 1), s', n - (j + 1), by omega, ⟨j + 1, L', f', by omega, rfl, rfl, k2, fun u hu he => ?_, gd_fmT (gd_sbI rfl) fr (K_M_find _ _ _ _ k1)⟩, rfl⟩
        by_cases e : u = j
        · subst e; exact (k4 _).mpr (Or.inr rfl)
        · exact (k4 _).mpr (Or.inl (hm u (by omega) he))
      · rw [if_neg c2]
        exact skip (fun z => c2 z.2)
    · rw [sp_if c1, if_pos (show nI 0 = 0 from rfl)]
      exact skip (fun z => c1 z.1)
def sqc (W : Nat → Int32) (n : Nat) (b : fl_F) (L : List Nat) : Prop := (∀ y ∈ L, ∀ z, mv (sp_E W n) b y z → z ∈ L) ∧ ∀ t, 2 * t + 1 ∈ L → ¬ sp_e W n t
theorem rs_76 {W : Nat → Int32} {n : Nat} {b : fl_F} {Z : List Nat} {σ : gS} {L0 : List Nat} {f0 : Nat → Nat} (κ : Int32 → gS → gR) (hk : rk W n σ) (hb : rb W n σ b Z) (h : sq W n b σ L0 f0) (hS : ∀ u, sp_S W n u → 2 * u ∈ L0) :
    ∃ s L f, sq W n b s L f ∧ (∀ u, sp_S W n u → 2 * u ∈ L) ∧ ((gd_lp (fun _ _ => none) (B_M_search_76 κ) gd_N 0 σ = some (.inl (some (.int (-1))), s) ∧ sqc W n b L) ∨ ∃ h t, gd_lp (fun _ _ => none) (B_M_search_76 κ) gd_N 0 σ = κ (nI h) s ∧ L[h]? = some (2 * t + 1) ∧ sp_e W n t) := by
  refine gd_it2 (I := fun m i s => ∃ j L f, j ≤ L.length ∧ m = 2 * n + 1 - j ∧ i = nI j ∧ sq W n b s L f ∧ (∀ u, sp_S W n u → 2 * u ∈ L) ∧ (∀ (i y : Nat), i < j → L[i]? = some y → (∀ z, mv (sp_E W n) b y z → z ∈ L) ∧ ∀ t, y = 2 * t + 1 → ¬ sp_e W n t) ∧ gd_fm W_M_search σ s) (E := fun (r : gR) => ∃ s L f, sq W n b s L f ∧ (∀ u, sp_S W n u → 2 * u ∈ L) ∧ ((r = some (.inl (some (.int (-1))), s) ∧ sqc W n b L) ∨ ∃ h t, r = κ (nI h) s ∧ L[h]? = some (2 * t + 1) ∧ sp_e W n t)) ?_ gd_N (2 * n + 1) 0 σ ⟨0, L0, f0, Nat.zero_le _, rfl, rfl, h, hS, fun i y hi => absurd hi (Nat.not_lt_zero i), gd_fm0 _ _⟩ (gd_Nlt (by have := hk.2.2.1; omega))
  rintro m i s ag ⟨j, L, f, hj, rfl, rfl, hq, hm, hc, fr⟩
  have hk' := rk_fm hk fr rfl
  have hb' := rb_fm hb fr rfl
  obtain ⟨w1, hok, hn, s1, h57, h53, h55⟩ := id hk'
  obtain ⟨b59, b58, b60, bZ, bN, bo, bs⟩ := id hb'
  have hlen := sq_len hq
  unfold B_M_search_76
  rw [hq.1.1]
  by_cases hjl : j = L.length
  · rw [if_pos ((gi_le (by omega) (by omega)).mpr (by omega))]
    refine Or.inr ⟨s, L, f, hq, hm, Or.inl ⟨rfl, fun y hy => ?_, fun t ht => ?_⟩⟩
    · obtain ⟨i, hi⟩ := List.mem_iff_getElem?.mp hy
      have := (List.getElem?_eq_some_iff.mp hi).1
      exact (hc i y (by omega) hi).1
    · obtain ⟨i, hi⟩ := List.mem_iff_getElem?.mp ht
      have := (List.getElem?_eq_some_iff.mp hi).1
      exact (hc i _ (by omega) hi).2 t rfl
  · have hlt : j < L.length := by omega
    obtain ⟨d, hd⟩ : ∃ d, L[j]? = some d := ⟨L[j], List.getElem?_eq_getElem hlt⟩
    have hdm := List.mem_of_getElem? hd
    obtain ⟨hdn, hdT, -⟩ := hq.2.2.2.1 d hdm
    have qd : gA s 62 j = nI d := hq.1.2 j d hd
    rw [if_neg (fun z => by have := (gi_le (by omega) (by omega)).mp z; omega), gd_j1]
    simp only [gd_gI (gi_in (show j < 2081 by omega) (by omega : 2081 ≤ 100000)), gi_cl (show j ≤ 100000 by omega), qd, d2n (show d ≤ 100000 by omega), d2v (show d ≤ 100000 by omega), nI_1]
    have go : ∀ s' L' f', sq W n b s' L' f' → L <+: L' → (∀ z, mv (sp_E W n) b d z → z ∈ L') → (∀ t, d = 2 * t + 1 → ¬ sp_e W n t) → gd_fm W_M_search σ s' → (∃ a' b' m', m' < 2 * n + 1 - j ∧ (∃ j L f, j ≤ L.length ∧ m' = 2 * n + 1 - j ∧ a' = nI j ∧ sq W n b b' L f ∧ (∀ u, sp_S W n u → 2 * u ∈ L) ∧ (∀ (i y : Nat), i < j → L[i]? = some y → (∀ z, mv (sp_E W n) b y z → z ∈ L) ∧ ∀ t, y = 2 * t + 1 → ¬ sp_e W n t) ∧ gd_fm W_M_search σ b') ∧ ag (nI (j + 1)) s' = ag a' b') := by
      intro s' L' f' k1 k2 k3 k4 k5
      have := k2.length_le
      refine ⟨nI (j + 1), s', 2 * n + 1 - (j + 1), by omega, ⟨j + 1, L', f', by omega, rfl, rfl, k1, fun u hu => k2.subset (hm u hu), fun i y hi hy => ?_, k5⟩, rfl⟩
      rw [bf_pre k2 (by omega)] at hy
      by_cases e : i = j
      · subst e
        rw [hd] at hy
        cases hy
        exact ⟨k3, k4⟩
      · have := hc i y (by omega) hy
        exact ⟨fun z hz => k2.subset (this.1 z hz), this.2⟩
    by_cases ev : d % 2 = 0
    · rw [ev, if_pos (show nI 0 = 0 from rfl)]
      have e2 : d = 2 * (d / 2) := by omega
      obtain ⟨s', L', f', k1, k2, k3, k4⟩ := rs_e hk' hb' (show d / 2 < n by omega) hdT hq (e2 ▸ hdm)
      rw [k1, gd_01]
      exact Or.inl (go s' L' f' k2 k3 (fun z hz => k4 z (e2 ▸ hz)) (fun t ht => by omega) (gd_fmT (gd_sbI rfl) fr (K_M_findFromEntry _ _ _ k1)))
    · have e1 : d % 2 = 1 := by omega
      have e2 : d = 2 * (d / 2) + 1 := by omega
      rw [e1, if_neg (show ¬ nI 1 = 0 by decide), gd_j1]
      simp only [gd_gI (gi_in (show d / 2 < 1040 by omega) (by omega : 1040 ≤ 100000)), gi_cl (show d / 2 ≤ 100000 by omega), h55 (d / 2) (by omega), b60 (d / 2) (by omega)]
      by_cases c : sp_e W n (d / 2)
      · rw [if_neg (fun z => sp_o0.mp z c)]
        have hZ : ¬ (d / 2) ∈ Z := by
          intro z
          obtain ⟨-, z2, z3⟩ := bZ _ z
          rcases sq_fl (u := 0) bo hq (e2 ▸ hdm) with y | ⟨w, y, _⟩
          · exact z2 y
          · exact z3 w y
        rw [if_pos (sp_o0.mpr hZ)]
        exact Or.inr ⟨s, L, f, hq, hm, Or.inr ⟨j, d / 2, rfl, by rw [← e2]; exact hd, c⟩⟩
      · rw [if_pos (sp_o0.mpr c)]
        obtain ⟨s', L', f', k1, k2, k3, k4⟩ := rs_x hk' hb' (show d / 2 < n by omega) hdT hq (e2 ▸ hdm)
        rw [k1, gd_01]
        exact Or.inl (go s' L' f' k2 k3 (fun z hz => k4 z (e2 ▸ hz)) (fun t ht => (show t = d / 2 by omega) ▸ c) (gd_fmT (gd_sbI rfl) fr (K_M_findFromExit _ _ _ k1)))
def srd (W : Nat → Int32) (n : Nat) (b : fl_F) (L : List Nat) (r : Int32) : Prop := (r = -1 ∧ sqc W n b L) ∨ ∃ (h t : Nat), r = nI (2 * t + 1) ∧ L[h]? = some (2 * t + 1) ∧ sp_e W n t
theorem rs_all {W : Nat → Int32} {n : Nat} {b : fl_F} {Z : List Nat} {σ : gS} (hk : rk W n σ) (hb : rb W n σ b Z) :
    ∃ r s L f, F_M_search σ = some (.inl (some (.int r)), s) ∧ sq W n b s L f ∧ (∀ u, sp_S W n u → 2 * u ∈ L) ∧ srd W n b L r := by
  have hn := hk.2.2.1
  unfold F_M_search
  rw [gd_j1, rs_2 _ _ hn hk.2.2.2.1, gd_s1, gd_j1]
  generalize hρ : gs_I (gs_row σ 61 (mc_put (gA σ 61) 0 (2 * n) (fun _ => -1))) 41 37 0 = ρ
  have fr : gd_fm W_M_search σ ρ := by rw [← hρ]; exact gd_fmI (gd_fmR (gd_fm0 _ _) rfl) rfl
  have q0 : sq W n b ρ [] id := by
    rw [← hρ]
    refine ⟨⟨rfl, fun i x hx => by simp at hx⟩, fun d hd => ?_, List.nodup_nil, fun d hx => (by cases hx), fun i x hx => by simp at hx⟩
    rw [if_neg (by simp)]
    show mc_put (gA σ 61) 0 (2 * n) (fun _ => -1) d = -1
    unfold mc_put
    rw [if_pos (by omega)]
  obtain ⟨s1, L1, f1, g1, g2, g3, g4⟩ := rs_32 (fun (s16 : gS) => gd_j (α := Int32 → gS → gR) (fun (v27 : Int32) (s26 : gS) => gd_g (gd_in v27 2081) <| some (.inl (some (.int (gA s26 62 v27.toNatClampNeg))), s26)) fun k20 => gd_lp (fun _ _ => none) (B_M_search_76 k20) gd_N 0 s16) (rk_fm hk fr rfl) q0
  rw [g1, gd_j1]
  obtain ⟨s2, L2, f2, k1, k2, k3⟩ := rs_76 (fun (v27 : Int32) (s26 : gS) => gd_g (gd_in v27 2081) <| some (.inl (some (.int (gA s26 62 v27.toNatClampNeg))), s26)) (rk_fm (rk_fm hk fr rfl) g4 rfl) (rb_fm (rb_fm hb fr rfl) g4 rfl) g2 g3
  rcases k3 with ⟨e, k3⟩ | ⟨h, t, e, k3, k4⟩
  · exact ⟨-1, s2, L2, f2, e, k1, k2, Or.inl ⟨rfl, k3⟩⟩
  · have hl := sq_len k1
    have hh := (List.getElem?_eq_some_iff.mp k3).1
    refine ⟨nI (2 * t + 1), s2, L2, f2, ?_, k1, k2, Or.inr ⟨h, t, rfl, k3, k4⟩⟩
    rw [e, gd_gI (gi_in (show h < 2081 by omega) (by omega : 2081 ≤ 100000)), gi_cl (show h ≤ 100000 by omega), k1.1.2 h _ k3]
