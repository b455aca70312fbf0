def gq (n : Nat) (σ : gS) (L : List Nat) : Prop := qq 26 8 28 σ L ∧ (∀ p, p < n → gA σ 27 p = mk (p ∈ L) False False False) ∧ L.Nodup ∧ ∀ x ∈ L, x < n
theorem gq_add {n : Nat} {a : Int32} {σ : gS} {L : List Nat} (hn : n ≤ 1040) (h : gq n σ L) (ha : a = -1 ∨ ∃ q, q < n ∧ a = nI q) : ∃ s L', F_Taint_addGuessed a σ = some (.inl none, s) ∧ gq n s L' ∧ L <+: L' ∧ ∀ x, x ∈ L' ↔ x ∈ L ∨ (x < n ∧ a = nI x) := by
  unfold F_Taint_addGuessed
  rcases ha with rfl | ⟨q, hq, rfl⟩
  · rw [if_pos rfl]
    exact ⟨σ, L, rfl, h, List.prefix_refl _, fun x => ⟨Or.inl, fun z => z.elim id (fun y => absurd y.2.symm (gi_m1 (by omega)))⟩⟩
  · rw [if_neg (gi_m1 (by omega))]
    simp only [gd_gI (gi_in (show q < 1040 by omega) (by omega : 1040 ≤ 100000)), gi_cl (show q ≤ 100000 by omega), h.2.1 q hq]
    have ex : ∀ x, x < n ∧ nI q = nI x ↔ x = q := fun x => ⟨fun z => ((gi_eq (by omega) (by omega)).mp z.2).symm, fun z => by rw [z]; exact ⟨hq, rfl⟩⟩
    by_cases c : q ∈ L
    · rw [if_neg (fun z => mk_1.mp z c)]
      exact ⟨σ, L, rfl, h, List.prefix_refl _, fun x => ⟨Or.inl, fun z => z.elim id (fun y => ((ex x).mp y) ▸ c)⟩⟩
    · rw [if_pos (mk_1.mpr c)]
      have hnd := qq_nd h.2.2.1 c
      have hl2 : L.length + 1 ≤ n := by
        have := bf_len hnd (fun x hx => (qq_m.mp hx).elim (fun z => h.2.2.2 x z) (fun z => (by omega : x < n)))
        rwa [List.length_append, List.length_singleton] at this
      simp only [gd_s1, gI_A, h.1.1, gd_gI (gi_in (show L.length < 1040 by omega) (by omega : 1040 ≤ 100000)), gi_cl (show L.length ≤ 100000 by omega)]
      refine ⟨_, L ++ [q], rfl, ⟨qq_push h.1 rfl (fun i => rfl), fun p hp => ?_, hnd, fun x hx => ?_⟩, List.prefix_append L [q], fun x => ?_⟩
      · show (if p = q then mk (q ∈ L) False False False ||| (1 : Int32) else gA σ 27 p) = _
        by_cases e : p = q
        · rw [if_pos e, mk_o1]
          exact mk_c ⟨fun _ => qq_m.mpr (Or.inr e), fun _ => trivial⟩ Iff.rfl Iff.rfl Iff.rfl
        · rw [if_neg e, h.2.1 p hp]
          exact mk_c ⟨fun z => qq_m.mpr (Or.inl z), fun z => (qq_m.mp z).resolve_right e⟩ Iff.rfl Iff.rfl Iff.rfl
      · rcases qq_m.mp hx with z | z
        · exact h.2.2.2 x z
        · omega
      · rw [qq_m, ex]
theorem gq_nx {n p : Nat} {σ : gS} {L : List Nat} (hD : rD n σ) (hp : p < n) (h : gq n σ L) : ∃ s L', F_Taint_addGuessedNexts (nI p) σ = some (.inl none, s) ∧ gq n s L' ∧ L <+: L' ∧ ∀ x, x ∈ L' ↔ x ∈ L ∨ sp_x (gA σ 42) n p x := by
  have hn := hD.2.1
  obtain ⟨n1, n2, n3⟩ := sp_nx hD.2.2.1 hn hp
  unfold F_Taint_addGuessedNexts
  rw [cl_nb hD hp, gd_qi1]
  obtain ⟨s1, L1, a1, a2, a3, a4⟩ := gq_add hn h n1
  have f1 := K_Taint_addGuessed _ _ _ a1
  have hD1 : rD n s1 := rD_sm hD (fm_sm f1 rfl)
  rw [a1, gd_01, cl_na hD1 hp, gd_qi1, fm_A f1 (p := 42) rfl]
  obtain ⟨s2, L2, b1, b2, b3, b4⟩ := gq_add hn a2 n2
  rw [b1, gd_01]
  refine ⟨s2, L2, rfl, b2, List.IsPrefix.trans a3 b3, fun x => ?_⟩
  rw [b4, a4]
  constructor
  · rintro ((z | z) | z)
    · exact Or.inl z
    · exact Or.inr ((n3 x z.1).mpr (Or.inl z.2))
    · exact Or.inr ((n3 x z.1).mpr (Or.inr z.2))
  · rintro (z | z)
    · exact Or.inl (Or.inl z)
    · rcases (n3 x z.1).mp z with y | y
      · exact Or.inl (Or.inr ⟨z.1, y⟩)
      · exact Or.inr ⟨z.1, y⟩
theorem mg_2 {n : Nat} {σ : gS} {W : Nat → Int32} (κ : gS → gR) (hW : gA σ 42 = W) (hD : rD n σ) (h : gq n σ []) :
    ∃ s L, gd_lp (fun _ _ => none) (B_Taint_markGuessed_2 κ) gd_N 0 σ = κ s ∧ gq n s L ∧ (∀ x, x ∈ L ↔ ∃ p, p < n ∧ sp_k W p = 5 ∧ sp_x W n p x) ∧ gd_fm W_Taint_markGuessed σ s := by
  have hn := hD.2.1
  refine gd_it2 (I := fun m i s => ∃ j L, j ≤ n ∧ m = n - j ∧ i = nI j ∧ gq n s L ∧ (∀ x, x ∈ L ↔ ∃ p, p < j ∧ sp_k W p = 5 ∧ sp_x W n p x) ∧ gd_fm W_Taint_markGuessed σ s) (E := fun (r : gR) => ∃ s L, r = κ s ∧ gq n s L ∧ (∀ x, x ∈ L ↔ ∃ p, p < n ∧ sp_k W p = 5 ∧ sp_x W n p x) ∧ gd_fm W_Taint_markGuessed σ s) ?_ gd_N n 0 σ ⟨0, [], by omega, rfl, rfl, h, fun x => ⟨fun z => (by cases z), fun ⟨p, hp, _⟩ => absurd hp (Nat.not_lt_zero p)⟩, gd_fm0 _ _⟩ (gd_Nlt (by omega))
  rintro m i s ag ⟨j, L, hj, rfl, rfl, hq, hm, fr⟩
  have w1 : gA s 42 = W := (fm_A fr rfl).trans hW
  have hD1 : rD n s := rD_sm hD (fm_sm fr rfl)
  unfold B_Taint_markGuessed_2
  rw [hD1.1]
  by_cases hjn : j = n
  · subst hjn
    rw [if_pos ((gi_le (by omega) (by omega)).mpr (Nat.le_refl _))]
    exact Or.inr ⟨s, L, rfl, hq, hm, fr⟩
  · have hjn' : j < n := by omega
    rw [if_neg (fun z => by have := (gi_le (by omega) (by omega)).mp z; omega)]
    simp only [gd_gI (gi_in (show j < 1040 by omega) (by omega : 1040 ≤ 100000)), gi_cl (show j ≤ 100000 by omega), (hD1.2.2.2 j hjn').1, w1, nI_1]
    rw [gd_j1]
    refine Or.inl ?_
    by_cases c : sp_k W j = 5
    · rw [if_pos c]
      obtain ⟨s', L', k1, k2, k3, k4⟩ := gq_nx hD1 hjn' hq
      rw [k1, gd_01]
      refine ⟨nI (j + 1), s', n - (j + 1), by omega, ⟨j + 1, L', by omega, rfl, rfl, k2, fun x => ?_, gd_fmT (gd_sbI rfl) fr (K_Taint_addGuessedNexts _ _ _ k1)⟩, rfl⟩
      rw [k4, hm, w1]
      constructor
      · rintro (⟨p, a, b⟩ | a)
        · exact ⟨p, by omega, b⟩
        · exact ⟨j, by omega, c, a⟩
      · rintro ⟨p, a, b, d⟩
        by_cases e : p = j
        · subst e; exact Or.inr d
        · exact Or.inl ⟨p, by omega, b, d⟩
    · rw [if_neg c]
      refine ⟨nI (j + 1), s, n - (j + 1), by omega, ⟨j + 1, L, by omega, rfl, rfl, hq, fun x => ?_, fr⟩, rfl⟩
      rw [hm]
      constructor
      · rintro ⟨p, a, b⟩; exact ⟨p, by omega, b⟩
      · rintro ⟨p, a, b, d⟩
        by_cases e : p = j
        · subst e; exact absurd b c
        · exact ⟨p, by omega, b, d⟩
theorem mg_39 {n : Nat} {σ : gS} {L0 : List Nat} {W : Nat → Int32} (hW : gA σ 42 = W) (hD : rD n σ) (h : gq n σ L0) (h0 : ∀ x, x ∈ L0 ↔ ∃ p, p < n ∧ sp_k W p = 5 ∧ sp_x W n p x) :
    ∃ s L, gd_lp (fun _ _ => none) B_Taint_markGuessed_39 gd_N 0 σ = some (.inl none, s) ∧ gq n s L ∧ (∀ x, x ∈ L ↔ sp_g W n x) := by
  have hn := hD.2.1
  refine gd_it2 (I := fun m i s => ∃ j L, j ≤ L.length ∧ m = n + 1 - j ∧ i = nI j ∧ gq n s L ∧ (∀ x ∈ L, sp_g W n x) ∧ (∀ x ∈ L0, x ∈ L) ∧ (∀ (i y : Nat), i < j → L[i]? = some y → ¬ sp_k W y = 7 → ∀ x, sp_x W n y x → x ∈ L) ∧ gd_fm W_Taint_markGuessed σ s) (E := fun (r : gR) => ∃ s L, r = some (.inl none, s) ∧ gq n s L ∧ (∀ x, x ∈ L ↔ sp_g W n x)) ?_ gd_N (n + 1) 0 σ ⟨0, L0, Nat.zero_le _, rfl, rfl, h, fun x hx P h1 h2 => ?_, fun x hx => hx, fun i y hi => absurd hi (Nat.not_lt_zero i), gd_fm0 _ _⟩ (gd_Nlt (by omega))
  · rintro m i s ag ⟨j, L, hj, rfl, rfl, hq, hs, h1, hc, fr⟩
    have w1 : gA s 42 = W := (fm_A fr rfl).trans hW
    have hD1 : rD n s := rD_sm hD (fm_sm fr rfl)
    have hl : L.length ≤ n := bf_len hq.2.2.1 hq.2.2.2
    unfold B_Taint_markGuessed_39
    rw [hq.1.1]
    by_cases hjl : j = L.length
    · rw [if_pos ((gi_le (by omega) (by omega)).mpr (by omega))]
      refine Or.inr ⟨s, L, rfl, hq, fun x => ⟨hs x, fun hx => ?_⟩⟩
      refine hx (fun x => x ∈ L) (fun p q hp h5 hx => h1 q ((h0 q).mpr ⟨p, hp, h5, hx⟩)) (fun p q hp h7 hx => ?_)
      obtain ⟨i, hi⟩ := List.mem_iff_getElem?.mp hp
      have := (List.getElem?_eq_some_iff.mp hi).1
      exact hc i p (by omega) hi h7 q hx
    · have hlt : j < L.length := by omega
      obtain ⟨p, hp⟩ : ∃ p, L[j]? = some p := ⟨L[j], List.getElem?_eq_getElem hlt⟩
      have hpn : p < n := hq.2.2.2 p (List.mem_of_getElem? hp)
      have q1 : gA s 28 j = nI p := hq.1.2 j p hp
      have hps := hs p (List.mem_of_getElem? hp)
      rw [if_neg (fun z => by have := (gi_le (by omega) (by omega)).mp z; omega), if_neg (fun z => by have := (gi_le (a := 1040) (by omega) (by omega)).mp z; omega)]
      simp only [gd_gI (gi_in (show j < 1040 by omega) (by omega : 1040 ≤ 100000)), gi_cl (show j ≤ 100000 by omega), q1, gd_gI (gi_in (show p < 1040 by omega) (by omega : 1040 ≤ 100000)), gi_cl (show p ≤ 100000 by omega), (hD1.2.2.2 p hpn).1, w1, nI_1]
      rw [gd_j1]
      refine Or.inl ?_
      by_cases c : sp_k W p = 7
      · rw [if_pos c]
        refine ⟨nI (j + 1), s, n + 1 - (j + 1), by omega, ⟨j + 1, L, by omega, rfl, rfl, hq, hs, h1, fun i y hi hy h7 x hx => ?_, fr⟩, rfl⟩
        by_cases e : i = j
        · subst e
          rw [hp] at hy
          cases hy
          exact absurd c h7
        · exact hc i y (by omega) hy h7 x hx
      · rw [if_neg c]
        obtain ⟨s', L', k1, k2, k3, k4⟩ := gq_nx hD1 hpn hq
        rw [k1, gd_01]
        have hle := k3.length_le
        rw [w1] at k4
        refine ⟨nI (j + 1), s', n + 1 - (j + 1), by omega, ⟨j + 1, L', by omega, rfl, rfl, k2, fun x hx => ?_, fun x hx => (k4 x).mpr (Or.inl (h1 x hx)), fun i y hi hy h7 x hx => ?_, gd_fmT (gd_sbI rfl) fr (K_Taint_addGuessedNexts _ _ _ k1)⟩, rfl⟩
        · rcases (k4 x).mp hx with z | z
          · exact hs x z
          · exact fun P g1 g2 => g2 p x (hps P g1 g2) c z
        · rw [bf_pre k3 (by omega)] at hy
          by_cases e : i = j
          · subst e
            rw [hp] at hy
            cases hy
            exact (k4 x).mpr (Or.inr hx)
          · exact (k4 x).mpr (Or.inl (hc i y (by omega) hy h7 x hx))
  · obtain ⟨p, a, b, c⟩ := (h0 x).mp hx
    exact h1 p x a b c
theorem mg_all {n : Nat} {σ : gS} {W : Nat → Int32} (hW : gA σ 42 = W) (hD : rD n σ) (h8 : gI σ 26 8 = 0) (h27 : ∀ p, p < n → gA σ 27 p = 0) :
    ∃ s, F_Taint_markGuessed σ = some (.inl none, s) ∧ ∀ p, p < n → gA s 27 p = mk (sp_g W n p) False False False := by
  unfold F_Taint_markGuessed
  rw [gd_j1]
  obtain ⟨s, L, k1, k2, k3, k4⟩ := mg_2 (fun (s8 : gS) => gd_lp (fun _ _ => none) (B_Taint_markGuessed_39) gd_N 0 s8) hW hD (⟨⟨h8, fun i x hx => by simp at hx⟩, fun p hp => by rw [h27 p hp, ← mk_0]; exact mk_c ⟨fun z => z.elim, fun z => (by cases z)⟩ Iff.rfl Iff.rfl Iff.rfl, List.nodup_nil, fun x hx => (by cases hx)⟩ : gq n σ [])
  obtain ⟨s', L', l1, l2, l3⟩ := mg_39 ((fm_A k4 rfl).trans hW) (rD_sm hD (fm_sm k4 rfl)) k2 k3
  rw [k1, l1]
  exact ⟨s', rfl, fun p hp => by rw [l2.2.1 p hp]; exact mk_c (l3 p) Iff.rfl Iff.rfl Iff.rfl⟩
theorem tp_all {n : Nat} {σ : gS} {W : Nat → Int32} (hW : gA σ 42 = W) (hD : rD n σ) :
    ∃ s, F_Taint_prepare σ = some (.inl none, s) ∧ gI s 26 8 = 0 ∧ gI s 26 9 = 0 ∧ gI s 26 10 = 0 ∧ (∀ p, p < n → gA s 27 p = 0) ∧ (∀ p, p < n → gA s 30 p = 0) ∧ (∀ q, q < 1088 → (lb (gL s 31) q = true ↔ q < n ∧ sp_hd W q)) ∧ (∀ q, q < 1088 → (lb (gL s 32) q = true ↔ q < n ∧ sp_lk W q)) := by
  have hn := hD.2.1
  unfold F_Taint_prepare
  simp only [gd_s1]
  generalize hρ : gs_rowL (gs_rowL (gs_row (gs_I (gs_I (gs_I σ 26 8 0) 26 9 0) 26 10 0) 27 (f_fill (gA (gs_I (gs_I (gs_I σ 26 8 0) 26 9 0) 26 10 0) 27) 0 1040 0)) 31 (f_fillL (gL (gs_row (gs_I (gs_I (gs_I σ 26 8 0) 26 9 0) 26 10 0) 27 (f_fill (gA (gs_I (gs_I (gs_I σ 26 8 0) 26 9 0) 26 10 0) 27) 0 1040 0)) 31) 0 17 0)) 32 (f_fillL (gL (gs_rowL (gs_row (gs_I (gs_I (gs_I σ 26 8 0) 26 9 0) 26 10 0) 27 (f_fill (gA (gs_I (gs_I (gs_I σ 26 8 0) 26 9 0) 26 10 0) 27) 0 1040 0)) 31 (f_fillL (gL (gs_row (gs_I (gs_I (gs_I σ 26 8 0) 26 9 0) 26 10 0) 27 (f_fill (gA (gs_I (gs_I (gs_I σ 26 8 0) 26 9 0) 26 10 0) 27) 0 1040 0)) 31) 0 17 0)) 32) 0 17 0) = ρ
  have fr : gd_fm W_Taint_prepare σ ρ := by rw [← hρ]; exact gd_fmRL (gd_fmRL (gd_fmR (gd_fmI (gd_fmI (gd_fmI (gd_fm0 _ _) rfl) rfl) rfl) rfl) rfl) rfl
  have z31 : ∀ q, q < 1088 → lb (gL ρ 31) q = false := by
    intro q hq
    rw [← hρ]
    unfold lb
    show bq (if 0 ≤ q / 64 ∧ q / 64 < 17 then 0 else _) _ = _
    rw [if_pos (by omega), bq_0]
  have z32 : ∀ q, q < 1088 → lb (gL ρ 32) q = false := by
    intro q hq
    rw [← hρ]
    unfold lb
    show bq (if 0 ≤ q / 64 ∧ q / 64 < 17 then 0 else _) _ = _
    rw [if_pos (by omega), bq_0]
  have i8 : gI ρ 26 8 = 0 := by rw [← hρ]; rfl
  have i9 : gI ρ 26 9 = 0 := by rw [← hρ]; rfl
  have i10 : gI ρ 26 10 = 0 := by rw [← hρ]; rfl
  have z27 : ∀ p, p < n → gA ρ 27 p = 0 := by
    intro p hp
    rw [← hρ]
    show (if 0 ≤ p ∧ p < 1040 then (0 : Int32) else _) = 0
    rw [if_pos (by omega)]
  obtain ⟨s, k1, k2, k3, k4, k5⟩ := pr_41 ((fm_A fr rfl).trans hW) (rD_sm hD (fm_sm fr rfl)) z31 z32
  refine ⟨s, k1, (fm_I k5 rfl).trans i8, (fm_I k5 rfl).trans i9, (fm_I k5 rfl).trans i10, fun p hp => ?_, k2, k3, k4⟩
  rw [fm_A k5 (p := 27) rfl]
  exact z27 p hp
