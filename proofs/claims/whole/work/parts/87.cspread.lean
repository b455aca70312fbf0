def tm (W : Nat → Int32) (n : Nat) (σ : gS) (L : List Nat) : Prop := qq 26 9 29 σ L ∧ (∀ p, p < n → gA σ 27 p = mk (sp_g W n p) (p ∈ L) False False) ∧ L.Nodup ∧ ∀ x ∈ L, x < n
theorem tm_add {W : Nat → Int32} {n p : Nat} {σ : gS} {L : List Nat} (hn : n ≤ 1040) (hp : p < n) (h : tm W n σ L) (hc : p ∉ L) : ∃ s, F_Taint_addResult (nI p) σ = some (.inl none, s) ∧ tm W n s (L ++ [p]) := by
  unfold F_Taint_addResult
  have hnd := qq_nd h.2.2.1 hc
  have hl2 : L.length + 1 ≤ n := by
    have := bf_len hnd (fun x hx => (qq_m.mp hx).elim (fun z => h.2.2.2 x z) (fun z => (by omega : x < n)))
    rwa [List.length_append, List.length_singleton] at this
  simp only [gd_gI (gi_in (show p < 1040 by omega) (by omega : 1040 ≤ 100000)), gi_cl (show p ≤ 100000 by omega), h.2.1 p hp, gd_s1, gI_A, h.1.1, gd_gI (gi_in (show L.length < 1040 by omega) (by omega : 1040 ≤ 100000)), gi_cl (show L.length ≤ 100000 by omega)]
  refine ⟨_, rfl, qq_push h.1 rfl (fun i => rfl), fun q hq => ?_, hnd, fun x hx => ?_⟩
  · show (if q = p then mk (sp_g W n p) (p ∈ L) False False ||| (2 : Int32) else gA σ 27 q) = _
    by_cases e : q = p
    · rw [if_pos e, mk_o2, e]
      exact mk_c Iff.rfl ⟨fun _ => qq_m.mpr (Or.inr rfl), fun _ => trivial⟩ Iff.rfl Iff.rfl
    · rw [if_neg e, h.2.1 q hq]
      exact mk_c Iff.rfl ⟨fun z => qq_m.mpr (Or.inl z), fun z => (qq_m.mp z).resolve_right e⟩ Iff.rfl Iff.rfl
  · rcases qq_m.mp hx with z | z
    · exact h.2.2.2 x z
    · omega
theorem tm_of {W : Nat → Int32} {n : Nat} {σ s : gS} {L : List Nat} (h : tm W n σ L) (e9 : gI s 26 9 = gI σ 26 9) (e27 : gA s 27 = gA σ 27) (e29 : gA s 29 = gA σ 29) : tm W n s L :=
  ⟨⟨e9.trans h.1.1, fun i x hx => (congrFun e29 i).trans (h.1.2 i x hx)⟩, fun p hp => (congrFun e27 p).trans (h.2.1 p hp), h.2.2⟩
theorem rRC_of {n : Nat} {σ s : gS} (h : rRC n σ) (e22 : gL s 22 = gL σ 22) (e23 : gA s 23 = gA σ 23) (e24 : gA s 24 = gA σ 24) (e42 : gA s 42 = gA σ 42) : rRC n s := by
  unfold rRC csk at h ⊢
  rw [e22, e23, e24, e42]
  exact h
theorem sr_10 {W : Nat → Int32} {n : Nat} {σ : gS} (κ : gS → gR) (hW : gA σ 42 = W) (hD : rD n σ) (h9 : gI σ 26 9 = 0) (h27 : ∀ p, p < n → gA σ 27 p = mk (sp_g W n p) False False False) :
    ∃ s L, gd_lp (fun _ _ => none) (B_Taint_spread_10 κ) gd_N 0 σ = κ s ∧ tm W n s L ∧ (∀ x, x ∈ L ↔ x < n ∧ sp_l W n x) ∧ gd_fm W_Taint_addResult σ s := by
  have hn := hD.2.1
  refine gd_it2 (I := fun m i s => ∃ j L, j ≤ n ∧ m = n - j ∧ i = nI j ∧ tm W n s L ∧ (∀ x, x ∈ L ↔ x < j ∧ sp_l W n x) ∧ gd_fm W_Taint_addResult σ s) (E := fun (r : gR) => ∃ s L, r = κ s ∧ tm W n s L ∧ (∀ x, x ∈ L ↔ x < n ∧ sp_l W n x) ∧ gd_fm W_Taint_addResult σ s) ?_ gd_N n 0 σ ⟨0, [], by omega, rfl, rfl, ⟨⟨h9, fun i x hx => by simp at hx⟩, fun p hp => by rw [h27 p hp]; exact mk_c Iff.rfl ⟨fun z => z.elim, fun z => (by cases z)⟩ Iff.rfl Iff.rfl, List.nodup_nil, fun x hx => (by cases hx)⟩, fun x => ⟨fun z => (by cases z), fun z => absurd z.1 (Nat.not_lt_zero x)⟩, gd_fm0 _ _⟩ (gd_Nlt (by omega))
  rintro m i s ag ⟨j, L, hj, rfl, rfl, hq, hm, fr⟩
  have w1 : gA s 42 = W := (fm_A fr rfl).trans hW
  have hD1 : rD n s := rD_sm hD (fm_sm fr rfl)
  unfold B_Taint_spread_10
  rw [hD1.1]
  by_cases hjn : j = n
  · subst hjn
    rw [if_pos ((gi_le (by omega) (by omega)).mpr (Nat.le_refl _))]
    exact Or.inr ⟨s, L, rfl, hq, hm, fr⟩
  · have hjn' : j < n := by omega
    have tr : (if mk (sp_g W n j) (j ∈ L) False False &&& (1 : Int32) = 0 then (0 : Int32) else 1) = sp_o (sp_g W n j) := by
      by_cases c : sp_g W n j
      · rw [if_neg (fun z => mk_1.mp z c), sp_ot c]
      · rw [if_pos (mk_1.mpr c), sp_of c]
    rw [if_neg (fun z => by have := (gi_le (by omega) (by omega)).mp z; omega)]
    simp only [gd_gI (gi_in (show j < 1040 by omega) (by omega : 1040 ≤ 100000)), gi_cl (show j ≤ 100000 by omega), (hD1.2.2.2 j hjn').1, (hD1.2.2.2 j hjn').2.2.1, w1, nI_1, hq.2.1 j hjn', tr, gd_t1]
    rw [gd_j1]
    refine Or.inl ?_
    have skip : ¬ sp_l W n j → ∃ a' b' m', m' < n - j ∧ (∃ j L, j ≤ n ∧ m' = n - j ∧ a' = nI j ∧ tm W n b' L ∧ (∀ x, x ∈ L ↔ x < j ∧ sp_l W n x) ∧ gd_fm W_Taint_addResult σ b') ∧ ag (nI (j + 1)) s = ag a' b' := by
      intro hc
      refine ⟨nI (j + 1), s, n - (j + 1), by omega, ⟨j + 1, L, by omega, rfl, rfl, hq, fun x => ?_, fr⟩, rfl⟩
      rw [hm]
      constructor
      · rintro ⟨a, b⟩; exact ⟨by omega, b⟩
      · rintro ⟨a, b⟩
        by_cases e : x = j
        · subst e; exact absurd b hc
        · exact ⟨by omega, b⟩
    by_cases c1 : sp_g W n j
    · rw [sp_ot c1, if_neg (show ¬ (1 : Int32) = 0 by decide)]
      by_cases c2 : sp_k W j = 3
      · rw [if_pos c2]
        by_cases c3 : sp_r W j = 0
        · rw [if_pos c3]; exact skip (fun z => z.2.2 c3)
        · rw [if_neg c3]
          obtain ⟨s', k1, k2⟩ := tm_add hn hjn' hq (fun z => by have := ((hm j).mp z).1; omega)
          rw [k1, gd_01]
          refine ⟨nI (j + 1), s', n - (j + 1), by omega, ⟨j + 1, L ++ [j], by omega, rfl, rfl, k2, fun x => ?_, gd_fmT (gd_sbI rfl) fr (K_Taint_addResult _ _ _ k1)⟩, rfl⟩
          rw [qq_m, hm]
          constructor
          · rintro (⟨a, b⟩ | rfl)
            · exact ⟨by omega, b⟩
            · exact ⟨by omega, c2, c1, c3⟩
          · rintro ⟨a, b⟩
            by_cases e : x = j
            · exact Or.inr e
            · exact Or.inl ⟨by omega, b⟩
      · rw [if_neg c2]; exact skip (fun z => c2 z.1)
    · rw [sp_of c1, if_pos (rfl : (0 : Int32) = 0)]; exact skip (fun z => c1 z.2.1)
def uq (W : Nat → Int32) (n : Nat) (σ : gS) (L : List Nat) : Prop := tm W n σ L ∧ ∀ q, q < 1088 → (lb (gL σ 31) q = true ↔ q < n ∧ sp_hd W q ∧ q ∉ L)
theorem po_22 {W : Nat → Int32} {n v r : Nat} {σ : gS} {L0 : List Nat} (hD : rD n σ) (hv : v < n) (hr : ∀ q, q < n → (lbt (gL σ 22) v q = true ↔ sp_c W n v q)) (h : uq W n σ L0) (r0 : r ≤ n) (r1 : ∀ q, q < r → ¬ (lbt (gL σ 22) v q = true ∧ lb (gL σ 31) q = true)) (r2 : r < n → lbt (gL σ 22) v r = true ∧ lb (gL σ 31) r = true) :
    ∃ s L, gd_lp (fun _ _ => none) (B_Taint_passOn_22 (nI v)) gd_N (nI r) σ = some (.inl none, s) ∧ uq W n s L ∧ L0 <+: L ∧ (∀ x, x ∈ L ↔ x ∈ L0 ∨ sp_h W n v x) ∧ gd_fm ([(26, 9)], [27, 29], [31]) σ s := by
  have hn := hD.2.1
  refine gd_it2 (I := fun m i s => ∃ j L, j ≤ n ∧ m = n - j ∧ i = nI j ∧ uq W n s L ∧ L0 <+: L ∧ (∀ x ∈ L, x ∈ L0 ∨ sp_h W n v x) ∧ (∀ x, x < j → sp_h W n v x → x ∈ L) ∧ (j < n → sp_c W n v j ∧ sp_hd W j ∧ j ∉ L) ∧ gd_fm ([(26, 9)], [27, 29], [31]) σ s) (E := fun (r : gR) => ∃ s L, r = some (.inl none, s) ∧ uq W n s L ∧ L0 <+: L ∧ (∀ x, x ∈ L ↔ x ∈ L0 ∨ sp_h W n v x) ∧ gd_fm ([(26, 9)], [27, 29], [31]) σ s) ?_ gd_N (n - r) (nI r) σ ⟨r, L0, r0, rfl, rfl, h, List.prefix_refl _, fun x hx => Or.inl hx, fun x hx hh => ?_, fun hrn => ⟨(hr r hrn).mp (r2 hrn).1, ((h.2 r (by omega)).mp (r2 hrn).2).2⟩, gd_fm0 _ _⟩ (gd_Nlt (by omega))
  · rintro m i s ag ⟨j, L, hj, rfl, rfl, hq, hpre, hm, hc, hj2, fr⟩
    have hD1 : rD n s := rD_sm hD (fm_sm fr rfl)
    have e22 : gL s 22 = gL σ 22 := fm_L fr rfl
    unfold B_Taint_passOn_22
    rw [hD1.1]
    by_cases hjn : j = n
    · subst hjn
      rw [if_pos ((gi_le (by omega) (by omega)).mpr (Nat.le_refl _))]
      exact Or.inr ⟨s, L, rfl, hq, hpre, fun x => ⟨hm x, fun z => z.elim (fun y => hpre.subset y) (fun y => hc x (sp_sl y.1.2.1) y)⟩, fr⟩
    · have hjn' : j < n := by omega
      obtain ⟨jc, jh, jl⟩ := hj2 hjn'
      rw [if_neg (fun z => by have := (gi_le (by omega) (by omega)).mp z; omega)]
      simp only [l6 (show j ≤ 100000 by omega), l63 (show j ≤ 100000 by omega), gd_gI (gi_in (show j / 64 < 17 by omega) (by omega : 17 ≤ 100000)), gi_cl (show j / 64 ≤ 100000 by omega), nI_1, gd_s1]
      generalize hρ : gs_L s 31 (j / 64) (gL s 31 (j / 64) &&& (((1 : Int64) <<< (Int32.toInt64 (nI (j % 64)) &&& 63)) ^^^ (-1 : Int64))) = ρ
      have fρ : gd_fm ([(26, 9)], [27, 29], [31]) σ ρ := by rw [← hρ]; exact gd_fmL fr rfl
      have tρ : tm W n ρ L := by rw [← hρ]; exact tm_of hq.1 rfl rfl rfl
      have bρ : ∀ q, q < 1088 → lb (gL ρ 31) q = if q = j then false else lb (gL s 31) q := by
        intro q hq
        rw [← hρ]
        exact l1_cl (f := gL s 31) (by omega) hq
      obtain ⟨s2, k1, k2⟩ := tm_add hn hjn' tρ jl
      have f2 := K_Taint_addResult _ _ _ k1
      have fr2 : gd_fm ([(26, 9)], [27, 29], [31]) σ s2 := gd_fmT (gd_sbI rfl) fρ f2
      have b2 : ∀ q, q < 1088 → (lb (gL s2 31) q = true ↔ q < n ∧ sp_hd W q ∧ q ∉ L ++ [j]) := by
        intro q hq'
        rw [fm_L f2 (p := 31) rfl, bρ q hq']
        by_cases e : q = j
        · rw [if_pos e]
          exact ⟨fun z => (by cases z), fun z => absurd (qq_m.mpr (Or.inr e)) z.2.2⟩
        · rw [if_neg e, hq.2 q hq']
          exact ⟨fun z => ⟨z.1, z.2.1, fun y => (qq_m.mp y).elim z.2.2 e⟩, fun z => ⟨z.1, z.2.1, fun y => z.2.2 (qq_m.mpr (Or.inl y))⟩⟩
      have hD2 : rD n s2 := rD_sm hD (fm_sm fr2 rfl)
      have e222 : gL s2 22 = gL σ 22 := fm_L fr2 rfl
      obtain ⟨r', g1, g2, g3, g4, g5⟩ := na_31 (v := v) (l := j + 1) hD2.1 hn (by omega) (fun q hq' hb => ((b2 q hq').mp hb).1) (by omega)
      rw [k1, gd_01, g1, gd_qi1]
      refine Or.inl ⟨nI r', s2, n - r', by omega, ⟨r', L ++ [j], g3, rfl, rfl, ⟨k2, b2⟩, List.IsPrefix.trans hpre (List.prefix_append L [j]), fun x hx => ?_, fun x hx hh => ?_, fun hrn => ?_, fr2⟩, rfl⟩
      · rcases qq_m.mp hx with z | z
        · exact hm x z
        · subst z; exact Or.inr ⟨jc, jh⟩
      · by_cases e : x ≤ j
        · by_cases e2 : x = j
          · exact qq_m.mpr (Or.inr e2)
          · exact qq_m.mpr (Or.inl (hc x (by omega) hh))
        · refine Classical.byContradiction fun z => g4 x (by omega) hx ⟨?_, (b2 x (by omega)).mpr ⟨by omega, hh.2, z⟩⟩
          rw [e222]; exact (hr x (by omega)).mpr hh.1
      · obtain ⟨y1, y2⟩ := g5 hrn
        rw [e222] at y1
        exact ⟨(hr r' hrn).mp y1, ((b2 r' (by omega)).mp y2).2⟩
  · refine Classical.byContradiction fun z => r1 x hx ⟨(hr x (by omega)).mpr hh.1, (h.2 x (by omega)).mpr ⟨by omega, hh.2, z⟩⟩
theorem po_all {W : Nat → Int32} {n v : Nat} {σ : gS} {L0 : List Nat} (hW : gA σ 42 = W) (hD : rD n σ) (hC : rRC n σ) (hv : v < n) (h : uq W n σ L0) :
    ∃ s L, F_Taint_passOn (nI v) σ = some (.inl none, s) ∧ uq W n s L ∧ L0 <+: L ∧ (∀ x, x ∈ L ↔ x ∈ L0 ∨ sp_h W n v x) ∧ rRC n s ∧ ¬ gA s 23 v = 0 ∧ ∀ p, ¬ gA σ 23 p = 0 → ¬ gA s 23 p = 0 := by
  have hn := hD.2.1
  unfold F_Taint_passOn
  obtain ⟨s1, t1, t2, t3, t4⟩ := tr_all hD hC hv
  have f1 := K_Reach_trace _ _ _ t1
  have hD1 : rD n s1 := rD_sm hD (fm_sm f1 rfl)
  have w1 : gA s1 42 = W := (fm_A f1 rfl).trans hW
  have u1 : uq W n s1 L0 := ⟨tm_of h.1 (fm_I f1 rfl) (fm_A f1 rfl) (fm_A f1 rfl), by rw [fm_L f1 (p := 31) rfl]; exact h.2⟩
  obtain ⟨r, g1, g2, g3, g4, g5⟩ := na_31 (v := v) (l := 0) hD1.1 hn (by omega) (fun q hq hb => ((u1.2 q hq).mp hb).1) (by omega)
  have hr : ∀ q, q < n → (lbt (gL s1 22) v q = true ↔ sp_c W n v q) := fun q hq => by rw [← w1]; exact t2.1 v hv t3 q hq
  obtain ⟨s, L, k1, k2, k3, k4, k5⟩ := po_22 hD1 hv hr u1 g3 (fun q hq => g4 q (Nat.zero_le q) hq) g5
  rw [t1, gd_01, show (0 : Int32) = nI 0 from rfl, g1, gd_qi1, k1]
  have e23 : gA s 23 = gA s1 23 := fm_A k5 rfl
  refine ⟨s, L, rfl, k2, k3, k4, rRC_of t2 (fm_L k5 rfl) e23 (fm_A k5 rfl) (fm_A k5 rfl), by rw [e23]; exact t3, fun p hp => by rw [e23]; exact t4 p hp⟩
theorem sr_80 {W : Nat → Int32} {n : Nat} {σ : gS} {L0 : List Nat} (κ : gS → gR) (hW : gA σ 42 = W) (hD : rD n σ) (hC : rRC n σ) (h : uq W n σ L0) (hl : ∀ x, x ∈ L0 ↔ x < n ∧ sp_l W n x) :
    ∃ s L, gd_lp (fun _ _ => none) (B_Taint_spread_80 κ) gd_N 0 σ = κ s ∧ tm W n s L ∧ (∀ x, x ∈ L ↔ sp_T W n x) ∧ rRC n s ∧ (∀ x ∈ L, ¬ gA s 23 x = 0) ∧ gd_fm W_Taint_passOn σ s := by
  have hn := hD.2.1
  refine gd_it2 (I := fun m i s => ∃ j L, j ≤ L.length ∧ m = n + 1 - j ∧ i = nI j ∧ uq W n s L ∧ (∀ x ∈ L, sp_T W n x) ∧ (∀ x ∈ L0, x ∈ L) ∧ (∀ (i v : Nat), i < j → L[i]? = some v → (¬ gA s 23 v = 0) ∧ ∀ u, sp_h W n v u → u ∈ L) ∧ rRC n s ∧ gd_fm W_Taint_passOn σ s) (E := fun (r : gR) => ∃ s L, r = κ s ∧ tm W n s L ∧ (∀ x, x ∈ L ↔ sp_T W n x) ∧ rRC n s ∧ (∀ x ∈ L, ¬ gA s 23 x = 0) ∧ gd_fm W_Taint_passOn σ s) ?_ gd_N (n + 1) 0 σ ⟨0, L0, Nat.zero_le _, rfl, rfl, h, fun x hx P h1 h2 => h1 x ((hl x).mp hx).1 ((hl x).mp hx).2.1 ((hl x).mp hx).2.2.1 ((hl x).mp hx).2.2.2, fun x hx => hx, fun i v hi => absurd hi (Nat.not_lt_zero i), hC, gd_fm0 _ _⟩ (gd_Nlt (by omega))
  rintro m i s ag ⟨j, L, hj, rfl, rfl, hq, hs, h0, hc, hR, fr⟩
  have w1 : gA s 42 = W := (fm_A fr rfl).trans hW
  have hD1 : rD n s := rD_sm hD (fm_sm fr rfl)
  have hlen : L.length ≤ n := bf_len hq.1.2.2.1 hq.1.2.2.2
  unfold B_Taint_spread_80
  rw [hq.1.1.1]
  by_cases hjl : j = L.length
  · rw [if_pos ((gi_le (by omega) (by omega)).mpr (by omega))]
    refine Or.inr ⟨s, L, rfl, hq.1, fun x => ⟨hs x, fun hx => ?_⟩, hR, fun x hx => ?_, fr⟩
    · refine hx (fun x => x ∈ L) (fun p hp h1 h2 h3 => h0 p ((hl p).mpr ⟨hp, h1, h2, h3⟩)) (fun v u hv hc1 hk hr => ?_)
      obtain ⟨i, hi⟩ := List.mem_iff_getElem?.mp hv
      have := (List.getElem?_eq_some_iff.mp hi).1
      exact (hc i v (by omega) hi).2 u ⟨hc1, hk, hr⟩
    · obtain ⟨i, hi⟩ := List.mem_iff_getElem?.mp hx
      have := (List.getElem?_eq_some_iff.mp hi).1
      exact (hc i x (by omega) hi).1
  · have hlt : j < L.length := by omega
    obtain ⟨v, hv⟩ : ∃ v, L[j]? = some v := ⟨L[j], List.getElem?_eq_getElem hlt⟩
    have hvn : v < n := hq.1.2.2.2 v (List.mem_of_getElem? hv)
    have q1 : gA s 29 j = nI v := hq.1.1.2 j v hv
    rw [if_neg (fun z => by have := (gi_le (by omega) (by omega)).mp z; omega), if_neg (fun z => by have := (gi_le (a := 1040) (by omega) (by omega)).mp z; omega)]
    obtain ⟨s', L', k1, k2, k3, k4, k5, k6, k7⟩ := po_all w1 hD1 hR hvn hq
    rw [gd_gI (gi_in (show j < 1040 by omega) (by omega : 1040 ≤ 100000)), gi_cl (show j ≤ 100000 by omega), q1, k1, gd_01, nI_1]
    have hle := k3.length_le
    refine Or.inl ⟨nI (j + 1), s', n + 1 - (j + 1), by omega, ⟨j + 1, L', by omega, rfl, rfl, k2, fun x hx => ?_, fun x hx => (k4 x).mpr (Or.inl (h0 x hx)), fun i w hi hw => ?_, k5, gd_fmT (gd_sbI rfl) fr (K_Taint_passOn _ _ _ k1)⟩, rfl⟩
    · rcases (k4 x).mp hx with z | z
      · exact hs x z
      · exact fun P h1 h2 => h2 v x (hs v (List.mem_of_getElem? hv) P h1 h2) z.1 z.2.1 z.2.2
    · rw [bf_pre k3 (by omega)] at hw
      by_cases e : i = j
      · subst e
        rw [hv] at hw
        cases hw
        exact ⟨k6, fun u hu => (k4 u).mpr (Or.inr hu)⟩
      · exact ⟨k7 w (hc i w (by omega) hw).1, fun u hu => (k4 u).mpr (Or.inl ((hc i w (by omega) hw).2 u hu))⟩
