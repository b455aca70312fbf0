def qq (c1 c2 Q : Nat) (σ : gS) (L : List Nat) : Prop := gI σ c1 c2 = nI L.length ∧ ∀ i x, L[i]? = some x → gA σ Q i = nI x
theorem qq_push {c1 c2 Q u : Nat} {σ s : gS} {L : List Nat} (h : qq c1 c2 Q σ L) (hI : gI s c1 c2 = nI L.length + 1) (hA : ∀ i, gA s Q i = if i = L.length then nI u else gA σ Q i) : qq c1 c2 Q s (L ++ [u]) := by
  refine ⟨?_, fun i x hx => ?_⟩
  · rw [hI, nI_1, List.length_append, List.length_singleton]
  · rw [hA]
    by_cases hi : i < L.length
    · rw [List.getElem?_append_left hi] at hx
      rw [if_neg (by omega)]
      exact h.2 i x hx
    · rw [List.getElem?_append_right (by omega)] at hx
      have hi2 : i = L.length := by
        have := (List.getElem?_eq_some_iff.mp hx).1
        simp at this
        omega
      subst hi2
      have : u = x := by simpa using hx
      rw [if_pos rfl, this]
theorem qq_nd {L : List Nat} {u : Nat} (h : L.Nodup) (hu : u ∉ L) : (L ++ [u]).Nodup := by
  rw [List.nodup_append]
  refine ⟨h, by simp, fun a ha b hb => ?_⟩
  simp at hb
  subst hb
  exact fun z => hu (z ▸ ha)
theorem qq_m {L : List Nat} {u x : Nat} : x ∈ L ++ [u] ↔ x ∈ L ∨ x = u := by simp
def tq (j : Nat) (σ : gS) (L : List Nat) : Prop := qq 41 37 62 σ L ∧ (∀ p, p < j → gA σ 53 p = if p ∈ L then 1 else 0) ∧ L.Nodup ∧ ∀ x ∈ L, x < j
def sp_l (W : Nat → Int32) (n p : Nat) : Prop := sp_k W p = 3 ∧ sp_g W n p ∧ ¬ sp_r W p = 0
def sp_h (W : Nat → Int32) (n v u : Nat) : Prop := sp_c W n v u ∧ (sp_k W u = 0 ∨ sp_k W u = 1) ∧ ¬ sp_r W u = 0
theorem sp_k2 {W : Nat → Int32} {p : Nat} (hk : ∃ k, k ≤ 8 ∧ sp_k W p = nI k) : 2 ≤ sp_k W p ↔ ¬ (sp_k W p = 0 ∨ sp_k W p = 1) := by
  obtain ⟨k, hk, e⟩ := hk
  rw [e]
  exact (by decide : ∀ k, k ≤ 8 → ((2 : Int32) ≤ nI k ↔ ¬ (nI k = 0 ∨ nI k = 1))) k hk
theorem sp_r0 (W : Nat → Int32) (p : Nat) : (if sp_r W p = 0 then -1 else sp_r W p) ≤ 0 ↔ sp_r W p = 0 := by
  obtain ⟨k, hk, e⟩ := sp_rl W p
  rw [e]
  exact (by decide : ∀ k, k ≤ 31 → ((if nI k = 0 then (-1 : Int32) else nI k) ≤ 0 ↔ nI k = 0)) k hk
theorem ti_7 {W : Nat → Int32} {n : Nat} {σ : gS} (κ : gS → gR) (hW : gA σ 42 = W) (hn : n ≤ 1040) (h2 : gI σ 41 2 = nI n) (h37 : gI σ 41 37 = 0) (h52 : ∀ p, p < n → gA σ 52 p = nI (sp_i (sp_g W n p))) :
    ∃ s L, gd_lp (fun _ _ => none) (B_M_findTaint_7 κ) gd_N 0 σ = κ s ∧ tq n s L ∧ (∀ x, x ∈ L ↔ x < n ∧ sp_l W n x) ∧ gd_fm W_M_findTaint σ s := by
  refine gd_it2 (I := fun m i s => ∃ j L, j ≤ n ∧ m = n - j ∧ i = nI j ∧ tq j s L ∧ (∀ x, x ∈ L ↔ x < j ∧ sp_l W n x) ∧ gd_fm W_M_findTaint σ s) (E := fun (r : gR) => ∃ s L, r = κ s ∧ tq n s L ∧ (∀ x, x ∈ L ↔ x < n ∧ sp_l W n x) ∧ gd_fm W_M_findTaint σ s) ?_ gd_N n 0 σ ⟨0, [], by omega, rfl, rfl, ⟨⟨h37, fun i x hx => by simp at hx⟩, fun p hp => absurd hp (Nat.not_lt_zero p), List.nodup_nil, fun x hx => (by cases hx)⟩, fun x => ⟨fun hx => (by cases hx), fun hx => absurd hx.1 (Nat.not_lt_zero x)⟩, gd_fm0 _ _⟩ (gd_Nlt (by omega))
  rintro m i s ag ⟨j, L, hj, rfl, rfl, hq, hm, fr⟩
  have w1 : gA s 42 = W := (fm_A fr rfl).trans hW
  have s1 : gI s 41 2 = nI n := (fm_I fr rfl).trans h2
  have g1 : gA s 52 = gA σ 52 := fm_A fr rfl
  have hlen : L.length ≤ j := bf_len hq.2.2.1 hq.2.2.2
  unfold B_M_findTaint_7
  rw [s1]
  by_cases hjn : j = n
  · subst hjn
    rw [if_pos ((gi_le (by omega) (by omega)).mpr (Nat.le_refl _))]
    exact Or.inr ⟨s, L, rfl, hq, hm, fr⟩
  · rw [if_neg (fun z => by have := (gi_le (by omega) (by omega)).mp z; omega), br_kindN (by omega), gd_qi1, br_result (by omega), w1]
    simp only [gd_gI (gi_in (show j < 1040 by omega) (by omega : 1040 ≤ 100000)), gi_cl (show j ≤ 100000 by omega), show gA s 52 j = nI (sp_i (sp_g W n j)) from (congrFun g1 j).trans (h52 j (by omega)), gd_qi1]
    refine Or.inl ?_
    have tree : ∀ J7 : Int32 → gR, (if sp_k W j = 3 then (if nI (sp_i (sp_g W n j)) = 0 then J7 0 else if (if sp_r W j = 0 then -1 else sp_r W j) ≤ 0 then J7 0 else J7 1) else J7 0) = J7 (nI (sp_i (sp_l W n j))) := by
      intro J7
      by_cases c : sp_l W n j
      · rw [sp_it c, if_pos c.1, sp_it c.2.1, if_neg (show ¬ nI 1 = 0 by decide), if_neg (fun z => c.2.2 ((sp_r0 W j).mp z))]; rfl
      · rw [sp_if c]
        by_cases c1 : sp_k W j = 3
        · rw [if_pos c1]
          by_cases c2 : sp_g W n j
          · rw [sp_it c2, if_neg (show ¬ nI 1 = 0 by decide), if_pos ((sp_r0 W j).mpr (Classical.byContradiction fun z => c ⟨c1, c2, z⟩))]; rfl
          · rw [sp_if c2, if_pos (show nI 0 = 0 from rfl)]; rfl
        · rw [if_neg c1]; rfl
    have tree2 : ∀ J : Int32 → gR, gd_j (α := Int32 → gR) J (fun J7 => if sp_k W j = 3 then (if nI (sp_i (sp_g W n j)) = 0 then J7 0 else if (if sp_r W j = 0 then -1 else sp_r W j) ≤ 0 then J7 0 else J7 1) else J7 0) = J (nI (sp_i (sp_l W n j))) := fun J => tree J
    rw [tree2]
    by_cases c : sp_l W n j
    · rw [sp_it c]
      simp only [gd_s1, gd_j1, gA_A, if_pos]
      rw [if_neg (show ¬ vp_nar .boolean (nI 1) = 0 by decide)]
      simp only [gI_A, hq.1.1, gd_gI (gi_in (show L.length < 2081 by omega) (by omega : 2081 ≤ 100000)), gi_cl (show L.length ≤ 100000 by omega)]
      have hju : j ∉ L := fun z => by have := hq.2.2.2 j z; omega
      refine ⟨nI (j + 1), _, n - (j + 1), by omega, ⟨j + 1, L ++ [j], by omega, rfl, rfl, ⟨qq_push hq.1 rfl (fun i => rfl), fun p hp => ?_, qq_nd hq.2.2.1 hju, fun x hx => ?_⟩, fun x => ?_, gd_fmI (gd_fmA (gd_fmA fr rfl) rfl) rfl⟩, by rw [nI_1] <;> rfl⟩
      · show (if p = j then vp_nar .boolean (nI 1) else gA s 53 p) = _
        by_cases e : p = j
        · subst e; rw [if_pos rfl, if_pos (qq_m.mpr (Or.inr rfl))]; rfl
        · rw [if_neg e, hq.2.1 p (by omega)]
          by_cases z : p ∈ L
          · rw [if_pos z, if_pos (qq_m.mpr (Or.inl z))]
          · rw [if_neg z, if_neg (fun y => (qq_m.mp y).elim z e)]
      · rcases qq_m.mp hx with z | z
        · have := hq.2.2.2 x z; omega
        · omega
      · rw [qq_m, hm]
        constructor
        · rintro (⟨a, b⟩ | rfl)
          · exact ⟨by omega, b⟩
          · exact ⟨by omega, c⟩
        · rintro ⟨a, b⟩
          by_cases e : x = j
          · exact Or.inr e
          · exact Or.inl ⟨by omega, b⟩
    · rw [sp_if c]
      simp only [gd_s1, gd_j1, gA_A, if_pos]
      rw [if_pos (show vp_nar .boolean (nI 0) = 0 by decide)]
      refine ⟨nI (j + 1), gs_A s 53 j (vp_nar .boolean (nI 0)), n - (j + 1), by omega, ⟨j + 1, L, by omega, rfl, rfl, ⟨⟨hq.1.1, hq.1.2⟩, fun p hp => ?_, hq.2.2.1, fun x hx => ?_⟩, fun x => ?_, gd_fmA fr rfl⟩, by rw [nI_1] <;> rfl⟩
      · show (if p = j then vp_nar .boolean (nI 0) else gA s 53 p) = _
        by_cases e : p = j
        · subst e; rw [if_pos rfl, if_neg (fun z => by have := hq.2.2.2 p z; omega)]; rfl
        · rw [if_neg e, hq.2.1 p (by omega)]
      · have := hq.2.2.2 x hx; omega
      · rw [hm]
        constructor
        · rintro ⟨a, b⟩; exact ⟨by omega, b⟩
        · rintro ⟨a, b⟩
          by_cases e : x = j
          · subst e; exact absurd b c
          · exact ⟨by omega, b⟩
theorem ti_99 {W : Nat → Int32} {n h v : Nat} {σ : gS} {L0 : List Nat} (κ : gS → gR) (hW : gA σ 42 = W) (hok : sp_ok W n) (hn : n ≤ 1040) (h2 : gI σ 41 2 = nI n) (h57 : ∀ v, v < n → ∀ q, q < n → (rbt (gA σ 57) v q = true ↔ sp_c W n v q)) (hq : tq n σ L0) (hv : L0[h]? = some v) :
    ∃ s L, gd_lp (fun _ _ => none) (B_M_findTaint_99 κ (nI h)) gd_N 0 σ = κ s ∧ tq n s L ∧ L0 <+: L ∧ (∀ x, x ∈ L ↔ x ∈ L0 ∨ x < n ∧ sp_h W n v x) ∧ gd_fm W_M_findTaint σ s := by
  have hvn : v < n := hq.2.2.2 v (List.mem_of_getElem? hv)
  have hh : h < n := by
    have h1 := (List.getElem?_eq_some_iff.mp hv).1
    have h2 := bf_len hq.2.2.1 hq.2.2.2
    omega
  refine gd_it2 (I := fun m i s => ∃ j L, j ≤ n ∧ m = n - j ∧ i = nI j ∧ tq n s L ∧ L0 <+: L ∧ (∀ x, x ∈ L ↔ x ∈ L0 ∨ x < j ∧ sp_h W n v x) ∧ gd_fm W_M_findTaint σ s) (E := fun (r : gR) => ∃ s L, r = κ s ∧ tq n s L ∧ L0 <+: L ∧ (∀ x, x ∈ L ↔ x ∈ L0 ∨ x < n ∧ sp_h W n v x) ∧ gd_fm W_M_findTaint σ s) ?_ gd_N n 0 σ ⟨0, L0, by omega, rfl, rfl, hq, List.prefix_refl _, fun x => ⟨Or.inl, fun z => z.elim id (fun y => absurd y.1 (Nat.not_lt_zero x))⟩, gd_fm0 _ _⟩ (gd_Nlt (by omega))
  rintro m i s ag ⟨j, L, hj, rfl, rfl, hq, hpre, hm, fr⟩
  have w1 : gA s 42 = W := (fm_A fr rfl).trans hW
  have s1 : gI s 41 2 = nI n := (fm_I fr rfl).trans h2
  have g1 : gA s 57 = gA σ 57 := fm_A fr rfl
  have hlen : L.length ≤ n := bf_len hq.2.2.1 hq.2.2.2
  have hv2 : L[h]? = some v := by rw [bf_pre hpre (List.getElem?_eq_some_iff.mp hv).1]; exact hv
  have qv : gA s 62 h = nI v := hq.1.2 h v hv2
  unfold B_M_findTaint_99
  rw [s1]
  by_cases hjn : j = n
  · subst hjn
    rw [if_pos ((gi_le (by omega) (by omega)).mpr (Nat.le_refl _))]
    exact Or.inr ⟨s, L, rfl, hq, hpre, hm, fr⟩
  · rw [if_neg (fun z => by have := (gi_le (by omega) (by omega)).mp z; omega), br_kindN (by omega), gd_qi1, br_result (by omega), gd_j1, w1]
    simp only [gd_gI (gi_in (show j < 1040 by omega) (by omega : 1040 ≤ 100000)), gi_cl (show j ≤ 100000 by omega), gd_gI (gi_in (show h < 2081 by omega) (by omega : 2081 ≤ 100000)), gi_cl (show h ≤ 100000 by omega), qv, hs_57 (show v < 1040 by omega) (show j < 1040 by omega), gd_qi1, g1]
    refine Or.inl ?_
    have skip : (sp_h W n v j → j ∈ L) → ∃ a' b' m', m' < n - j ∧ (∃ j L, j ≤ n ∧ m' = n - j ∧ a' = nI j ∧ tq n b' L ∧ L0 <+: L ∧ (∀ x, x ∈ L ↔ x ∈ L0 ∨ x < j ∧ sp_h W n v x) ∧ gd_fm W_M_findTaint σ b') ∧ ag (nI j + 1) s = ag a' b' := by
      intro hc
      refine ⟨nI (j + 1), s, n - (j + 1), by omega, ⟨j + 1, L, by omega, rfl, rfl, hq, hpre, fun x => ?_, fr⟩, by rw [nI_1]⟩
      constructor
      · intro z
        rcases (hm x).mp z with a | ⟨a, b⟩
        · exact Or.inl a
        · exact Or.inr ⟨by omega, b⟩
      · rintro (a | ⟨a, b⟩)
        · exact (hm x).mpr (Or.inl a)
        · by_cases e : x = j
          · subst e; exact hc b
          · exact (hm x).mpr (Or.inr ⟨by omega, b⟩)
    by_cases c1 : sp_k W j = 0 ∨ sp_k W j = 1
    · rw [if_neg (fun z => (sp_k2 (sp_okk hok (by omega))).mp z c1)]
      by_cases c2 : sp_r W j = 0
      · rw [if_pos ((sp_r0 W j).mpr c2)]
        exact skip (fun z => absurd c2 z.2.2)
      · rw [if_neg (fun z => c2 ((sp_r0 W j).mp z)), hq.2.1 j (by omega)]
        by_cases c3 : j ∈ L
        · rw [if_pos c3, if_neg (show ¬ (1 : Int32) = 0 by decide)]
          exact skip (fun _ => c3)
        · rw [if_neg c3, if_pos (rfl : (0 : Int32) = 0)]
          by_cases c4 : sp_c W n v j
          · rw [if_pos ((h57 v hvn j (by omega)).mpr c4), if_neg (show ¬ (1 : Int32) = 0 by decide)]
            have hl2 : L.length + 1 ≤ n := by
              have := bf_len (qq_nd hq.2.2.1 c3) (fun x hx => (qq_m.mp hx).elim (hq.2.2.2 x) (fun z => (by omega : x < n)))
              rwa [List.length_append, List.length_singleton] at this
            simp only [gd_s1, gI_A, hq.1.1, gd_gI (gi_in (show L.length < 2081 by omega) (by omega : 2081 ≤ 100000)), gi_cl (show L.length ≤ 100000 by omega)]
            refine ⟨nI (j + 1), _, n - (j + 1), by omega, ⟨j + 1, L ++ [j], by omega, rfl, rfl, ⟨qq_push hq.1 rfl (fun i => rfl), fun p hp => ?_, qq_nd hq.2.2.1 c3, fun x hx => ?_⟩, List.IsPrefix.trans hpre (List.prefix_append L [j]), fun x => ?_, gd_fmI (gd_fmA (gd_fmA fr rfl) rfl) rfl⟩, by rw [nI_1] <;> rfl⟩
            · show (if p = j then vp_nar .boolean 1 else gA s 53 p) = _
              by_cases e : p = j
              · subst e; rw [if_pos rfl, if_pos (qq_m.mpr (Or.inr rfl))]; rfl
              · rw [if_neg e, hq.2.1 p (by omega)]
                by_cases z : p ∈ L
                · rw [if_pos z, if_pos (qq_m.mpr (Or.inl z))]
                · rw [if_neg z, if_neg (fun y => (qq_m.mp y).elim z e)]
            · rcases qq_m.mp hx with z | z
              · exact hq.2.2.2 x z
              · omega
            · rw [qq_m, hm]
              constructor
              · rintro ((a | ⟨a, b⟩) | rfl)
                · exact Or.inl a
                · exact Or.inr ⟨by omega, b⟩
                · exact Or.inr ⟨by omega, c4, c1, c2⟩
              · rintro (a | ⟨a, b⟩)
                · exact Or.inl (Or.inl a)
                · by_cases e : x = j
                  · exact Or.inr e
                  · exact Or.inl (Or.inr ⟨by omega, b⟩)
          · rw [if_neg (fun z => c4 ((h57 v hvn j (by omega)).mp z)), if_pos (rfl : (0 : Int32) = 0)]
            exact skip (fun z => absurd z.1 c4)
    · rw [if_pos ((sp_k2 (sp_okk hok (by omega))).mpr c1)]
      exact skip (fun z => absurd z.2.1 c1)
theorem sp_Tl {W : Nat → Int32} {n u : Nat} (h : sp_T W n u) : u < n := h (fun u => u < n) (fun p hp _ _ _ => hp) (fun v u _ hc _ _ => sp_sl hc.2.1)
theorem ti_89 {W : Nat → Int32} {n : Nat} {σ : gS} {L0 : List Nat} (hW : gA σ 42 = W) (hok : sp_ok W n) (hn : n ≤ 1040) (h2 : gI σ 41 2 = nI n) (h57 : ∀ v, v < n → ∀ q, q < n → (rbt (gA σ 57) v q = true ↔ sp_c W n v q)) (hq : tq n σ L0) (hl : ∀ x, x ∈ L0 ↔ x < n ∧ sp_l W n x) :
    ∃ s L, gd_lp (fun _ _ => none) B_M_findTaint_89 gd_N 0 σ = some (.inl none, s) ∧ tq n s L ∧ (∀ x, x ∈ L ↔ sp_T W n x) := by
  refine gd_it2 (I := fun m i s => ∃ j L, j ≤ L.length ∧ m = n + 1 - j ∧ i = nI j ∧ tq n s L ∧ (∀ x ∈ L, sp_T W n x) ∧ (∀ x ∈ L0, x ∈ L) ∧ (∀ i v, i < j → L[i]? = some v → ∀ u, sp_h W n v u → u ∈ L) ∧ gd_fm W_M_findTaint σ s) (E := fun (r : gR) => ∃ s L, r = some (.inl none, s) ∧ tq n s L ∧ (∀ x, x ∈ L ↔ sp_T W n x)) ?_ gd_N (n + 1) 0 σ ⟨0, L0, Nat.zero_le _, rfl, rfl, hq, fun x hx P h1 h2 => h1 x ((hl x).mp hx).1 ((hl x).mp hx).2.1 ((hl x).mp hx).2.2.1 ((hl x).mp hx).2.2.2, fun x hx => hx, fun i v hi => absurd hi (Nat.not_lt_zero i), gd_fm0 _ _⟩ (gd_Nlt (by omega))
  rintro m i s ag ⟨j, L, hj, rfl, rfl, hq, hs, h0, hc, fr⟩
  have w1 : gA s 42 = W := (fm_A fr rfl).trans hW
  have s1 : gI s 41 2 = nI n := (fm_I fr rfl).trans h2
  have g1 : gA s 57 = gA σ 57 := fm_A fr rfl
  have hlen : L.length ≤ n := bf_len hq.2.2.1 hq.2.2.2
  unfold B_M_findTaint_89
  rw [hq.1.1]
  by_cases hjl : j = L.length
  · rw [if_pos ((gi_le (by omega) (by omega)).mpr (by omega))]
    refine Or.inr ⟨s, L, rfl, hq, fun x => ⟨hs x, fun hx => ?_⟩⟩
    refine hx (fun x => x ∈ L) (fun p hp h1 h2 h3 => h0 p ((hl p).mpr ⟨hp, h1, h2, h3⟩)) (fun v u hv hc1 hk hr => ?_)
    obtain ⟨i, hi⟩ := List.mem_iff_getElem?.mp hv
    have := (List.getElem?_eq_some_iff.mp hi).1
    exact hc i v (by omega) hi u ⟨hc1, hk, hr⟩
  · have hlt : j < L.length := by omega
    obtain ⟨v, hv⟩ : ∃ v, L[j]? = some v := ⟨L[j], List.getElem?_eq_getElem hlt⟩
    rw [if_neg (fun z => by have := (gi_le (by omega) (by omega)).mp z; omega)]
    obtain ⟨s', L', k1, k2, k3, k4, k5⟩ := ti_99 (fun (s32 : gS) => ag (nI j + 1) s32) w1 hok hn s1 (by rw [g1]; exact h57) hq hv
    rw [gd_j1, k1, nI_1]
    have hle := k3.length_le
    refine Or.inl ⟨nI (j + 1), s', n + 1 - (j + 1), by omega, ⟨j + 1, L', by omega, rfl, rfl, k2, fun x hx => ?_, fun x hx => (k4 x).mpr (Or.inl (h0 x hx)), fun i w hi hw u hu => ?_, gd_fmT (gd_sbI rfl) fr k5⟩, rfl⟩
    · rcases (k4 x).mp hx with z | ⟨_, z⟩
      · exact hs x z
      · exact fun P h1 h2 => h2 v x (hs v (List.mem_of_getElem? hv) P h1 h2) z.1 z.2.1 z.2.2
    · rw [bf_pre k3 (by omega)] at hw
      by_cases e : i = j
      · subst e
        rw [hv] at hw
        cases hw
        exact (k4 u).mpr (Or.inr ⟨sp_sl hu.1.2.1, hu⟩)
      · exact (k4 u).mpr (Or.inl (hc i w (by omega) hw u hu))
theorem ti_all {W : Nat → Int32} {n : Nat} {σ : gS} (hW : gA σ 42 = W) (hok : sp_ok W n) (hn : n ≤ 1040) (h2 : gI σ 41 2 = nI n) (h52 : ∀ p, p < n → gA σ 52 p = nI (sp_i (sp_g W n p))) (h57 : ∀ v, v < n → ∀ q, q < n → (rbt (gA σ 57) v q = true ↔ sp_c W n v q)) :
    ∃ s, F_M_findTaint σ = some (.inl none, s) ∧ ∀ p, p < n → gA s 53 p = nI (sp_i (sp_T W n p)) := by
  unfold F_M_findTaint
  rw [gd_s1, gd_j1]
  obtain ⟨s, L, g1, g2, g3, g4⟩ := ti_7 (σ := gs_I σ 41 37 0) (fun (s15 : gS) => gd_lp (fun _ _ => none) (B_M_findTaint_89) gd_N 0 s15) hW hn h2 rfl h52
  obtain ⟨s', L', k1, k2, k3⟩ := ti_89 (σ := s) ((fm_A g4 rfl).trans hW) hok hn ((fm_I g4 rfl).trans h2) (by rw [fm_A g4 (p := 57) rfl]; exact h57) g2 g3
  rw [g1, k1]
  refine ⟨s', rfl, fun p hp => ?_⟩
  rw [k2.2.1 p hp]
  by_cases c : sp_T W n p
  · rw [sp_it c, if_pos ((k3 p).mpr c)]; rfl
  · rw [sp_if c, if_neg (fun z => c ((k3 p).mp z))]; rfl
