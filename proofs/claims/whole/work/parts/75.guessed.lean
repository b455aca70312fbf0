theorem kn_reach {W : Nat → Int32} {n : Nat} {σ : gS} (κ : gS → gR) (hW : gA σ 42 = W) (hok : sp_ok W n) (hn : n ≤ 1040) (h2 : gI σ 41 2 = nI n) :
    ∃ s, gd_lp (fun _ _ => none) (B_M_know_14 κ) gd_N 0 σ = κ s ∧ (∀ v, v < n → ∀ q, q < n → (rbt (gA s 57) v q = true ↔ sp_c W n v q)) ∧ gd_fm W_M_findReach σ s := by
  refine gd_it2 (I := fun m i s => ∃ j, j ≤ n ∧ m = n - j ∧ i = nI j ∧ (∀ v, v < j → ∀ q, q < n → (rbt (gA s 57) v q = true ↔ sp_c W n v q)) ∧ gd_fm W_M_findReach σ s) (E := fun (r : gR) => ∃ s, r = κ s ∧ (∀ v, v < n → ∀ q, q < n → (rbt (gA s 57) v q = true ↔ sp_c W n v q)) ∧ gd_fm W_M_findReach σ s) ?_ gd_N n 0 σ ⟨0, by omega, rfl, rfl, fun v hv => absurd hv (Nat.not_lt_zero v), gd_fm0 _ _⟩ (gd_Nlt (by omega))
  rintro m i s ag ⟨j, hj, rfl, rfl, hb, fr⟩
  have w1 : gA s 42 = W := (fm_A fr rfl).trans hW
  have s1 : gI s 41 2 = nI n := (fm_I fr rfl).trans h2
  unfold B_M_know_14
  rw [s1]
  by_cases hjn : j = n
  · subst hjn
    rw [if_pos ((gi_le (by omega) (by omega)).mpr (Nat.le_refl _))]
    exact Or.inr ⟨s, rfl, hb, fr⟩
  · rw [if_neg (fun z => by have := (gi_le (by omega) (by omega)).mp z; omega)]
    obtain ⟨s', g1, g2, g3⟩ := fr_all (v := j) w1 hok hn s1 (by omega)
    rw [g1, gd_01, nI_1]
    refine Or.inl ⟨nI (j + 1), s', n - (j + 1), by omega, ⟨j + 1, by omega, rfl, rfl, fun v hv q hq => ?_, gd_fmT (gd_sbI rfl) fr (K_M_findReach _ _ _ g1)⟩, rfl⟩
    by_cases e : v = j
    · subst e; exact g2 q hq
    · rw [g3 v e q (by omega)]; exact hb v (by omega) q hq
def gg_X (W : Nat → Int32) (n p : Nat) : List Nat := if sp_k W p = 7 then [] else sp_xs W n p
def gg_0 (W : Nat → Int32) (n : Nat) : Nat → List Nat
  | 0 => []
  | j + 1 => if sp_k W j = 5 then bf_n (gg_0 W n j) (sp_xs W n j) else gg_0 W n j
def gg_L (W : Nat → Int32) (n : Nat) : List Nat := bf (gg_X W n) (n + 1) 0 (gg_0 W n n)
theorem gg_0n {W : Nat → Int32} {n : Nat} : ∀ j, (gg_0 W n j).Nodup ∧ ∀ x ∈ gg_0 W n j, x < n
  | 0 => ⟨List.nodup_nil, fun x hx => by cases hx⟩
  | j + 1 => by
    have h := gg_0n (W := W) (n := n) j
    unfold gg_0
    by_cases c : sp_k W j = 5
    · rw [if_pos c]
      exact ⟨bf_nnd h.1, fun x hx => (bf_nm.mp hx).elim (h.2 x) sp_xb⟩
    · rw [if_neg c]; exact h
theorem gg_0m {W : Nat → Int32} {n q : Nat} : ∀ j, q ∈ gg_0 W n j ↔ ∃ p, p < j ∧ sp_k W p = 5 ∧ q ∈ sp_xs W n p
  | 0 => ⟨fun z => (by cases z), fun ⟨p, hp, _⟩ => absurd hp (Nat.not_lt_zero p)⟩
  | j + 1 => by
    have h := gg_0m (W := W) (n := n) (q := q) j
    unfold gg_0
    by_cases c : sp_k W j = 5
    · rw [if_pos c, bf_nm, h]
      constructor
      · rintro (⟨p, h1, h2, h3⟩ | h1)
        · exact ⟨p, by omega, h2, h3⟩
        · exact ⟨j, by omega, c, h1⟩
      · rintro ⟨p, h1, h2, h3⟩
        by_cases e : p = j
        · subst e; exact Or.inr h3
        · exact Or.inl ⟨p, by omega, h2, h3⟩
    · rw [if_neg c, h]
      constructor
      · rintro ⟨p, h1, h2, h3⟩; exact ⟨p, by omega, h2, h3⟩
      · rintro ⟨p, h1, h2, h3⟩
        by_cases e : p = j
        · subst e; exact absurd h2 c
        · exact ⟨p, by omega, h2, h3⟩
theorem gg_b {W : Nat → Int32} {n : Nat} : ∀ p, p < n → ∀ q ∈ gg_X W n p, q < n := by
  intro p _ q hq
  unfold gg_X at hq
  split at hq
  · cases hq
  · exact sp_xb hq
theorem gg_m {W : Nat → Int32} {n q : Nat} (hok : sp_ok W n) (hn : n ≤ 1040) : q ∈ gg_L W n ↔ sp_g W n q := by
  unfold gg_L
  rw [bf_all (S := fun x => ∃ p, p < n ∧ sp_k W p = 5 ∧ x ∈ sp_xs W n p) gg_b (gg_0n n).1 (gg_0n n).2 (fun x => gg_0m n) q]
  constructor
  · intro h
    have h2 : q < n ∧ sp_g W n q := h (fun q => q < n ∧ sp_g W n q) (fun x ⟨p, hp, hk, hx⟩ => ⟨sp_xb hx, fun P h1 h2 => h1 p x hp hk ((sp_xm hok hn hp).mp hx)⟩) (fun p q hp hq => by
      unfold gg_X at hq
      by_cases c : sp_k W p = 7
      · rw [if_pos c] at hq; cases hq
      · rw [if_neg c] at hq
        exact ⟨sp_xb hq, fun P h1 h2 => h2 p q (hp.2 P h1 h2) c ((sp_xm hok hn hp.1).mp hq)⟩)
    exact h2.2
  · intro h
    have h2 : q < n ∧ bf_r (gg_X W n) (fun x => ∃ p, p < n ∧ sp_k W p = 5 ∧ x ∈ sp_xs W n p) q := h (fun q => q < n ∧ bf_r (gg_X W n) (fun x => ∃ p, p < n ∧ sp_k W p = 5 ∧ x ∈ sp_xs W n p) q) (fun p x hp hk hx => ⟨hx.1, bf_rb ⟨p, hp, hk, (sp_xm hok hn hp).mpr hx⟩⟩) (fun p q hp h7 hx => ⟨hx.1, bf_rs hp.2 (by
      unfold gg_X
      rw [if_neg h7]
      exact (sp_xm hok hn hp.1).mpr hx)⟩)
    exact h2.2
theorem fg_2 (κ : gS → gR) (σ : gS) {n : Nat} (hn : n ≤ 1040) (h2 : gI σ 41 2 = nI n) : gd_lp (fun _ _ => none) (B_M_findGuessed_2 κ) gd_N 0 σ = κ (gs_row σ 63 (mc_put (gA σ 63) 0 n (fun _ => vp_nar .boolean 0))) := by
  refine cp_lp (B := fun κ => B_M_findGuessed_2 κ) σ 63 0 n (fun _ => vp_nar .boolean 0) (by omega) (fun ag j s hj hs => ?_) (fun ag s hs => ?_)
  · subst hs
    unfold B_M_findGuessed_2
    rw [show gI (gs_row σ 63 (mc_put (gA σ 63) 0 j (fun _ => vp_nar .boolean 0))) 41 2 = nI n from h2, if_neg (fun z => by have := (gi_le (by omega) (by omega)).mp z; omega)]
    simp only [gd_gI (gi_in (show j < 1040 by omega) (by omega : 1040 ≤ 100000)), gi_cl (show j ≤ 100000 by omega), Nat.zero_add, gd_s1]
  · subst hs
    unfold B_M_findGuessed_2
    rw [show gI (gs_row σ 63 (mc_put (gA σ 63) 0 n (fun _ => vp_nar .boolean 0))) 41 2 = nI n from h2, if_pos ((gi_le (by omega) (by omega)).mpr (Nat.le_refl _))]
theorem fg_30 {W : Nat → Int32} {n : Nat} {σ : gS} (κ : gS → gR) (hW : gA σ 42 = W) (hok : sp_ok W n) (hn : n ≤ 1040) (h2 : gI σ 41 2 = nI n) (h : rq n σ []) : ∃ s, gd_lp (fun _ _ => none) (B_M_findGuessed_30 κ) gd_N 0 σ = κ s ∧ rq n s (gg_0 W n n) ∧ gd_fm W_M_goOn σ s := by
  refine gd_it2 (I := fun m i s => ∃ j, j ≤ n ∧ m = n - j ∧ i = nI j ∧ rq n s (gg_0 W n j) ∧ gd_fm W_M_goOn σ s) (E := fun (r : gR) => ∃ s, r = κ s ∧ rq n s (gg_0 W n n) ∧ gd_fm W_M_goOn σ s) ?_ gd_N n 0 σ ⟨0, by omega, rfl, rfl, h, gd_fm0 _ _⟩ (gd_Nlt (by omega))
  rintro m i s ag ⟨j, hj, rfl, rfl, hq, fr⟩
  have w1 : gA s 42 = W := (fm_A fr rfl).trans hW
  have s1 : gI s 41 2 = nI n := (fm_I fr rfl).trans h2
  unfold B_M_findGuessed_30
  rw [s1]
  by_cases hjn : j = n
  · subst hjn
    rw [if_pos ((gi_le (by omega) (by omega)).mpr (Nat.le_refl _))]
    exact Or.inr ⟨s, rfl, hq, fr⟩
  · rw [if_neg (fun z => by have := (gi_le (by omega) (by omega)).mp z; omega), br_kindN (by omega), gd_qi1, gd_j1, w1, nI_1]
    by_cases c : sp_k W j = 5
    · rw [if_pos c]
      obtain ⟨s', g1, g2⟩ := rq_goOn w1 hok hn s1 hq (show j < n by omega)
      rw [g1, gd_01]
      exact Or.inl ⟨nI (j + 1), s', n - (j + 1), by omega, ⟨j + 1, by omega, rfl, rfl, by unfold gg_0; rw [if_pos c]; exact g2, gd_fmT (gd_sbI rfl) fr (K_M_goOn _ _ _ g1)⟩, rfl⟩
    · rw [if_neg c]
      exact Or.inl ⟨nI (j + 1), s, n - (j + 1), by omega, ⟨j + 1, by omega, rfl, rfl, by unfold gg_0; rw [if_neg c]; exact hq, fr⟩, rfl⟩
theorem fg_60 {W : Nat → Int32} {n : Nat} {σ : gS} {L0 : List Nat} (κ : gS → gR) (hW : gA σ 42 = W) (hok : sp_ok W n) (hn : n ≤ 1040) (h2 : gI σ 41 2 = nI n) (h : rq n σ L0) : ∃ s, gd_lp (fun _ _ => none) (B_M_findGuessed_60 κ) gd_N 0 σ = κ s ∧ rq n s (bf (gg_X W n) (n + 1) 0 L0) ∧ gd_fm W_M_goOn σ s := by
  refine gd_it2 (I := fun m i s => ∃ j L, j ≤ L.length ∧ m = n + 1 - j ∧ i = nI j ∧ rq n s L ∧ gd_fm W_M_goOn σ s ∧ bf (gg_X W n) (n + 1 - j) j L = bf (gg_X W n) (n + 1) 0 L0) (E := fun (r : gR) => ∃ s, r = κ s ∧ rq n s (bf (gg_X W n) (n + 1) 0 L0) ∧ gd_fm W_M_goOn σ s) ?_ gd_N (n + 1) 0 σ ⟨0, L0, Nat.zero_le _, rfl, rfl, h, gd_fm0 _ _, rfl⟩ (gd_Nlt (by omega))
  rintro m i s ag ⟨j, L, hj, rfl, rfl, hq, fr, hbf⟩
  have w1 : gA s 42 = W := (fm_A fr rfl).trans hW
  have s1 : gI s 41 2 = nI n := (fm_I fr rfl).trans h2
  have hl := rq_len hq
  unfold B_M_findGuessed_60
  rw [hq.1]
  by_cases hjl : j = L.length
  · rw [if_pos ((gi_le (by omega) (by omega)).mpr (by omega))]
    rw [bf_end (by omega)] at hbf
    exact Or.inr ⟨s, rfl, hbf ▸ hq, fr⟩
  · have hlt : j < L.length := by omega
    obtain ⟨p, hp⟩ : ∃ p, L[j]? = some p := ⟨L[j], List.getElem?_eq_getElem hlt⟩
    have hpn : p < n := hq.2.2.2.2 p (List.mem_of_getElem? hp)
    have q1 : gA s 62 j = nI p := hq.2.1 j p hp
    rw [if_neg (fun z => by have := (gi_le (by omega) (by omega)).mp z; omega)]
    simp only [gd_gI (gi_in (show j < 2081 by omega) (by omega : 2081 ≤ 100000)), gi_cl (show j ≤ 100000 by omega), q1]
    rw [br_kindN (by omega), gd_qi1, gd_j1, w1, nI_1]
    have hfuel : n + 1 - j = (n + 1 - (j + 1)) + 1 := by omega
    rw [hfuel, bf_step hp] at hbf
    have hlen2 : j + 1 ≤ (bf_n L (gg_X W n p)).length := by
      have := (bf_npre (gg_X W n p) L).length_le
      omega
    by_cases c : sp_k W p = 7
    · rw [if_pos c]
      have e : gg_X W n p = [] := if_pos c
      rw [e] at hbf hlen2
      exact Or.inl ⟨nI (j + 1), s, n + 1 - (j + 1), by omega, ⟨j + 1, L, hlen2, rfl, rfl, hq, fr, hbf⟩, rfl⟩
    · rw [if_neg c]
      obtain ⟨s', g1, g2⟩ := rq_goOn w1 hok hn s1 hq hpn
      rw [g1, gd_01]
      have e : gg_X W n p = sp_xs W n p := if_neg c
      rw [e] at hbf hlen2
      exact Or.inl ⟨nI (j + 1), s', n + 1 - (j + 1), by omega, ⟨j + 1, _, hlen2, rfl, rfl, g2, gd_fmT (gd_sbI rfl) fr (K_M_goOn _ _ _ g1), hbf⟩, rfl⟩
theorem fg_101 (σ : gS) {n : Nat} (hn : n ≤ 1040) (h2 : gI σ 41 2 = nI n) : gd_lp (fun _ _ => none) B_M_findGuessed_101 gd_N 0 σ = some (.inl none, gs_row σ 52 (mc_put (gA σ 52) 0 n (fun p => vp_nar .boolean (gA σ 63 p)))) := by
  refine cp_lp (κ := fun s => some (.inl none, s)) (B := fun _ => B_M_findGuessed_101) σ 52 0 n (fun p => vp_nar .boolean (gA σ 63 p)) (by omega) (fun ag j s hj hs => ?_) (fun ag s hs => ?_)
  · subst hs
    unfold B_M_findGuessed_101
    rw [show gI (gs_row σ 52 (mc_put (gA σ 52) 0 j (fun p => vp_nar .boolean (gA σ 63 p)))) 41 2 = nI n from h2, if_neg (fun z => by have := (gi_le (by omega) (by omega)).mp z; omega)]
    simp only [gd_gI (gi_in (show j < 1040 by omega) (by omega : 1040 ≤ 100000)), gi_cl (show j ≤ 100000 by omega), Nat.zero_add, gd_s1]
    rfl
  · subst hs
    unfold B_M_findGuessed_101
    rw [show gI (gs_row σ 52 (mc_put (gA σ 52) 0 n (fun p => vp_nar .boolean (gA σ 63 p)))) 41 2 = nI n from h2, if_pos ((gi_le (by omega) (by omega)).mpr (Nat.le_refl _))]
theorem fg_all {W : Nat → Int32} {n : Nat} {σ : gS} (hW : gA σ 42 = W) (hok : sp_ok W n) (hn : n ≤ 1040) (h2 : gI σ 41 2 = nI n) : ∃ s, F_M_findGuessed σ = some (.inl none, s) ∧ ∀ p, p < n → gA s 52 p = nI (sp_i (sp_g W n p)) := by
  unfold F_M_findGuessed
  rw [gd_j1, fg_2 _ _ hn h2, gd_s1, gd_j1]
  generalize hρ : gs_I (gs_row σ 63 (mc_put (gA σ 63) 0 n (fun _ => vp_nar .boolean 0))) 41 37 0 = ρ
  have w2 : gA ρ 42 = W := by rw [← hρ]; exact hW
  have s2 : gI ρ 41 2 = nI n := by rw [← hρ]; exact h2
  have q0 : rq n ρ [] := by
    rw [← hρ]
    refine ⟨rfl, fun i x hx => by simp at hx, fun p hp => ?_, List.nodup_nil, fun x hx => by cases hx⟩
    rw [if_neg (by simp)]
    show mc_put (gA σ 63) 0 n (fun _ => vp_nar .boolean 0) p = 0
    unfold mc_put
    rw [if_pos (by omega)]
    rfl
  obtain ⟨s3, g1, g2, g3⟩ := fg_30 (fun s16 => gd_j (α := gS → gR) (fun (s25 : gS) => gd_lp (fun _ _ => none) (B_M_findGuessed_101) gd_N 0 s25) fun k20 => gd_lp (fun _ _ => none) (B_M_findGuessed_60 k20) gd_N 0 s16) w2 hok hn s2 q0
  rw [g1, gd_j1]
  obtain ⟨s4, k1, k2, k3⟩ := fg_60 (fun (s25 : gS) => gd_lp (fun _ _ => none) (B_M_findGuessed_101) gd_N 0 s25) ((fm_A g3 rfl).trans w2) hok hn ((fm_I g3 rfl).trans s2) g2
  have s4' : gI s4 41 2 = nI n := (fm_I k3 rfl).trans ((fm_I g3 rfl).trans s2)
  rw [k1, fg_101 _ hn s4']
  refine ⟨_, rfl, fun p hp => ?_⟩
  show mc_put (gA s4 52) 0 n (fun p => vp_nar .boolean (gA s4 63 p)) p = _
  unfold mc_put
  rw [if_pos (by omega), Nat.sub_zero]
  show vp_nar .boolean (gA s4 63 p) = _
  rw [k2.2.2.1 p hp]
  by_cases c : sp_g W n p
  · rw [sp_it c, if_pos (show p ∈ bf (gg_X W n) (n + 1) 0 (gg_0 W n n) from (gg_m hok hn).mpr c)]; rfl
  · rw [sp_if c, if_neg (show ¬ p ∈ bf (gg_X W n) (n + 1) 0 (gg_0 W n n) from fun z => c ((gg_m hok hn).mp z))]; rfl
