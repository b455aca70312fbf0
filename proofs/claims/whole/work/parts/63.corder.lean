theorem co_isAt {W : Nat → Int32} {n : Nat} {σ : gS} (hW : gA σ 42 = W) (hD : rD n σ) {p : Nat} (hp : p ≤ n) (b : Int32) : R_Listing_isAt (nI p) b σ = some (.inl (some (.int (if p < n ∧ sp_k W p = b then 1 else 0)))) := by
  obtain ⟨d1, hn, hok, hr⟩ := hD
  unfold R_Listing_isAt
  rw [d1, if_neg (nI_pos (by omega))]
  by_cases z : p < n
  · have q3 := (hr p z).1
    rw [hW] at q3
    rw [if_neg (fun y => by have := (gi_le (by omega) (by omega)).mp y; omega), gd_gI (gi_in (by omega) (by omega)), gi_cl (by omega), q3]
    by_cases c : sp_k W p = b
    · rw [if_pos c, if_pos (show p < n ∧ sp_k W p = b from ⟨z, c⟩)]
    · rw [if_neg c, if_neg (show ¬ (p < n ∧ sp_k W p = b) from fun y => c y.2)]
  · rw [if_pos ((gi_le (by omega) (by omega)).mpr (by omega)), if_neg (show ¬ (p < n ∧ sp_k W p = b) from fun y => z y.1)]
theorem co_full {W : Nat → Int32} {σ : gS} {o : Nat} {ks : List kE} (h : gC W σ o ks) : R_Guesses_isFull σ = some (.inl (some (.int (if ks.length < 16 then 0 else 1)))) := by
  obtain ⟨⟨h1, h2⟩, ⟨h3, h4⟩, h5⟩ := h
  unfold R_Guesses_isFull
  rw [h4]
  by_cases c : ks.length < 16
  · rw [if_pos (show nI ks.length < 16 from (gi_lt (b := 16) (by omega) (by omega)).mpr c), if_pos c]
  · rw [if_neg (show ¬ nI ks.length < 16 from fun y => c ((gi_lt (b := 16) (by omega) (by omega)).mp y)), if_neg c]
theorem co_guess {W : Nat → Int32} {n : Nat} {σ : gS} {o : Nat} {ks : List kE} {m : mS} (hW : gA σ 42 = W) (hD : rD n σ) (h : gC W σ o ks) (hm : aC σ m) (h0 : m.2.1 0 = 0) (hp : m.1 ≤ n) (a : Int32) :
    ∃ σ', F_Machine_guess a σ = some (.inl (some (.int (if m.1 < n ∧ sp_k W m.1 = 5 ∧ ks.length < 16 ∧ mc_fu (gI σ 10 6) ks = 0 then 0 else -1))), σ') ∧
      (m.1 < n ∧ sp_k W m.1 = 5 ∧ ks.length < 16 ∧ mc_fu (gI σ 10 6) ks = 0 → gC W σ' o (ks.map ke_up ++ [(m.1, nI (if a = 0 then m.1 + 1 else (sp_t W m.1).toNatClampNeg), 0, m.2.1, m.2.2.1)]) ∧ aC σ' (mc_go m (if a = 0 then m.1 + 1 else (sp_t W m.1).toNatClampNeg))) ∧
      (¬ (m.1 < n ∧ sp_k W m.1 = 5 ∧ ks.length < 16 ∧ mc_fu (gI σ 10 6) ks = 0) → σ' = σ) := by
  have hn := hD.2.1
  have hok := hD.2.2.1
  rw [hW] at hok
  unfold F_Machine_guess
  rw [hm.1, co_isAt hW hD hp, gd_qi1]
  by_cases c1 : m.1 < n ∧ sp_k W m.1 = 5
  · rw [if_pos c1, if_neg (show ¬ (1 : Int32) = 0 by decide), co_full h, gd_qi1]
    by_cases c3 : ks.length < 16
    · rw [if_pos c3, if_pos rfl, cr_full h, gd_qi1]
      by_cases c4 : mc_fu (gI σ 10 6) ks = 0
      · rw [if_pos c4, if_pos (show m.1 < n ∧ sp_k W m.1 = 5 ∧ ks.length < 16 ∧ mc_fu (gI σ 10 6) ks = 0 from ⟨c1.1, c1.2, c3, c4⟩), gd_j1]
        obtain ⟨t, ht, et⟩ := sp_tgt hok hn c1.1 (Or.inl c1.2)
        have e1 : sp_t W m.1 = nI t := by unfold sp_t; rw [if_pos (show sp_k W m.1 = 5 ∨ sp_k W m.1 = 6 from Or.inl c1.2)]; exact et
        have q9 := (hD.2.2.2 m.1 c1.1).2.2.2.2.2.2
        rw [hW, e1] at q9
        have dst := st_dst hW hD hm h0 c1.1 c1.2
        simp only [e1, gi_cl (show t ≤ 100000 by omega)]
        have key : ∀ v : Nat, ∃ σ', (gd_qi (R_Machine_branchDestination (nI m.1) σ) σ fun r6 => gd_0 (F_Guesses_add_11_12 (nI v) r6 σ) fun s7 => gd_s (gs_I s7 10 5 (nI v)) fun s8 => (some (.inl (some (.int 0)), s8) : gR)) = some (.inl (some (.int 0)), σ') ∧ gC W σ' o (ks.map ke_up ++ [(m.1, nI v, 0, m.2.1, m.2.2.1)]) ∧ aC σ' (mc_go m v) := by
          intro v
          rw [dst, gd_qi1, cr_addF h hm c3, gd_01, gd_s1]
          exact ⟨_, rfl, cr_addC h hm c3 (nI v), aC_go (cr_addA hm _ _ _ _) rfl⟩
        by_cases ha : a = 0
        · simp only [if_pos ha]
          rw [nI_1]
          obtain ⟨σ', k1, k2, k3⟩ := key (m.1 + 1)
          exact ⟨σ', k1, fun _ => ⟨k2, k3⟩, fun z => absurd ⟨c1.1, c1.2, c3, c4⟩ z⟩
        · simp only [if_neg ha]
          rw [gd_gI (gi_in (by omega) (by omega)), gi_cl (by omega), q9]
          obtain ⟨σ', k1, k2, k3⟩ := key t
          exact ⟨σ', k1, fun _ => ⟨k2, k3⟩, fun z => absurd ⟨c1.1, c1.2, c3, c4⟩ z⟩
      · rw [if_neg c4, if_neg (show ¬ (m.1 < n ∧ sp_k W m.1 = 5 ∧ ks.length < 16 ∧ mc_fu (gI σ 10 6) ks = 0) from fun z => c4 z.2.2.2)]
        exact ⟨σ, rfl, fun z => absurd z.2.2.2 c4, fun _ => rfl⟩
    · rw [if_neg c3, if_neg (show ¬ (1 : Int32) = 0 by decide), if_neg (show ¬ (m.1 < n ∧ sp_k W m.1 = 5 ∧ ks.length < 16 ∧ mc_fu (gI σ 10 6) ks = 0) from fun z => c3 z.2.2.1)]
      exact ⟨σ, rfl, fun z => absurd z.2.2.1 c3, fun _ => rfl⟩
  · rw [if_neg c1, if_pos rfl, if_neg (show ¬ (m.1 < n ∧ sp_k W m.1 = 5 ∧ ks.length < 16 ∧ mc_fu (gI σ 10 6) ks = 0) from fun z => c1 ⟨z.1, z.2.1⟩)]
    exact ⟨σ, rfl, fun z => absurd ⟨z.1, z.2.1⟩ c1, fun _ => rfl⟩
theorem co_resolve {W : Nat → Int32} {n : Nat} {σ : gS} {o : Nat} {ks : List kE} {m : mS} (h : gC W σ o ks) (hm : aC σ m) (hc : m.2.2.2.2 ≤ 2048) :
    (ks = [] ∨ ¬ m.2.2.2.2 ≤ 2046 → F_Machine_resolve σ = some (.inl (some (.int (-1))), σ)) ∧
    ∀ e t, ks = e :: t → m.2.2.2.2 ≤ 2046 →
      (nI (ke_o W e) = e.2.1 → ∃ σ', F_Machine_resolve σ = some (.inl (some (.int 1)), σ') ∧ gC W σ' ((o + 1) % 16) t ∧ aC σ' (mc_tell m 0 (nI (ke_o W e)))) ∧
      (¬ nI (ke_o W e) = e.2.1 → ∃ σ', F_Machine_resolve σ = some (.inl (some (.int 2)), σ') ∧ gC W σ' 0 [] ∧ aC σ' (ke_o W e, e.2.2.2.1, e.2.2.2.2, (mc_tell m 0 (nI (ke_o W e))).2.2.2)) := by
  have hroom := st_room hm hc
  constructor
  · intro z
    obtain ⟨⟨h1, h2⟩, ⟨h3, h4⟩, h5⟩ := h
    unfold F_Machine_resolve
    cases ks with
    | nil => rw [h4, if_pos (show nI ([] : List kE).length = 0 from rfl)]
    | cons e t =>
      have hl : (e :: t).length ≤ 16 := h2
      rcases z with z | z
      · cases z
      · rw [h4, if_neg (nI_ne0 (by simp) (by omega)), hroom, gd_qi1, if_neg z, if_pos rfl]
  · rintro e t rfl hr
    obtain ⟨⟨h1, h2⟩, ⟨h3, h4⟩, h5⟩ := id h
    have hl : t.length + 1 ≤ 16 := h2
    obtain ⟨b1, b2, -⟩ := h5 0 e rfl
    rw [show (o + 0) % 16 = o by omega] at b1 b2
    obtain ⟨e1, a1⟩ := st_cadd hm (show m.2.2.2.2 < 2048 by omega) 0 (nI (ke_o W e))
    have g1 : gC W (st_cAdd σ 0 (nI (ke_o W e))) o (e :: t) := h
    have start : F_Machine_resolve σ = if (if e.2.1 = nI (ke_o W e) then (1 : Int32) else 0) = 0 then (gd_s (gs_I (st_cAdd σ 0 (nI (ke_o W e))) 10 5 (nI (ke_o W e))) fun s6 => gd_0 (F_Guesses_rollBack_11_12 s6) fun s7 => some (.inl (some (.int 2)), s7)) else gd_0 (F_Guesses_closeOldest (st_cAdd σ 0 (nI (ke_o W e)))) fun s8 => some (.inl (some (.int 1)), s8) := by
      unfold F_Machine_resolve R_Guesses_oldestOught R_Guesses_oldestIsRight
      rw [h4, if_neg (nI_ne0 (by simp) (by omega)), hroom, gd_qi1, if_pos hr, if_neg (show ¬ (1 : Int32) = 0 by decide)]
      have i1 : gI (st_cAdd σ 0 (nI (ke_o W e))) 15 5 = nI o := h3
      have i2 : gA (st_cAdd σ 0 (nI (ke_o W e))) 18 o = e.2.1 := b1
      have i3 : gA (st_cAdd σ 0 (nI (ke_o W e))) 19 o = nI (ke_o W e) := b2
      simp only [h3, i1, gd_gI (gi_in h1 (by omega : 16 ≤ 100000)), gi_cl (by omega : o ≤ 100000), b2, gd_qi1, e1, gd_01, i2, i3]
      by_cases c : e.2.1 = nI (ke_o W e)
      · simp only [if_pos c, gd_qi1]
      · simp only [if_neg c, gd_qi1]
    rw [start]
    constructor
    · intro c
      rw [if_pos c.symm, if_neg (show ¬ (1 : Int32) = 0 by decide)]
      obtain ⟨σ', k1, k2, k3⟩ := cr_close g1
      rw [k1, gd_01]
      exact ⟨σ', rfl, k2, k3 _ a1⟩
    · intro c
      rw [if_neg (show ¬ e.2.1 = nI (ke_o W e) from fun z => c z.symm), if_pos rfl, gd_s1]
      obtain ⟨σ', k1, k2, k3⟩ := cr_back (σ := gs_I (st_cAdd σ 0 (nI (ke_o W e))) 10 5 (nI (ke_o W e))) g1 (aC_go a1 rfl)
      rw [k1, gd_01]
      exact ⟨σ', rfl, k2, k3⟩
