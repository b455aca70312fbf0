theorem th0 (σ : gS) (v : Int32) : gI (gs_I σ 41 0 v) 41 0 = v := rfl
theorem rel_t {X : List Int32} {σ : gS} (h : rel X σ) (v : Int32) : rel X (gs_I σ 41 0 v) := rel_fm (V := ([(41, 0)], [], [])) h (gd_fmI (gd_fm0 _ _) rfl) rfl rfl rfl rfl rfl rfl
theorem rel_o {X : List Int32} {σ : gS} (h : rel X σ) (v : Int64) : rel X (gs_L σ 66 0 v) := rel_fm (V := ([], [], [66])) h (gd_fmL (gd_fm0 _ _) rfl) rfl rfl rfl rfl rfl rfl
theorem gi_ge {a : Int32} {k : Nat} (hk : k ≤ 100000) (h : nI (k + 1) ≤ a) : ¬ a ≤ nI k := by
  intro z
  rw [Int32.le_iff_toInt_le, nI_toInt (by omega)] at h z
  omega
theorem gi_gp {a : Int32} {k : Nat} (hk : k ≤ 100000) (h : nI k ≤ a) : ¬ a < 0 := by
  intro z
  rw [Int32.le_iff_toInt_le, nI_toInt (by omega)] at h
  rw [Int32.lt_iff_toInt_lt, bi_0] at z
  omega
theorem gi_nl {a b : Int32} (h : b ≤ a) : ¬ a < b := Int32.not_lt.mpr h
theorem ok_register (X : List Int32) (a : Int32) (σ : gS) (h : rel X σ) : lc_h m_L_register m_M_register [.int a] X σ (rel X) := by
  obtain ⟨hX, n, hA, hB, hc, hl⟩ := id h
  rcases hB.2.1.2 with z | z
  · have z5 : gI σ 41 5 = 0 := hB.2.1.1.symm.trans z
    have e1 : R_G_register a σ = some (.inr 1) := by unfold R_G_register R_G_needLoaded; rw [if_pos z]; rfl
    have e2 : F_M_register a σ = some (.inl (some (.int 0)), gs_I σ 41 0 1) := by unfold F_M_register; rw [gd_t1, if_pos z5]; rfl
    exact ⟨1, 0, σ, _, ht_register_1 a (X_G_register a σ _ e1), hX, X_M_register a σ _ e2, rfl, fun y => absurd y (by decide), rel_t h 1⟩
  · have z0 : ¬ gI σ 0 9 = 0 := by rw [z]; decide
    have z5 : ¬ gI σ 41 5 = 0 := by rw [← hB.2.1.1]; exact z0
    obtain ⟨hD, ⟨m, o, ks, ac, ar, mk, gc, gk, kk⟩, hSC, hSR⟩ := hl z
    rcases pk_ix a (n := 32) (by omega) with c1 | c1 | ⟨r, hr, rfl⟩
    · have e1 : R_G_register a σ = some (.inr 3) := by unfold R_G_register R_G_needLoaded; rw [if_neg z0, gd_p01, if_pos c1]
      have e2 : F_M_register a σ = some (.inl (some (.int 0)), gs_I σ 41 0 2) := by unfold F_M_register; rw [gd_t1, if_neg z5, if_pos c1]; rfl
      exact ⟨2, 0, σ, _, ht_register_3 a (X_G_register a σ _ e1), hX, X_M_register a σ _ e2, rfl, fun y => absurd y (by decide), rel_t h 2⟩
    · have e1 : R_G_register a σ = some (.inr 3) := by unfold R_G_register R_G_needLoaded; rw [if_neg z0, gd_p01, if_neg (gi_gp (by omega) c1), if_neg (show ¬ a < 32 from gi_nl c1)]
      have e2 : F_M_register a σ = some (.inl (some (.int 0)), gs_I σ 41 0 2) := by unfold F_M_register; rw [gd_t1, if_neg z5, if_neg (gi_gp (by omega) c1), if_neg (show ¬ a ≤ 31 from gi_ge (k := 31) (by omega) c1)]; rfl
      exact ⟨2, 0, σ, _, ht_register_3 a (X_G_register a σ _ e1), hX, X_M_register a σ _ e2, rfl, fun y => absurd y (by decide), rel_t h 2⟩
    · have e1 : R_G_register (nI r) σ = some (.inl (some (.int (m.2.1 r)))) := by
        unfold R_G_register R_G_needLoaded
        rw [if_neg z0, gd_p01, if_neg (nI_pos (by omega)), if_pos (show nI r < 32 from (gi_lt (b := 32) (by omega) (by omega)).mpr hr), st_val ac mk.2.1 (by omega), gd_pi1]
      have e2 : F_M_register (nI r) (gs_L σ 66 0 (m.2.1 r).toInt64) = some (.inl (some (.int (m.2.1 r))), gs_I (gs_L σ 66 0 (m.2.1 r).toInt64) 41 0 0) := by
        unfold F_M_register
        rw [gd_t1, if_neg (show ¬ gI (gs_L σ 66 0 (m.2.1 r).toInt64) 41 5 = 0 from z5), if_neg (nI_pos (by omega)), if_pos (show nI r ≤ 31 from (gi_le (b := 31) (by omega) (by omega)).mpr (by omega)), gd_s1, th0, if_pos (show (0 : Int32) ≤ 0 by decide), gd_gI (gi_in hr (by omega)), gi_cl (by omega)]
        rw [show gA (gs_I (gs_L σ 66 0 (m.2.1 r).toInt64) 41 0 0) 44 r = m.2.1 r from ar.2.1 r hr]
      exact ⟨0, _, _, _, hr_register (nI r) _ (X_G_register (nI r) σ _ e1), hX, X_M_register (nI r) _ _ e2, rfl, fun _ => rfl, rel_t (rel_o h _) 0⟩
theorem ok_peek (X : List Int32) (a : Int32) (σ : gS) (h : rel X σ) : lc_h m_L_peek m_M_peek [.int a] X σ (rel X) := by
  obtain ⟨hX, n, hA, hB, hc, hl⟩ := id h
  rcases hB.2.1.2 with z | z
  · have z5 : gI σ 41 5 = 0 := hB.2.1.1.symm.trans z
    have e1 : R_G_peek a σ = some (.inr 1) := by unfold R_G_peek R_G_needLoaded; rw [if_pos z]; rfl
    have e2 : F_M_peek a σ = some (.inl (some (.int 0)), gs_I σ 41 0 1) := by unfold F_M_peek; rw [gd_t1, if_pos z5]; rfl
    exact ⟨1, 0, σ, _, ht_peek_1 a (X_G_peek a σ _ e1), hX, X_M_peek a σ _ e2, rfl, fun y => absurd y (by decide), rel_t h 1⟩
  · have z0 : ¬ gI σ 0 9 = 0 := by rw [z]; decide
    have z5 : ¬ gI σ 41 5 = 0 := by rw [← hB.2.1.1]; exact z0
    obtain ⟨hD, ⟨m, o, ks, ac, ar, mk, gc, gk, kk⟩, hSC, hSR⟩ := hl z
    have e1 : R_G_peek a σ = some (.inl (some (.int (mc_rd m.2.2.1 (mc_st a 4) 4 0)))) := by
      unfold R_G_peek R_G_needLoaded
      rw [if_neg z0, gd_p01, show R_Machine_read a 4 σ = _ from st_cread ac (b := 4) (Or.inr (Or.inr rfl)) a, gd_pi1]
    have e2 : F_M_peek a (gs_L σ 66 0 (mc_rd m.2.2.1 (mc_st a 4) 4 0).toInt64) = some (.inl (some (.int (mc_rd m.2.2.1 (mc_st a 4) 4 0))), gs_I (gs_L σ 66 0 (mc_rd m.2.2.1 (mc_st a 4) 4 0).toInt64) 41 0 0) := by
      unfold F_M_peek
      rw [gd_t1, if_neg (show ¬ gI (gs_L σ 66 0 (mc_rd m.2.2.1 (mc_st a 4) 4 0).toInt64) 41 5 = 0 from z5), gd_s1, th0, if_pos (show (0 : Int32) ≤ 0 by decide), show R_M_read a 4 (gs_I (gs_L σ 66 0 (mc_rd m.2.2.1 (mc_st a 4) 4 0).toInt64) 41 0 0) = _ from st_rread (σ := gs_I (gs_L σ 66 0 (mc_rd m.2.2.1 (mc_st a 4) 4 0).toInt64) 41 0 0) ar (b := 4) (Or.inr (Or.inr rfl)) a, gd_qi1]
    exact ⟨0, _, _, _, hr_peek a _ (X_G_peek a σ _ e1), hX, X_M_peek a _ _ e2, rfl, fun _ => rfl, rel_t (rel_o h _) 0⟩
theorem ok_state (X : List Int32) (a : Int32) (σ : gS) (h : rel X σ) : lc_h m_L_state m_M_state [.int a] X σ (rel X) := by
  obtain ⟨hX, n, hA, hB, hc, hl⟩ := id h
  rcases hB.2.1.2 with z | z
  · have z5 : gI σ 41 5 = 0 := hB.2.1.1.symm.trans z
    have e1 : R_G_state a σ = some (.inr 1) := by unfold R_G_state R_G_needLoaded; rw [if_pos z]; rfl
    have e2 : F_M_state a σ = some (.inl (some (.int 0)), gs_I σ 41 0 1) := by unfold F_M_state; rw [gd_t1, if_pos z5]; rfl
    exact ⟨1, 0, σ, _, ht_state_1 a (X_G_state a σ _ e1), hX, X_M_state a σ _ e2, rfl, fun y => absurd y (by decide), rel_t h 1⟩
  · have z0 : ¬ gI σ 0 9 = 0 := by rw [z]; decide
    have z5 : ¬ gI σ 41 5 = 0 := by rw [← hB.2.1.1]; exact z0
    obtain ⟨hD, ⟨m, o, ks, ac, ar, mk, gc, gk, kk⟩, hSC, hSR⟩ := hl z
    rcases pk_ix a (n := 4) (by omega) with c1 | c1 | ⟨r, hr, rfl⟩
    · have e1 : R_G_state a σ = some (.inr 3) := by unfold R_G_state R_G_needLoaded; rw [if_neg z0, gd_p01, if_pos c1]
      have e2 : F_M_state a σ = some (.inl (some (.int 0)), gs_I σ 41 0 2) := by unfold F_M_state; rw [gd_t1, if_neg z5, if_pos c1]; rfl
      exact ⟨2, 0, σ, _, ht_state_3 a (X_G_state a σ _ e1), hX, X_M_state a σ _ e2, rfl, fun y => absurd y (by decide), rel_t h 2⟩
    · have e1 : R_G_state a σ = some (.inr 3) := by unfold R_G_state R_G_needLoaded; rw [if_neg z0, gd_p01, if_neg (gi_gp (by omega) c1), if_neg (show ¬ a ≤ 3 from gi_ge (k := 3) (by omega) c1)]
      have e2 : F_M_state a σ = some (.inl (some (.int 0)), gs_I σ 41 0 2) := by unfold F_M_state; rw [gd_t1, if_neg z5, if_neg (gi_gp (by omega) c1), if_neg (show ¬ a ≤ 3 from gi_ge (k := 3) (by omega) c1)]; rfl
      exact ⟨2, 0, σ, _, ht_state_3 a (X_G_state a σ _ e1), hX, X_M_state a σ _ e2, rfl, fun y => absurd y (by decide), rel_t h 2⟩
    · have fin : ∀ v : Int32, R_Machine_figure (nI r) σ = some (.inl (some (.int v))) → F_M_state (nI r) (gs_L σ 66 0 v.toInt64) = some (.inl (some (.int v)), gs_I (gs_L σ 66 0 v.toInt64) 41 0 0) → lc_h m_L_state m_M_state [.int (nI r)] X σ (rel X) := by
        intro v f1 f2
        have e1 : R_G_state (nI r) σ = some (.inl (some (.int v))) := by
          unfold R_G_state R_G_needLoaded
          rw [if_neg z0, gd_p01, if_neg (nI_pos (by omega)), if_pos (show nI r ≤ 3 from (gi_le (b := 3) (by omega) (by omega)).mpr (by omega)), f1, gd_pi1]
        exact ⟨0, _, _, _, hr_state (nI r) _ (X_G_state (nI r) σ _ e1), hX, X_M_state (nI r) _ _ f2, rfl, fun _ => rfl, rel_t (rel_o h _) 0⟩
      have st : ∀ v : Int64, F_M_state (nI r) (gs_L σ 66 0 v) = (if nI r = 0 then some (.inl (some (.int (gI σ 41 7))), gs_I (gs_L σ 66 0 v) 41 0 0) else if nI r = 1 then some (.inl (some (.int (gI σ 41 18))), gs_I (gs_L σ 66 0 v) 41 0 0) else if nI r = 2 then gd_qi (R_M_distance (gs_I (gs_L σ 66 0 v) 41 0 0)) (gs_I (gs_L σ 66 0 v) 41 0 0) fun r4 => some (.inl (some (.int r4)), gs_I (gs_L σ 66 0 v) 41 0 0) else some (.inl (some (.int (gI σ 41 11))), gs_I (gs_L σ 66 0 v) 41 0 0)) := by
        intro v
        unfold F_M_state
        rw [gd_t1, if_neg (show ¬ gI (gs_L σ 66 0 v) 41 5 = 0 from z5), if_neg (nI_pos (by omega)), if_pos (show nI r ≤ 3 from (gi_le (b := 3) (by omega) (by omega)).mpr (by omega)), gd_s1, th0, if_pos (show (0 : Int32) ≤ 0 by decide)]
        rfl
      have : r = 0 ∨ r = 1 ∨ r = 2 ∨ r = 3 := by omega
      rcases this with rfl | rfl | rfl | rfl
      · refine fin (nI m.1) ?_ ?_
        · unfold R_Machine_figure; rw [if_pos (show nI 0 = 0 from rfl), ac.1]
        · rw [st, if_pos (show nI 0 = 0 from rfl), ar.1]
      · refine fin (nI ks.length) ?_ ?_
        · unfold R_Machine_figure; rw [if_neg (show ¬ nI 1 = 0 by decide), if_pos (show nI 1 = 1 from rfl), gc.2.1.2]
        · rw [st, if_neg (show ¬ nI 1 = 0 by decide), if_pos (show nI 1 = 1 from rfl), gk.2.1]
      · refine fin (mc_di ks) ?_ ?_
        · unfold R_Machine_figure; rw [if_neg (show ¬ nI 2 = 0 by decide), if_neg (show ¬ nI 2 = 1 by decide), if_pos (show nI 2 = 2 from rfl), cr_dist gc, gd_pi1]
        · rw [st, if_neg (show ¬ nI 2 = 0 by decide), if_neg (show ¬ nI 2 = 1 by decide), if_pos (show nI 2 = 2 from rfl), rr_dist (σ := gs_I (gs_L σ 66 0 (mc_di ks).toInt64) 41 0 0) gk, gd_qi1]
      · refine fin (nI m.2.2.2.2) ?_ ?_
        · unfold R_Machine_figure; rw [if_neg (show ¬ nI 3 = 0 by decide), if_neg (show ¬ nI 3 = 1 by decide), if_neg (show ¬ nI 3 = 2 by decide), ac.2.2.2.1]
        · rw [st, if_neg (show ¬ nI 3 = 0 by decide), if_neg (show ¬ nI 3 = 1 by decide), if_neg (show ¬ nI 3 = 2 by decide), ar.2.2.2.1]
theorem ok_leak (X : List Int32) (a : Int32) (σ : gS) (h : rel X σ) : lc_l m_G_leak m_M_leak [.int a] X σ (rel X) := by
  obtain ⟨hX, n, hA, hB, hc, hl⟩ := id h
  have fin : ∀ v : Int64, R_G_leak a σ = some (.inl (some (.long v))) → F_M_leak a σ = some (.inl (some (.long v)), gs_I σ 41 0 0) → lc_l m_G_leak m_M_leak [.int a] X σ (rel X) := by
    intro v f1 f2
    exact ⟨v, _, _, X_G_leak a σ _ f1, hX, X_M_leak a σ _ f2, rel_t h 0⟩
  rcases hB.2.1.2 with z | z
  · have z5 : gI σ 41 5 = 0 := hB.2.1.1.symm.trans z
    refine fin (-1) ?_ ?_
    · unfold R_G_leak; rw [if_pos z]
    · unfold F_M_leak; rw [gd_s1, if_pos (show gI (gs_I σ 41 0 0) 41 5 = 0 from z5)]
  · have z0 : ¬ gI σ 0 9 = 0 := by rw [z]; decide
    have z5 : ¬ gI σ 41 5 = 0 := by rw [← hB.2.1.1]; exact z0
    obtain ⟨hD, ⟨m, o, ks, ac, ar, mk, gc, gk, kk⟩, hSC, hSR⟩ := hl z
    have hct := mk.2.2
    rcases pk_ix a (n := m.2.2.2.2) (by omega) with c1 | c1 | ⟨r, hr, rfl⟩
    · refine fin (-1) ?_ ?_
      · unfold R_G_leak R_Leaks_pair; rw [if_neg z0, if_pos c1, gd_pl1]
      · unfold F_M_leak; rw [gd_s1, if_neg (show ¬ gI (gs_I σ 41 0 0) 41 5 = 0 from z5), if_pos c1]
    · refine fin (-1) ?_ ?_
      · unfold R_G_leak R_Leaks_pair; rw [if_neg z0, if_neg (gi_gp (by omega) c1), ac.2.2.2.1, if_pos c1, gd_pl1]
      · unfold F_M_leak; rw [gd_s1, if_neg (show ¬ gI (gs_I σ 41 0 0) 41 5 = 0 from z5), if_neg (gi_gp (by omega) c1), show gI (gs_I σ 41 0 0) 41 11 = nI m.2.2.2.2 from ar.2.2.2.1, if_neg (gi_nl c1)]
    · refine fin (m.2.2.2.1 r) ?_ ?_
      · unfold R_G_leak R_Leaks_pair; rw [if_neg z0, if_neg (nI_pos (by omega)), ac.2.2.2.1, if_neg (fun y => by have := (gi_le (by omega) (by omega)).mp y; omega), gd_gI (gi_in (by omega) (by omega)), gi_cl (by omega), ac.2.2.2.2 r hr, gd_pl1]
      · unfold F_M_leak; rw [gd_s1, if_neg (show ¬ gI (gs_I σ 41 0 0) 41 5 = 0 from z5), if_neg (nI_pos (by omega)), show gI (gs_I σ 41 0 0) 41 11 = nI m.2.2.2.2 from ar.2.2.2.1, if_pos ((gi_lt (by omega) (by omega)).mpr hr), gd_gI (gi_in (by omega) (by omega)), gi_cl (by omega), show gL (gs_I σ 41 0 0) 46 r = m.2.2.2.1 r from ar.2.2.2.2 r hr]
theorem ok_wordAt (X : List Int32) (a : Int32) (σ : gS) (h : rel X σ) : lc_l m_G_wordAt m_M_wordAt [.int a] X σ (rel X) := by
  obtain ⟨hX, n, ⟨hn, s7, s2, hw⟩, hB, hc, hl⟩ := id h
  have fin : ∀ v : Int64, R_G_wordAt a σ = some (.inl (some (.long v))) → F_M_wordAt a σ = some (.inl (some (.long v)), gs_I σ 41 0 0) → lc_l m_G_wordAt m_M_wordAt [.int a] X σ (rel X) := by
    intro v f1 f2
    exact ⟨v, _, _, X_G_wordAt a σ _ f1, hX, X_M_wordAt a σ _ f2, rel_t h 0⟩
  rcases pk_ix a (n := n) (by omega) with c1 | c1 | ⟨r, hr, rfl⟩
  · refine fin (-1) ?_ ?_
    · unfold R_G_wordAt R_G_hasWord; rw [if_pos c1, gd_pi1, if_pos rfl]
    · unfold F_M_wordAt; rw [gd_s1, if_pos c1]
  · refine fin (-1) ?_ ?_
    · unfold R_G_wordAt R_G_hasWord; rw [if_neg (gi_gp (by omega) c1), s7, if_pos c1, gd_pi1, if_pos rfl]
    · unfold F_M_wordAt; rw [gd_s1, if_neg (gi_gp (by omega) c1), show gI (gs_I σ 41 0 0) 41 2 = nI n from s2, if_neg (gi_nl c1)]
  · refine fin (Int32.toInt64 (gA σ 42 r) &&& 4294967295) ?_ ?_
    · unfold R_G_wordAt R_G_hasWord; rw [if_neg (nI_pos (by omega)), s7, if_neg (fun y => by have := (gi_le (by omega) (by omega)).mp y; omega), gd_pi1, if_neg (by decide), gd_gI (gi_in (by omega) (by omega)), gi_cl (by omega), hw r hr]
    · unfold F_M_wordAt; rw [gd_s1, if_neg (nI_pos (by omega)), show gI (gs_I σ 41 0 0) 41 2 = nI n from s2, if_pos ((gi_lt (by omega) (by omega)).mpr hr), gd_gI (gi_in (by omega) (by omega)), gi_cl (by omega)]
      rfl
theorem ok_faultAt (X : List Int32) (σ : gS) (h : rel X σ) : lc_i m_G_faultAt m_M_faultAt [] X σ (rel X) := by
  obtain ⟨hX, n, hA, hB, hc, hl⟩ := id h
  have e2 : F_M_faultAt σ = some (.inl (some (.int (gI σ 0 8))), gs_I σ 41 0 0) := by unfold F_M_faultAt; rw [gd_s1, hB.1]; rfl
  exact ⟨gI σ 0 8, _, _, X_G_faultAt σ _ rfl, hX, X_M_faultAt σ _ e2, rel_t h 0⟩
theorem ok_window (X : List Int32) (a : Int32) (σ : gS) (h : rel X σ) : lc_h m_L_window m_M_window [.int a] X σ (rel X) := by
  obtain ⟨hX, n, hA, hB, hc, hl⟩ := id h
  have thr : F_G_window a σ = some (.inr 3, σ) → F_M_window a σ = some (.inl (some (.int 0)), gs_I σ 41 0 1) → lc_h m_L_window m_M_window [.int a] X σ (rel X) := fun f1 f2 => ⟨1, 0, σ, _, ht_window_3 a (X_G_window a σ _ f1), hX, X_M_window a σ _ f2, rfl, fun y => absurd y (by decide), rel_t h 1⟩
  by_cases c1 : a < 1
  · refine thr ?_ ?_
    · unfold F_G_window; rw [if_pos c1]
    · unfold F_M_window; rw [gd_t1, if_pos c1]; rfl
  by_cases c2 : a ≤ 64
  · have e1 : F_G_window a σ = some (.inl (some (.int (gI σ 10 6))), gs_I σ 10 6 a) := by unfold F_G_window; rw [if_neg c1, if_pos c2]; rfl
    have e2 : ∀ v : Int64, F_M_window a (gs_L (gs_I σ 10 6 a) 66 0 v) = some (.inl (some (.int (gI σ 10 6))), gs_I (gs_I (gs_L (gs_I σ 10 6 a) 66 0 v) 41 0 0) 41 12 a) := by
      intro v
      unfold F_M_window
      rw [gd_t1, if_neg c1, if_pos c2, gd_s1, th0, if_pos (show (0 : Int32) ≤ 0 by decide), gd_s1, hB.2.2.2]
      rfl
    refine ⟨0, _, _, _, hr_window a _ (X_G_window a σ _ e1), hX, X_M_window a _ _ (e2 _), rfl, fun _ => rfl, hX, n, ?_⟩
    obtain ⟨b1, b2, b3, b4⟩ := hB
    refine ⟨hA, ⟨b1, b2, b3, rfl⟩, hc, fun z => ?_⟩
    obtain ⟨d1, d2, d3, d4⟩ := hl z
    exact ⟨d1, d2, d3, d4⟩
  · refine thr ?_ ?_
    · unfold F_G_window; rw [if_neg c1, if_neg c2]
    · unfold F_M_window; rw [gd_t1, if_neg c1, if_neg c2]; rfl
