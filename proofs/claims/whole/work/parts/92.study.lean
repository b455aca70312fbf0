def rN (n : Nat) (X : List Int32) (σ : gS) : Prop := σ.2.2.2 = X ∧ rA n σ ∧ rB n σ ∧ rCl (gA σ 42) n ∧ gI σ 0 9 = 1 ∧ rL n σ
theorem rN_rel {n : Nat} {X : List Int32} {σ : gS} (h : rN n X σ) : rel X σ := ⟨h.1, n, h.2.1, h.2.2.1, h.2.2.2.1, fun _ => h.2.2.2.2.2⟩
theorem rN_sc {n : Nat} {X : List Int32} {V : gW} {σ s : gS} (h : rN n X σ) (f : gd_fm V σ s) (h1 : fm_dis V [(0, 7), (41, 2)] [1, 42] [] = true) (h2 : fm_dis V [(0, 8), (41, 6), (0, 9), (41, 5), (0, 11), (41, 4), (10, 6), (41, 12)] [40, 43] [] = true) (h3 : fm_dis V [(2, 7)] [3, 4, 5, 6, 7, 8, 9, 42] [] = true) (h4 : fm_dis V [(10, 5), (13, 1), (41, 7), (41, 11), (15, 5), (15, 6), (15, 7), (41, 18), (41, 19)] [11, 12, 44, 45, 16, 17, 18, 19, 20, 47, 48, 49, 50, 51, 42] [14, 46] = true) (h6 : fm_dis V [(41, 20), (41, 27), (41, 26), (41, 6)] [52, 53, 54, 56, 42, 57] [] = true) (hS : rSC n s) : rN n X s := by
  obtain ⟨hX, a, b, c, z, d1, d2, d3, d4⟩ := h
  have e42 := sm_A (fm_sm f h1) (p := 42) rfl
  have e09 := sm_I (fm_sm f h2) (p := 0) (k := 9) rfl
  exact ⟨f.2.2.2.trans hX, rA_sm a (fm_sm f h1), rB_sm b (fm_sm f h2), by rw [e42]; exact c, e09.trans z, rD_sm d1 (fm_sm f h3), rM_sm d2 (fm_sm f h4), hS, rSR_sm d4 (fm_sm f h6)⟩
theorem rN_sr {n : Nat} {X : List Int32} {V : gW} {σ s : gS} (h : rN n X σ) (f : gd_fm V σ s) (h1 : fm_dis V [(0, 7), (41, 2)] [1, 42] [] = true) (h2 : fm_dis V [(0, 8), (41, 6), (0, 9), (41, 5), (0, 11), (41, 4), (10, 6), (41, 12)] [40, 43] [] = true) (h3 : fm_dis V [(2, 7)] [3, 4, 5, 6, 7, 8, 9, 42] [] = true) (h4 : fm_dis V [(10, 5), (13, 1), (41, 7), (41, 11), (15, 5), (15, 6), (15, 7), (41, 18), (41, 19)] [11, 12, 44, 45, 16, 17, 18, 19, 20, 47, 48, 49, 50, 51, 42] [14, 46] = true) (h5 : fm_dis V [(0, 10), (26, 10), (33, 8)] [27, 42, 23, 24] [22] = true) (hS : rSR n s) : rN n X s := by
  obtain ⟨hX, a, b, c, z, d1, d2, d3, d4⟩ := h
  have e42 := sm_A (fm_sm f h1) (p := 42) rfl
  have e09 := sm_I (fm_sm f h2) (p := 0) (k := 9) rfl
  exact ⟨f.2.2.2.trans hX, rA_sm a (fm_sm f h1), rB_sm b (fm_sm f h2), by rw [e42]; exact c, e09.trans z, rD_sm d1 (fm_sm f h3), rM_sm d2 (fm_sm f h4), rSC_sm d3 (fm_sm f h5), hS⟩
theorem rN_o {n : Nat} {X : List Int32} {σ : gS} (h : rN n X σ) (v : Int64) : rN n X (gs_L σ 66 0 v) := rN_sr (V := ([], [], [66])) h (gd_fmL (gd_fm0 _ _) rfl) rfl rfl rfl rfl rfl (rSR_sm (s := gs_L σ 66 0 v) h.2.2.2.2.2.2.2.2 (fm_sm (V := ([], [], [66])) (gd_fmL (gd_fm0 _ _) rfl) rfl))
theorem rN_t {n : Nat} {X : List Int32} {σ : gS} (h : rN n X σ) (v : Int32) : rN n X (gs_I σ 41 0 v) := rN_sr (V := ([(41, 0)], [], [])) h (gd_fmI (gd_fm0 _ _) rfl) rfl rfl rfl rfl rfl (rSR_sm (s := gs_I σ 41 0 v) h.2.2.2.2.2.2.2.2 (fm_sm (V := ([(41, 0)], [], [])) (gd_fmI (gd_fm0 _ _) rfl) rfl))
theorem sy_all {n : Nat} {X : List Int32} {σ : gS} (h : rN n X σ) : ∃ s, F_G_study σ = some (.inl none, s) ∧ gI s 0 10 = 1 ∧ rN n X s := by
  obtain ⟨hX, a, b, c, z, d1, d2, d3, d4⟩ := id h
  unfold F_G_study
  rcases d3.1.1 with h0 | h1
  · rw [if_pos h0]
    obtain ⟨s1, T, g1, g2, g3, g4, g5, g6, g7⟩ := sd_all (W := gA σ 42) rfl d1 d3.2
    have f1 := K_Taint_spread _ _ g1
    have w1 : gA s1 42 = gA σ 42 := fm_A f1 rfl
    have hk : ck (gA σ 42) n s1 T := ⟨w1, rD_sm d1 (fm_sm f1 rfl), g2, g3, g4, fun v hv q hq => by
      have := g7.1 v (sp_Tl hv) (g6 v ((g4 v).mpr hv)) q hq
      rwa [w1] at this, g5.2.1⟩
    obtain ⟨s2, k1, k2⟩ := cf_all hk g5
    have f2 := K_Cut_find _ _ k1
    have hR : rRC n s2 := rRC_of g7 (fm_L f2 rfl) (fm_A f2 rfl) (fm_A f2 rfl) (fm_A f2 rfl)
    have w2 : gA s2 42 = gA σ 42 := (fm_A f2 rfl).trans w1
    rw [g1, gd_01, k1, gd_01, gd_s1]
    refine ⟨_, rfl, rfl, rN_sc (V := W_G_study) h (gd_fmI (gd_fmT (gd_sbI rfl) (gd_fmT (gd_sbI rfl) (gd_fm0 _ _) f1) f2) rfl) rfl rfl rfl rfl rfl ⟨⟨Or.inr rfl, fun _ => ⟨fun p hp => ?_, ?_, ?_⟩⟩, hR⟩⟩
    · show gA s2 27 p = nI (sp_m (gA s2 42) n p)
      rw [w2]; exact k2.1 p hp
    · show gI s2 26 10 = nI (sp_n (sp_X (gA s2 42) n) n)
      rw [w2, fm_I f2 (p := 26) (k := 10) rfl]; exact g5.2.2
    · show gI s2 33 8 = nI (sp_n (sp_C (gA s2 42) n) n)
      rw [w2]; exact k2.2
  · rw [if_neg (fun z => absurd (z.symm.trans h1) (by decide))]
    exact ⟨σ, rfl, h1, h⟩
theorem kn_N {n : Nat} {X : List Int32} {σ : gS} (h : rN n X σ) : ∃ s, F_M_know σ = some (.inl none, s) ∧ gI s 41 20 = 1 ∧ rN n X s := by
  obtain ⟨hX, a, b, c, z, d1, d2, d3, d4⟩ := id h
  obtain ⟨s, g1, g2, g3⟩ := kn_all (W := gA σ 42) rfl d1.2.2.1 a.1 a.2.2.1 d4
  exact ⟨s, g1, g2, rN_sr h (K_M_know _ _ g1) rfl rfl rfl rfl rfl g3⟩
theorem tr_N {n v : Nat} {X : List Int32} {σ : gS} (h : rN n X σ) (hv : v < n) : ∃ s, F_Reach_trace (nI v) σ = some (.inl none, s) ∧ ¬ gA s 23 v = 0 ∧ rN n X s := by
  obtain ⟨hX, a, b, c, z, d1, d2, d3, d4⟩ := id h
  obtain ⟨s, g1, g2, g3, g4⟩ := tr_all d1 (show rRC n σ from d3.2) hv
  have f := K_Reach_trace _ _ _ g1
  refine ⟨s, g1, g3, rN_sc h f rfl rfl rfl rfl rfl ⟨?_, g2⟩⟩
  rw [fm_I f (p := 0) (k := 10) rfl, fm_I f (p := 26) (k := 10) rfl, fm_I f (p := 33) (k := 8) rfl, fm_A f (p := 27) rfl, fm_A f (p := 42) rfl]
  exact d3.1
theorem bq_1 : ∀ i, i < 64 → bq (1 : Int64) i = decide (i = 0) := by decide
theorem hs_c {v q : Nat} (hv : v < 1040) (hq : q < 1040) (σ : gS) : R_Reach_has (nI v) (nI q) σ = some (.inl (some (.int (if lbt (gL σ 22) v q = true then 1 else 0)))) := by
  unfold R_Reach_has
  rw [m17, l6 (show q ≤ 100000 by omega), l63 (show q ≤ 100000 by omega), nI_add, gd_gI (gi_in (show 17 * v + q / 64 < 17680 by omega) (by omega : 17680 ≤ 100000)), gi_cl (show 17 * v + q / 64 ≤ 100000 by omega)]
  have key : (((Int64.toUInt64 (gL σ 22 (17 * v + q / 64)) >>> ((Int32.toInt64 (nI (q % 64))).toUInt64 &&& Int64.toUInt64 63)).toInt64) &&& (1 : Int64)) = 0 ↔ ¬ lbt (gL σ 22) v q = true := by
    rw [bq_z]
    constructor
    · intro z y
      have := z 0 (by omega)
      rw [bq_and, bq_ushr (Nat.mod_lt _ (by omega)), bq_1 0 (by omega), Nat.add_zero] at this
      unfold lbt at y
      rw [y] at this
      cases this
    · intro z i hi
      rw [bq_and, bq_ushr (Nat.mod_lt _ (by omega)), bq_1 i hi]
      by_cases e : i = 0
      · rw [e, Nat.add_zero]
        have : bq (gL σ 22 (17 * v + q / 64)) (q % 64) = false := by
          unfold lbt at z
          exact Bool.eq_false_iff.mpr z
        rw [this, Bool.false_and]
      · rw [decide_eq_false e, Bool.and_false]
  by_cases c : lbt (gL σ 22) v q = true
  · rw [if_neg (fun z => key.mp ((lcmp _).mp z) c), if_pos c]
  · rw [if_pos ((lcmp _).mpr (key.mpr c)), if_neg c]
theorem rel_N {X : List Int32} {σ : gS} (h : rel X σ) (z : gI σ 0 9 = 1) : ∃ n, rN n X σ := by
  obtain ⟨hX, n, a, b, c, l⟩ := h
  exact ⟨n, hX, a, b, c, z, l z⟩
theorem rel_01 {X : List Int32} {σ : gS} (h : rel X σ) : (gI σ 0 9 = 0 ∧ gI σ 41 5 = 0) ∨ (gI σ 0 9 = 1 ∧ gI σ 41 5 = 1) := by
  obtain ⟨hX, n, hA, hB, hc, hl⟩ := h
  rcases hB.2.1.2 with z | z
  · exact Or.inl ⟨z, hB.2.1.1.symm.trans z⟩
  · exact Or.inr ⟨z, hB.2.1.1.symm.trans z⟩
theorem ok_check (X : List Int32) (σ : gS) (h : rel X σ) : lc_h m_L_check m_M_check [] X σ (rel X) := by
  rcases rel_01 h with ⟨z, z5⟩ | ⟨z, z5⟩
  · have e1 : F_G_check σ = some (.inr 1, σ) := by unfold F_G_check R_G_needLoaded; rw [if_pos z]; rfl
    have e2 : F_M_check σ = some (.inl (some (.int 0)), gs_I σ 41 0 1) := by unfold F_M_check; rw [gd_t1, if_pos z5]; rfl
    exact ⟨1, 0, σ, _, ht_check_1 (X_G_check σ _ e1), h.1, X_M_check σ _ e2, rfl, fun y => absurd y (by decide), rel_t h 1⟩
  · obtain ⟨n, hN⟩ := rel_N h z
    obtain ⟨s1, g1, g2, g3⟩ := sy_all hN
    have e1 : F_G_check σ = some (.inl (some (.int (gI s1 26 10))), s1) := by
      unfold F_G_check R_G_needLoaded; rw [if_neg (by rw [z]; decide), gd_q01, g1, gd_01]
    have hv := (g3.2.2.2.2.2.2.2.1.1.2 g2).2.1
    have hN2 := rN_t (rN_o g3 (gI s1 26 10).toInt64) 0
    obtain ⟨s2, k1, k2, k3⟩ := kn_N hN2
    have f2 := K_M_know _ _ k1
    have z52 : ¬ gI (gs_L s1 66 0 (gI s1 26 10).toInt64) 41 5 = 0 := by
      rw [show gI (gs_L s1 66 0 (gI s1 26 10).toInt64) 41 5 = gI s1 41 5 from rfl, ← g3.2.2.1.2.1.1, g3.2.2.2.2.1]; decide
    have hr : gI s2 41 27 = gI s1 26 10 := by
      rw [((k3.2.2.2.2.2.2.2.2).2 k2).2.1, hv, fm_A f2 (p := 42) rfl]; rfl
    have e2 : F_M_check (gs_L s1 66 0 (gI s1 26 10).toInt64) = some (.inl (some (.int (gI s1 26 10))), s2) := by
      unfold F_M_check; rw [gd_t1, if_neg z52, gd_s1, th0, if_pos (show (0 : Int32) ≤ 0 by decide), k1, gd_01, hr]
    exact ⟨0, _, _, _, hr_check _ (X_G_check σ _ e1), g3.1, X_M_check _ _ e2, fm_I f2 (p := 41) (k := 0) rfl, fun _ => (congrFun (fm_L f2 (p := 66) rfl) 0), rN_rel k3⟩
theorem ok_cut (X : List Int32) (σ : gS) (h : rel X σ) : lc_h m_L_cut m_M_cut [] X σ (rel X) := by
  rcases rel_01 h with ⟨z, z5⟩ | ⟨z, z5⟩
  · have e1 : F_G_cut σ = some (.inr 1, σ) := by unfold F_G_cut R_G_needLoaded; rw [if_pos z]; rfl
    have e2 : F_M_cut σ = some (.inl (some (.int 0)), gs_I σ 41 0 1) := by unfold F_M_cut; rw [gd_t1, if_pos z5]; rfl
    exact ⟨1, 0, σ, _, ht_cut_1 (X_G_cut σ _ e1), h.1, X_M_cut σ _ e2, rfl, fun y => absurd y (by decide), rel_t h 1⟩
  · obtain ⟨n, hN⟩ := rel_N h z
    obtain ⟨s1, g1, g2, g3⟩ := sy_all hN
    have e1 : F_G_cut σ = some (.inl (some (.int (gI s1 33 8))), s1) := by
      unfold F_G_cut R_G_needLoaded; rw [if_neg (by rw [z]; decide), gd_q01, g1, gd_01]
    have hv := (g3.2.2.2.2.2.2.2.1.1.2 g2).2.2
    have hN2 := rN_t (rN_o g3 (gI s1 33 8).toInt64) 0
    obtain ⟨s2, k1, k2, k3⟩ := kn_N hN2
    have f2 := K_M_know _ _ k1
    have z52 : ¬ gI (gs_L s1 66 0 (gI s1 33 8).toInt64) 41 5 = 0 := by
      rw [show gI (gs_L s1 66 0 (gI s1 33 8).toInt64) 41 5 = gI s1 41 5 from rfl, ← g3.2.2.1.2.1.1, g3.2.2.2.2.1]; decide
    have hr : gI s2 41 26 = gI s1 33 8 := by
      rw [((k3.2.2.2.2.2.2.2.2).2 k2).2.2.1, hv, fm_A f2 (p := 42) rfl]; rfl
    have e2 : F_M_cut (gs_L s1 66 0 (gI s1 33 8).toInt64) = some (.inl (some (.int (gI s1 33 8))), s2) := by
      unfold F_M_cut; rw [gd_t1, if_neg z52, gd_s1, th0, if_pos (show (0 : Int32) ≤ 0 by decide), k1, gd_01, hr]
    exact ⟨0, _, _, _, hr_cut _ (X_G_cut σ _ e1), g3.1, X_M_cut _ _ e2, fm_I f2 (p := 41) (k := 0) rfl, fun _ => (congrFun (fm_L f2 (p := 66) rfl) 0), rN_rel k3⟩
theorem nw_n {n : Nat} {σ : gS} {a : Int32} (hn : n ≤ 1040) (s7 : gI σ 0 7 = nI n) (s2 : gI σ 41 2 = nI n) (h : a < 0 ∨ nI n ≤ a) : R_G_needWord a σ = some (.inr 2) ∧ R_M_isAt a σ = some (.inl (some (.int 0))) := by
  unfold R_G_needWord R_G_hasWord R_M_isAt
  by_cases c : a < 0
  · rw [if_pos c, if_pos c]; exact ⟨rfl, rfl⟩
  · have c1 := h.resolve_left c
    rw [if_neg c, if_neg c, s7, s2, if_pos c1]; exact ⟨rfl, rfl⟩
theorem nw_y {n p : Nat} {σ : gS} (hn : n ≤ 1040) (s7 : gI σ 0 7 = nI n) (hp : p < n) : R_G_needWord (nI p) σ = some (.inl none) := by
  unfold R_G_needWord R_G_hasWord
  rw [if_neg (nI_pos (by omega)), s7, if_neg (fun y => by have := (gi_le (by omega) (by omega)).mp y; omega)]; rfl
theorem ia_y {n p : Nat} {σ : gS} (hn : n ≤ 1040) (s2 : gI σ 41 2 = nI n) (hp : p < n) : R_M_isAt (nI p) σ = some (.inl (some (.int 1))) := by
  unfold R_M_isAt
  rw [if_neg (nI_pos (by omega)), s2, if_neg (fun y => by have := (gi_le (by omega) (by omega)).mp y; omega)]
theorem nw_c {n : Nat} (hn : n ≤ 1040) (a : Int32) : (a < 0 ∨ nI n ≤ a) ∨ ∃ p, p < n ∧ a = nI p := by
  rcases pk_ix a (n := n) (by omega) with c1 | c1 | ⟨p, hp, e⟩
  · exact Or.inl (Or.inl c1)
  · exact Or.inl (Or.inr c1)
  · exact Or.inr ⟨p, hp, e⟩
theorem ok_mark (X : List Int32) (a : Int32) (σ : gS) (h : rel X σ) : lc_h m_L_mark m_M_mark [.int a] X σ (rel X) := by
  rcases rel_01 h with ⟨z, z5⟩ | ⟨z, z5⟩
  · have e1 : F_G_mark a σ = some (.inr 1, σ) := by unfold F_G_mark R_G_needLoaded; rw [if_pos z]; rfl
    have e2 : F_M_mark a σ = some (.inl (some (.int 0)), gs_I σ 41 0 1) := by unfold F_M_mark; rw [gd_j1, if_pos z5]; rfl
    exact ⟨1, 0, σ, _, ht_mark_1 a (X_G_mark a σ _ e1), h.1, X_M_mark a σ _ e2, rfl, fun y => absurd y (by decide), rel_t h 1⟩
  · obtain ⟨n, hN⟩ := rel_N h z
    have hn := hN.2.1.1
    have z0 : ¬ gI σ 0 9 = 0 := by rw [z]; decide
    have z50 : ¬ gI σ 41 5 = 0 := by rw [z5]; decide
    rcases nw_c hn a with c | ⟨p, hp, rfl⟩
    · obtain ⟨n1, n2⟩ := nw_n hn hN.2.1.2.1 hN.2.1.2.2.1 c
      have e1 : F_G_mark a σ = some (.inr 2, σ) := by unfold F_G_mark R_G_needLoaded; rw [if_neg z0, gd_q01, n1, gd_q02]
      have e2 : F_M_mark a σ = some (.inl (some (.int 0)), gs_I σ 41 0 2) := by unfold F_M_mark; rw [gd_j1, if_neg z50, n2, gd_qi1]; rfl
      exact ⟨2, 0, σ, _, ht_mark_2 a (X_G_mark a σ _ e1), h.1, X_M_mark a σ _ e2, rfl, fun y => absurd y (by decide), rel_t h 2⟩
    · obtain ⟨s1, g1, g2, g3⟩ := sy_all hN
      have e1 : F_G_mark (nI p) σ = some (.inl (some (.int (gA s1 27 p))), s1) := by
        unfold F_G_mark R_G_needLoaded
        rw [if_neg z0, gd_q01, nw_y hn hN.2.1.2.1 hp, gd_q01, g1, gd_01, gd_gI (gi_in (show p < 1040 by omega) (by omega : 1040 ≤ 100000)), gi_cl (show p ≤ 100000 by omega)]
      have hv := (g3.2.2.2.2.2.2.2.1.1.2 g2).1 p hp
      have hN2 := rN_t (rN_o g3 (gA s1 27 p).toInt64) 0
      obtain ⟨s2, k1, k2, k3⟩ := kn_N hN2
      have f2 := K_M_know _ _ k1
      have z52 : ¬ gI (gs_L s1 66 0 (gA s1 27 p).toInt64) 41 5 = 0 := by
        rw [show gI (gs_L s1 66 0 (gA s1 27 p).toInt64) 41 5 = gI s1 41 5 from rfl, ← g3.2.2.1.2.1.1, g3.2.2.2.2.1]; decide
      obtain ⟨r1, r2, r3, r4⟩ := ((k3.2.2.2.2.2.2.2.2).2 k2).1 p hp
      have w : gA s2 42 = gA s1 42 := (fm_A f2 (p := 42) rfl).trans rfl
      have sum : ∀ A B C D : Prop, (((if nI (sp_i A) = 0 then (0 : Int32) else 1) + (if nI (sp_i B) = 0 then 0 else 2)) + (if nI (sp_i C) = 0 then 0 else 4)) + (if nI (sp_i D) = 0 then 0 else 8) = nI (sp_i A + 2 * sp_i B + 4 * sp_i C + 8 * sp_i D) := by
        intro A B C D
        rcases sp_i01 A with a | a <;> rcases sp_i01 B with b | b <;> rcases sp_i01 C with c | c <;> rcases sp_i01 D with d | d <;> rw [a, b, c, d] <;> decide
      have e2 : F_M_mark (nI p) (gs_L s1 66 0 (gA s1 27 p).toInt64) = some (.inl (some (.int (gA s1 27 p))), s2) := by
        unfold F_M_mark
        rw [gd_j1, if_neg z52, ia_y hn (show gI (gs_L s1 66 0 (gA s1 27 p).toInt64) 41 2 = nI n from g3.2.1.2.2.1) hp, gd_qi1, if_neg (show ¬ (1 : Int32) = 0 by decide)]
        dsimp only
        rw [gd_s1, th0, if_pos (show (0 : Int32) ≤ 0 by decide), k1, gd_01]
        simp only [gd_gI (gi_in (show p < 1040 by omega) (by omega : 1040 ≤ 100000)), gi_cl (show p ≤ 100000 by omega), gd_t1, r1, r2, r3, r4]
        rw [sum, hv, w]; rfl
      exact ⟨0, _, _, _, hr_mark (nI p) _ (X_G_mark (nI p) σ _ e1), g3.1, X_M_mark (nI p) _ _ e2, fm_I f2 (p := 41) (k := 0) rfl, fun _ => (congrFun (fm_L f2 (p := 66) rfl) 0), rN_rel k3⟩
theorem ok_reaches (X : List Int32) (a b : Int32) (σ : gS) (h : rel X σ) : lc_z m_L_reaches m_M_reaches [.int a, .int b] X σ (rel X) := by
  rcases rel_01 h with ⟨z, z5⟩ | ⟨z, z5⟩
  · have e1 : F_G_reaches a b σ = some (.inr 1, σ) := by unfold F_G_reaches R_G_needLoaded; rw [if_pos z]; rfl
    have e2 : F_M_reaches a b σ = some (.inl (some (.int 0)), gs_I σ 41 0 1) := by unfold F_M_reaches; rw [gd_j1, if_pos z5]; rfl
    exact ⟨1, 0, σ, _, ht_reaches_1 a b (X_G_reaches a b σ _ e1), h.1, X_M_reaches a b σ _ e2, rfl, fun y => absurd y (by decide), rel_t h 1⟩
  · obtain ⟨n, hN⟩ := rel_N h z
    have hn := hN.2.1.1
    have z0 : ¬ gI σ 0 9 = 0 := by rw [z]; decide
    have z50 : ¬ gI σ 41 5 = 0 := by rw [z5]; decide
    rcases nw_c hn a with c | ⟨p, hp, rfl⟩
    · obtain ⟨n1, n2⟩ := nw_n hn hN.2.1.2.1 hN.2.1.2.2.1 c
      have e1 : F_G_reaches a b σ = some (.inr 2, σ) := by unfold F_G_reaches R_G_needLoaded; rw [if_neg z0, gd_q01, n1, gd_q02]
      have e2 : F_M_reaches a b σ = some (.inl (some (.int 0)), gs_I σ 41 0 2) := by unfold F_M_reaches; rw [gd_j1, if_neg z50, n2, gd_qi1]; rfl
      exact ⟨2, 0, σ, _, ht_reaches_2 a b (X_G_reaches a b σ _ e1), h.1, X_M_reaches a b σ _ e2, rfl, fun y => absurd y (by decide), rel_t h 2⟩
    · have y1 := nw_y hn hN.2.1.2.1 hp
      have y2 := ia_y hn hN.2.1.2.2.1 hp
      rcases nw_c hn b with c | ⟨q, hq, rfl⟩
      · obtain ⟨n1, n2⟩ := nw_n hn hN.2.1.2.1 hN.2.1.2.2.1 c
        have e1 : F_G_reaches (nI p) b σ = some (.inr 2, σ) := by unfold F_G_reaches R_G_needLoaded; rw [if_neg z0, gd_q01, y1, gd_q01, n1, gd_q02]
        have e2 : F_M_reaches (nI p) b σ = some (.inl (some (.int 0)), gs_I σ 41 0 2) := by unfold F_M_reaches; rw [gd_j1, if_neg z50, y2, gd_qi1, if_neg (show ¬ (1 : Int32) = 0 by decide), n2, gd_qi1]; rfl
        exact ⟨2, 0, σ, _, ht_reaches_2 (nI p) b (X_G_reaches (nI p) b σ _ e1), h.1, X_M_reaches (nI p) b σ _ e2, rfl, fun y => absurd y (by decide), rel_t h 2⟩
      · obtain ⟨s1, g1, g2, g3⟩ := tr_N hN hp
        have hv := g3.2.2.2.2.2.2.2.1.2.1 p hp g2 q hq
        have e1 : F_G_reaches (nI p) (nI q) σ = some (.inl (some (.int (if lbt (gL s1 22) p q = true then 1 else 0))), s1) := by
          unfold F_G_reaches R_G_needLoaded
          rw [if_neg z0, gd_q01, y1, gd_q01, nw_y hn hN.2.1.2.1 hq, gd_q01, g1, gd_01, hs_c (by omega) (by omega), gd_qi1, gd_gI]
          by_cases c : lbt (gL s1 22) p q = true
          · rw [if_pos c]; exact Or.inr rfl
          · rw [if_neg c]; exact Or.inl rfl
        generalize hval : (if lbt (gL s1 22) p q = true then (1 : Int32) else 0) = val at e1
        have hN2 := rN_t (rN_o g3 (if val = 0 then 0 else 1)) 0
        obtain ⟨s2, k1, k2, k3⟩ := kn_N hN2
        have f2 := K_M_know _ _ k1
        have z52 : ¬ gI (gs_L s1 66 0 (if val = 0 then 0 else 1)) 41 5 = 0 := by
          rw [show gI (gs_L s1 66 0 (if val = 0 then 0 else 1)) 41 5 = gI s1 41 5 from rfl, ← g3.2.2.1.2.1.1, g3.2.2.2.2.1]; decide
        have w : gA s2 42 = gA s1 42 := (fm_A f2 (p := 42) rfl).trans rfl
        have r4 := ((k3.2.2.2.2.2.2.2.2).2 k2).2.2.2 p hp q hq
        rw [w] at r4
        have same : (if rbt (gA s2 57) p q = true then (1 : Int32) else 0) = val := by
          rw [← hval]
          by_cases c : sp_c (gA s1 42) n p q
          · rw [if_pos (show rbt (gA s2 57) p q = true from r4.mpr c), if_pos (show lbt (gL s1 22) p q = true from hv.mpr c)]
          · rw [if_neg (show ¬ rbt (gA s2 57) p q = true from fun y => c (r4.mp y)), if_neg (show ¬ lbt (gL s1 22) p q = true from fun y => c (hv.mp y))]
        have v01 : val = 0 ∨ val = 1 := by
          rw [← hval]
          by_cases c : lbt (gL s1 22) p q = true
          · rw [if_pos c]; exact Or.inr rfl
          · rw [if_neg c]; exact Or.inl rfl
        have e2 : F_M_reaches (nI p) (nI q) (gs_L s1 66 0 (if val = 0 then 0 else 1)) = some (.inl (some (.int val)), s2) := by
          unfold F_M_reaches
          rw [gd_j1, if_neg z52, ia_y hn (show gI (gs_L s1 66 0 (if val = 0 then 0 else 1)) 41 2 = nI n from g3.2.1.2.2.1) hp, gd_qi1, if_neg (show ¬ (1 : Int32) = 0 by decide), ia_y hn (show gI (gs_L s1 66 0 (if val = 0 then 0 else 1)) 41 2 = nI n from g3.2.1.2.2.1) hq, gd_qi1, if_neg (show ¬ (1 : Int32) = 0 by decide)]
          dsimp only
          rw [gd_s1, th0, if_pos (show (0 : Int32) ≤ 0 by decide), k1, gd_01, hs_57 (by omega) (by omega), same, gd_qi1, gd_gI v01]
        exact ⟨0, _, _, _, hr_reaches (nI p) (nI q) _ (X_G_reaches (nI p) (nI q) σ _ e1), g3.1, X_M_reaches (nI p) (nI q) _ _ e2, fm_I f2 (p := 41) (k := 0) rfl, fun _ => (congrFun (fm_L f2 (p := 66) rfl) 0), rN_rel k3⟩
