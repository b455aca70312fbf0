theorem fm_2 {V1 V2 : gW} {σ s t : gS} (h1 : gd_fm V1 σ s) (h2 : gd_fm V2 s t) : gd_fm (V1.1 ++ V2.1, V1.2.1 ++ V2.2.1, V1.2.2 ++ V2.2.2) σ t :=
  gd_fmT ⟨fun x hx => List.mem_append_right _ hx, fun x hx => List.mem_append_right _ hx, fun x hx => List.mem_append_right _ hx⟩ (gd_fmT ⟨fun x hx => List.mem_append_left _ hx, fun x hx => List.mem_append_left _ hx, fun x hx => List.mem_append_left _ hx⟩ (gd_fm0 _ _) h1) h2
theorem rel_m {X : List Int32} {n : Nat} {V : gW} {σ s : gS} (hX : σ.2.2.2 = X) (a : rA n σ) (b : rB n σ) (c : rCl (gA σ 42) n) (d : rD n σ) (sc : rSC n σ) (sr : rSR n σ) (f : gd_fm V σ s) (h1 : fm_dis V [(0, 7), (41, 2)] [1, 42] [] = true) (h2 : fm_dis V [(0, 8), (41, 6), (0, 9), (41, 5), (0, 11), (41, 4), (10, 6), (41, 12)] [40, 43] [] = true) (h3 : fm_dis V [(2, 7)] [3, 4, 5, 6, 7, 8, 9, 42] [] = true) (h5 : fm_dis V [(0, 10), (26, 10), (33, 8)] [27, 42, 23, 24] [22] = true) (h6 : fm_dis V [(41, 20), (41, 27), (41, 26), (41, 6)] [52, 53, 54, 56, 42, 57] [] = true) (hM : rM n s) : rel X s := by
  have e42 := sm_A (fm_sm f h1) (p := 42) rfl
  exact ⟨f.2.2.2.trans hX, n, rA_sm a (fm_sm f h1), rB_sm b (fm_sm f h2), by rw [e42]; exact c, fun _ => ⟨rD_sm d (fm_sm f h3), hM, rSC_sm sc (fm_sm f h5), rSR_sm sr (fm_sm f h6)⟩⟩
theorem rM_mk {n : Nat} {W : Nat → Int32} {s : gS} {m : mS} {o : Nat} {ks : List kE} (ac : aC s m) (ar : aR s m) (mk : mc_ok n m) (gc : gC W s o ks) (gk : gK s ks) (kk : ke_ok W n ks) (hW : gA s 42 = W) : rM n s := by
  subst hW
  exact ⟨m, o, ks, ac, ar, mk, gc, gk, kk⟩
theorem fm_66 (σ : gS) (v : Int64) : gd_fm ([], [], [66]) σ (gs_L σ 66 0 v) := gd_fmL (gd_fm0 _ _) rfl
theorem op_nil {W : Nat → Int32} {σ : gS} {o : Nat} {ks : List kE} (gc : gC W σ o ks) (gk : gK σ ks) : (gI σ 15 6 ≤ 0 ↔ ks = []) ∧ (gI σ 41 18 ≤ 0 ↔ ks = []) := by
  rw [gc.2.1.2, gk.2.1]
  have hl := gk.1
  have e : nI ks.length ≤ 0 ↔ ks = [] := by
    rw [show (0 : Int32) = nI 0 from rfl, gi_le (by omega) (by omega)]
    constructor
    · intro z; exact List.eq_nil_of_length_eq_zero (by omega)
    · intro z; rw [z]; exact Nat.le_refl 0
  exact ⟨e, e⟩
theorem ok_set (X : List Int32) (a b : Int32) (σ : gS) (h : rel X σ) : lc_v m_L_set m_M_set [.int a, .int b] X σ (rel X) := by
  obtain ⟨hX, n, hA, hB, hc, hl⟩ := id h
  rcases hB.2.1.2 with z | z
  · have z5 : gI σ 41 5 = 0 := hB.2.1.1.symm.trans z
    have e1 : F_G_set a b σ = some (.inr 1, σ) := by unfold F_G_set R_G_needLoaded; rw [if_pos z]; rfl
    have e2 : F_M_set a b σ = some (.inl none, gs_I σ 41 0 1) := by unfold F_M_set; rw [gd_t1, if_pos z5]; rfl
    exact ⟨1, σ, _, ht_set_1 a b (X_G_set a b σ _ e1), hX, X_M_set a b σ _ e2, rfl, rel_t h 1⟩
  · have z0 : ¬ gI σ 0 9 = 0 := by rw [z]; decide
    have z5 : ¬ gI σ 41 5 = 0 := by rw [← hB.2.1.1]; exact z0
    obtain ⟨hD, ⟨m, o, ks, ac, ar, mk, gc, gk, kk⟩, hSC, hSR⟩ := hl z
    have hnil := op_nil gc gk
    by_cases ck : ks = []
    · have k1 := hnil.1.mpr ck
      have k2 := hnil.2.mpr ck
      have nd : ∀ x : gR, (gd_q0 (R_G_needLoaded σ) σ <| gd_q0 (R_G_needAllResolved σ) σ <| x) = x := by
        intro x; unfold R_G_needLoaded R_G_needAllResolved; rw [if_neg z0, if_pos k1]; rfl
      by_cases c1 : a < 1
      · have e1 : F_G_set a b σ = some (.inr 3, σ) := by unfold F_G_set; rw [nd, if_pos c1]
        have e2 : F_M_set a b σ = some (.inl none, gs_I σ 41 0 2) := by unfold F_M_set; rw [gd_t1, if_neg z5, if_pos k2, if_pos c1]; rfl
        exact ⟨2, σ, _, ht_set_3 a b (X_G_set a b σ _ e1), hX, X_M_set a b σ _ e2, rfl, rel_t h 2⟩
      rcases pk_ix a (n := 32) (by omega) with c2 | c2 | ⟨r, hr, rfl⟩
      · exact absurd (Int32.lt_of_lt_of_le c2 (by decide)) c1
      · have e1 : F_G_set a b σ = some (.inr 3, σ) := by unfold F_G_set; rw [nd, if_neg c1, if_neg (show ¬ a < 32 from gi_nl c2)]
        have e2 : F_M_set a b σ = some (.inl none, gs_I σ 41 0 2) := by unfold F_M_set; rw [gd_t1, if_neg z5, if_pos k2, if_neg c1, if_neg (show ¬ a ≤ 31 from gi_ge (k := 31) (by omega) c2)]; rfl
        exact ⟨2, σ, _, ht_set_3 a b (X_G_set a b σ _ e1), hX, X_M_set a b σ _ e2, rfl, rel_t h 2⟩
      · have r0 : ¬ r = 0 := by
          intro y; subst y; exact c1 (by decide)
        obtain ⟨p1, p2⟩ := st_cput ac (show r ≤ 31 by omega) b
        have e1 : F_G_set (nI r) b σ = some (.inl none, st_cPut σ r b) := by
          unfold F_G_set
          rw [nd, if_neg c1, if_pos (show nI r < 32 from (gi_lt (b := 32) (by omega) (by omega)).mpr hr), p1, gd_01]
        have f1 := K_G_set (nI r) b σ _ e1
        have z5' : ¬ gI (st_cPut σ r b) 41 5 = 0 := by rw [fm_I f1 rfl]; exact z5
        have k2' : gI (st_cPut σ r b) 41 18 ≤ 0 := by rw [fm_I f1 rfl]; exact k2
        have e2 : F_M_set (nI r) b (st_cPut σ r b) = some (.inl none, gs_A (gs_I (st_cPut σ r b) 41 0 0) 44 r b) := by
          unfold F_M_set
          rw [gd_t1, if_neg z5', if_pos k2', if_neg c1, if_pos (show nI r ≤ 31 from (gi_le (b := 31) (by omega) (by omega)).mpr (by omega)), gd_s1, th0, if_pos (show (0 : Int32) = 0 from rfl), gd_gI (gi_in hr (by omega)), gi_cl (by omega)]
          rfl
        have f2 := K_M_set (nI r) b _ _ e2
        have f := fm_2 f1 f2
        refine ⟨0, _, _, hr_set (nI r) b (X_G_set (nI r) b σ _ e1), f1.2.2.2.trans hX, X_M_set (nI r) b _ _ e2, rfl, rel_m hX hA hB hc hD hSC hSR f rfl rfl rfl rfl rfl (rM_mk (W := gA σ 42) (m := mc_set m r b) (o := o) (ks := ks) ?_ ?_ ⟨mk.1, mc_set0 mk.2.1, mk.2.2⟩ (gC_sm gc (fm_sm f rfl)) (gK_sm gk (fm_sm f rfl)) kk (fm_A f rfl))⟩
        · exact aC_sm p2 (fm_sm f2 rfl)
        · have ar1 := aR_sm ar (fm_sm f1 rfl)
          refine ⟨ar1.1, fun i hi => ?_, ar1.2.2.1, ar1.2.2.2.1, ar1.2.2.2.2⟩
          show gA (gs_A (gs_I (st_cPut σ r b) 41 0 0) 44 r b) 44 i = if i = r ∧ ¬ r = 0 then b else m.2.1 i
          rw [gA_A, if_pos rfl]
          by_cases y : i = r
          · rw [if_pos y, if_pos ⟨y, r0⟩]
          · rw [if_neg y, if_neg (fun w => y w.1)]
            exact ar1.2.1 i hi
    · have k1 : ¬ gI σ 15 6 ≤ 0 := fun y => ck (hnil.1.mp y)
      have k2 : ¬ gI σ 41 18 ≤ 0 := fun y => ck (hnil.2.mp y)
      have e1 : F_G_set a b σ = some (.inr 1, σ) := by unfold F_G_set R_G_needLoaded R_G_needAllResolved; rw [if_neg z0, if_neg k1]; rfl
      have e2 : F_M_set a b σ = some (.inl none, gs_I σ 41 0 1) := by unfold F_M_set; rw [gd_t1, if_neg z5, if_neg k2]; rfl
      exact ⟨1, σ, _, ht_set_1 a b (X_G_set a b σ _ e1), hX, X_M_set a b σ _ e2, rfl, rel_t h 1⟩
theorem ok_poke (X : List Int32) (a b : Int32) (σ : gS) (h : rel X σ) : lc_v m_L_poke m_M_poke [.int a, .int b] X σ (rel X) := by
  obtain ⟨hX, n, hA, hB, hc, hl⟩ := id h
  rcases hB.2.1.2 with z | z
  · have z5 : gI σ 41 5 = 0 := hB.2.1.1.symm.trans z
    have e1 : F_G_poke a b σ = some (.inr 1, σ) := by unfold F_G_poke R_G_needLoaded; rw [if_pos z]; rfl
    have e2 : F_M_poke a b σ = some (.inl none, gs_I σ 41 0 1) := by unfold F_M_poke; rw [gd_t1, if_pos z5]; rfl
    exact ⟨1, σ, _, ht_poke_1 a b (X_G_poke a b σ _ e1), hX, X_M_poke a b σ _ e2, rfl, rel_t h 1⟩
  · have z0 : ¬ gI σ 0 9 = 0 := by rw [z]; decide
    have z5 : ¬ gI σ 41 5 = 0 := by rw [← hB.2.1.1]; exact z0
    obtain ⟨hD, ⟨m, o, ks, ac, ar, mk, gc, gk, kk⟩, hSC, hSR⟩ := hl z
    have hnil := op_nil gc gk
    by_cases ck : ks = []
    · have k1 := hnil.1.mpr ck
      have k2 := hnil.2.mpr ck
      have nd : ∀ x : gR, (gd_q0 (R_G_needLoaded σ) σ <| gd_q0 (R_G_needAllResolved σ) σ <| x) = x := by
        intro x; unfold R_G_needLoaded R_G_needAllResolved; rw [if_neg z0, if_pos k1]; rfl
      have hb4 : mc_b 4 := Or.inr (Or.inr rfl)
      have p2 := st_cmem ac hb4 a b
      have e1 : F_G_poke a b σ = some (.inl none, st_cMem σ a 4 b) := by
        unfold F_G_poke
        rw [nd, show F_Machine_write a 4 b σ = _ from mc_writeC hb4 a b σ, gd_01]
        rfl
      have f1 := K_G_poke a b σ _ e1
      have z5' : ¬ gI (st_cMem σ a 4 b) 41 5 = 0 := z5
      have k2' : gI (st_cMem σ a 4 b) 41 18 ≤ 0 := k2
      have ar1 : aR (gs_I (st_cMem σ a 4 b) 41 0 0) m := ar
      have e2 : F_M_poke a b (st_cMem σ a 4 b) = some (.inl none, gs_row (gs_I (st_cMem σ a 4 b) 41 0 0) 45 (mc_put (gA (gs_I (st_cMem σ a 4 b) 41 0 0) 45) (mc_st a 4) 4 (mc_vr b))) := by
        unfold F_M_poke
        rw [gd_t1, if_neg z5', if_pos k2', gd_s1, th0, if_pos (show (0 : Int32) = 0 from rfl), show F_M_write a 4 b (gs_I (st_cMem σ a 4 b) 41 0 0) = _ from mc_writeR hb4 a b _, gd_01]
      have f2 := K_M_poke a b _ _ e2
      have f := fm_2 f1 f2
      exact ⟨0, _, _, hr_poke a b (X_G_poke a b σ _ e1), f1.2.2.2.trans hX, X_M_poke a b _ _ e2, rfl, rel_m hX hA hB hc hD hSC hSR f rfl rfl rfl rfl rfl (rM_mk (W := gA σ 42) (m := mc_mem m (mc_put m.2.2.1 (mc_st a 4) 4 (mc_vr b))) (o := o) (ks := ks) (aC_sm p2 (fm_sm f2 rfl)) (st_rmem ar1 a b) mk (gC_sm gc (fm_sm f rfl)) (gK_sm gk (fm_sm f rfl)) kk (fm_A f rfl))⟩
    · have k1 : ¬ gI σ 15 6 ≤ 0 := fun y => ck (hnil.1.mp y)
      have k2 : ¬ gI σ 41 18 ≤ 0 := fun y => ck (hnil.2.mp y)
      have e1 : F_G_poke a b σ = some (.inr 1, σ) := by unfold F_G_poke R_G_needLoaded R_G_needAllResolved; rw [if_neg z0, if_neg k1]; rfl
      have e2 : F_M_poke a b σ = some (.inl none, gs_I σ 41 0 1) := by unfold F_M_poke; rw [gd_t1, if_neg z5, if_neg k2]; rfl
      exact ⟨1, σ, _, ht_poke_1 a b (X_G_poke a b σ _ e1), hX, X_M_poke a b σ _ e2, rfl, rel_t h 1⟩
theorem ok_forget (X : List Int32) (σ : gS) (h : rel X σ) : lc_h m_L_forget m_M_forget [] X σ (rel X) := by
  obtain ⟨hX, n, hA, hB, hc, hl⟩ := id h
  rcases hB.2.1.2 with z | z
  · have z5 : gI σ 41 5 = 0 := hB.2.1.1.symm.trans z
    have e1 : F_G_forget σ = some (.inr 1, σ) := by unfold F_G_forget R_G_needLoaded; rw [if_pos z]; rfl
    have e2 : F_M_forget σ = some (.inl (some (.int 0)), gs_I σ 41 0 1) := by unfold F_M_forget; rw [gd_t1, if_pos z5]; rfl
    exact ⟨1, 0, σ, _, ht_forget_1 (X_G_forget σ _ e1), hX, X_M_forget σ _ e2, rfl, fun y => absurd y (by decide), rel_t h 1⟩
  · have z0 : ¬ gI σ 0 9 = 0 := by rw [z]; decide
    have z5 : ¬ gI σ 41 5 = 0 := by rw [← hB.2.1.1]; exact z0
    obtain ⟨hD, ⟨m, o, ks, ac, ar, mk, gc, gk, kk⟩, hSC, hSR⟩ := hl z
    have e1 : F_G_forget σ = some (.inl (some (.int (nI m.2.2.2.2))), gs_I σ 13 1 0) := by
      unfold F_G_forget R_G_needLoaded F_Leaks_drop
      rw [if_neg z0, ← ac.2.2.2.1]
      rfl
    have f1 := K_G_forget σ _ e1
    have e2 : ∀ v : Int64, F_M_forget (gs_L (gs_I σ 13 1 0) 66 0 v) = some (.inl (some (.int (nI m.2.2.2.2))), gs_I (gs_I (gs_L (gs_I σ 13 1 0) 66 0 v) 41 0 0) 41 11 0) := by
      intro v
      unfold F_M_forget
      rw [gd_t1, if_neg (show ¬ gI (gs_L (gs_I σ 13 1 0) 66 0 v) 41 5 = 0 from z5), gd_s1, th0, if_pos (show (0 : Int32) ≤ 0 by decide), gd_s1, ← ar.2.2.2.1]
      rfl
    have f2 := K_M_forget _ _ (e2 (nI m.2.2.2.2).toInt64)
    have f := fm_2 (fm_2 f1 (fm_66 _ (nI m.2.2.2.2).toInt64)) f2
    refine ⟨0, _, _, _, hr_forget _ (X_G_forget σ _ e1), hX, X_M_forget _ _ (e2 _), rfl, fun _ => rfl, rel_m hX hA hB hc hD hSC hSR f rfl rfl rfl rfl rfl (rM_mk (W := gA σ 42) (m := (m.1, m.2.1, m.2.2.1, m.2.2.2.1, 0)) (o := o) (ks := ks) ?_ ?_ ⟨mk.1, mk.2.1, Nat.zero_le _⟩ (gC_sm gc (fm_sm f rfl)) (gK_sm gk (fm_sm f rfl)) kk (fm_A f rfl))⟩
    · exact ⟨ac.1, ac.2.1, ac.2.2.1, rfl, fun i hi => absurd hi (Nat.not_lt_zero i)⟩
    · exact ⟨ar.1, ar.2.1, ar.2.2.1, rfl, fun i hi => absurd hi (Nat.not_lt_zero i)⟩
theorem op_r0 {σ : gS} {v : Int32} (hv : ¬ v = 0) (a : Int32) : gd_lp (fun _ _ => none) (B_M_run_40 a) gd_N 0 (gs_I σ 41 0 v) = some (.inl (some (.int 0)), gs_I σ 41 0 v) := by
  show B_M_run_40 a (gd_lp (fun _ _ => none) (B_M_run_40 a) 99999) 0 (gs_I σ 41 0 v) = _
  generalize gd_lp (fun _ _ => none) (B_M_run_40 a) 99999 = g
  unfold B_M_run_40
  rw [if_neg (show ¬ gI (gs_I σ 41 0 v) 41 0 = 0 from hv)]
theorem ok_run (X : List Int32) (a : Int32) (σ : gS) (h : rel X σ) : lc_h m_L_run m_M_run [.int a] X σ (rel X) := by
  obtain ⟨hX, n, hA, hB, hc, hl⟩ := id h
  rcases hB.2.1.2 with z | z
  · have z5 : gI σ 41 5 = 0 := hB.2.1.1.symm.trans z
    have e1 : F_G_run a σ = some (.inr 1, σ) := by unfold F_G_run R_G_needLoaded; rw [if_pos z]; rfl
    have e2 : F_M_run a σ = some (.inl (some (.int 0)), gs_I σ 41 0 1) := by unfold F_M_run; rw [gd_t1, if_pos z5, gd_s1]; exact op_r0 (show ¬ (1 : Int32) = 0 by decide) a
    exact ⟨1, 0, σ, _, ht_run_1 a (X_G_run a σ _ e1), hX, X_M_run a σ _ e2, rfl, fun y => absurd y (by decide), rel_t h 1⟩
  · have z0 : ¬ gI σ 0 9 = 0 := by rw [z]; decide
    have z5 : ¬ gI σ 41 5 = 0 := by rw [← hB.2.1.1]; exact z0
    obtain ⟨hD, ⟨m, o, ks, ac, ar, mk, gc, gk, kk⟩, hSC, hSR⟩ := hl z
    have hnil := op_nil gc gk
    by_cases ck : ks = []
    · have k1 := hnil.1.mpr ck
      have k2 := hnil.2.mpr ck
      have nd : ∀ x : gR, (gd_q0 (R_G_needLoaded σ) σ <| gd_q0 (R_G_needAllResolved σ) σ <| x) = x := by
        intro x; unfold R_G_needLoaded R_G_needAllResolved; rw [if_neg z0, if_pos k1]; rfl
      rcases pk_ix a (n := 1001) (by omega) with c1 | c1 | ⟨t, ht, rfl⟩
      · have e1 : F_G_run a σ = some (.inr 3, σ) := by unfold F_G_run; rw [nd, if_pos c1]
        have e2 : F_M_run a σ = some (.inl (some (.int 0)), gs_I σ 41 0 2) := by unfold F_M_run; rw [gd_t1, if_neg z5, if_pos k2, if_pos c1, gd_s1]; exact op_r0 (show ¬ (2 : Int32) = 0 by decide) a
        exact ⟨2, 0, σ, _, ht_run_3 a (X_G_run a σ _ e1), hX, X_M_run a σ _ e2, rfl, fun y => absurd y (by decide), rel_t h 2⟩
      · have e1 : F_G_run a σ = some (.inr 3, σ) := by unfold F_G_run; rw [nd, if_neg (gi_gp (by omega) c1), if_neg (show ¬ a ≤ 1000 from gi_ge (k := 1000) (by omega) c1)]
        have e2 : F_M_run a σ = some (.inl (some (.int 0)), gs_I σ 41 0 2) := by unfold F_M_run; rw [gd_t1, if_neg z5, if_pos k2, if_neg (gi_gp (by omega) c1), if_neg (show ¬ a ≤ 1000 from gi_ge (k := 1000) (by omega) c1), gd_s1]; exact op_r0 (show ¬ (2 : Int32) = 0 by decide) a
        exact ⟨2, 0, σ, _, ht_run_3 a (X_G_run a σ _ e1), hX, X_M_run a σ _ e2, rfl, fun y => absurd y (by decide), rel_t h 2⟩
      · obtain ⟨s1, q1, q2, q3⟩ := st_crun (W := gA σ 42) rfl hD ac mk (show t ≤ 1000 by omega)
        have e1 : F_G_run (nI t) σ = some (.inl (some (.int (nI (mc_run (gA σ 42) n t m).1))), s1) := by
          unfold F_G_run
          rw [nd, if_neg (nI_pos (by omega)), if_pos (show nI t ≤ 1000 from (gi_le (b := 1000) (by omega) (by omega)).mpr (by omega)), q1, gd_i1]
        have f1 := K_G_run (nI t) σ _ e1
        have f1' := fm_2 f1 (fm_66 s1 (nI (mc_run (gA σ 42) n t m).1).toInt64)
        generalize hs1 : gs_L s1 66 0 (nI (mc_run (gA σ 42) n t m).1).toInt64 = s1' at *
        have z5' : ¬ gI s1' 41 5 = 0 := by rw [fm_I f1' rfl]; exact z5
        have k2' : gI s1' 41 18 ≤ 0 := by rw [fm_I f1' rfl]; exact k2
        have ar0 : aR s1' m := aR_sm ar (fm_sm f1' rfl)
        have ar1 : aR (gs_I s1' 41 0 0) m := ar0
        obtain ⟨s2, g1, g2, g3⟩ := st_rrun (W := gA σ 42) (n := n) (σ := gs_I s1' 41 0 0) (show gA s1' 42 = gA σ 42 from fm_A f1' rfl) hD.2.2.1 hD.2.1 (show gI s1' 41 2 = nI n from (fm_I f1' rfl).trans hA.2.2.1) rfl ar1 mk (show t ≤ 1000 by omega)
        have e2 : F_M_run (nI t) s1' = some (.inl (some (.int (nI (mc_run (gA σ 42) n t m).1))), s2) := by
          unfold F_M_run
          rw [gd_t1, if_neg z5', if_pos k2', if_neg (nI_pos (by omega)), if_pos (show nI t ≤ 1000 from (gi_le (b := 1000) (by omega) (by omega)).mpr (by omega)), gd_s1]
          exact g1
        have f2 := K_M_run (nI t) s1' _ e2
        have f := fm_2 f1' f2
        have ac1 : aC s1' (mc_run (gA σ 42) n t m).2 := by rw [← hs1]; exact q2
        have hout : gL s2 66 0 = (nI (mc_run (gA σ 42) n t m).1).toInt64 := by
          have := congrFun (fm_L f2 (p := 66) rfl) 0
          rw [this, ← hs1]; rfl
        have hk1 := hr_run (nI t) _ (X_G_run (nI t) σ _ e1)
        rw [hs1] at hk1
        exact ⟨0, _, _, _, hk1, f1'.2.2.2.trans hX, X_M_run (nI t) _ _ e2, fm_I g3 rfl, fun _ => hout, rel_m hX hA hB hc hD hSC hSR f rfl rfl rfl rfl rfl (rM_mk (W := gA σ 42) (m := (mc_run (gA σ 42) n t m).2) (o := o) (ks := ks) (aC_sm ac1 (fm_sm f2 rfl)) g2 q3 (gC_sm gc (fm_sm f rfl)) (gK_sm gk (fm_sm f rfl)) kk (fm_A f rfl))⟩
    · have k1 : ¬ gI σ 15 6 ≤ 0 := fun y => ck (hnil.1.mp y)
      have k2 : ¬ gI σ 41 18 ≤ 0 := fun y => ck (hnil.2.mp y)
      have e1 : F_G_run a σ = some (.inr 1, σ) := by unfold F_G_run R_G_needLoaded R_G_needAllResolved; rw [if_neg z0, if_neg k1]; rfl
      have e2 : F_M_run a σ = some (.inl (some (.int 0)), gs_I σ 41 0 1) := by unfold F_M_run; rw [gd_t1, if_neg z5, if_neg k2, gd_s1]; exact op_r0 (show ¬ (1 : Int32) = 0 by decide) a
      exact ⟨1, 0, σ, _, ht_run_1 a (X_G_run a σ _ e1), hX, X_M_run a σ _ e2, rfl, fun y => absurd y (by decide), rel_t h 1⟩
