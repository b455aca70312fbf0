theorem ok_order (X : List Int32) (a : Int32) (σ : gS) (h : rel X σ) : lc_h m_L_order m_M_order [.int a] X σ (rel X) := by
  obtain ⟨hX, n, hA, hB, hc, hl⟩ := id h
  rcases hB.2.1.2 with z | z
  · have z5 : gI σ 41 5 = 0 := hB.2.1.1.symm.trans z
    have e1 : F_G_order a σ = some (.inr 1, σ) := by unfold F_G_order R_G_needLoaded; rw [if_pos z]; rfl
    have e2 : F_M_order a σ = some (.inl (some (.int 0)), gs_I σ 41 0 1) := by unfold F_M_order; rw [gd_t1, if_pos z5]; rfl
    exact ⟨1, 0, σ, _, ht_order_1 a (X_G_order a σ _ e1), hX, X_M_order a σ _ e2, rfl, fun y => absurd y (by decide), rel_t h 1⟩
  · have z0 : ¬ gI σ 0 9 = 0 := by rw [z]; decide
    have z5 : ¬ gI σ 41 5 = 0 := by rw [← hB.2.1.1]; exact z0
    obtain ⟨hD, ⟨m, o, ks, ac, ar, mk, gc, gk, kk⟩, hSC, hSR⟩ := hl z
    have nd : ∀ x : gR, (gd_q0 (R_G_needLoaded σ) σ <| x) = x := by
      intro x; unfold R_G_needLoaded; rw [if_neg z0]; rfl
    rcases pk_ix a (n := 4) (by omega) with c1 | c1 | ⟨r, hr, rfl⟩
    · have e1 : F_G_order a σ = some (.inr 3, σ) := by unfold F_G_order; rw [nd, if_pos c1]
      have e2 : F_M_order a σ = some (.inl (some (.int 0)), gs_I σ 41 0 2) := by unfold F_M_order; rw [gd_t1, if_neg z5, if_pos c1]; rfl
      exact ⟨2, 0, σ, _, ht_order_3 a (X_G_order a σ _ e1), hX, X_M_order a σ _ e2, rfl, fun y => absurd y (by decide), rel_t h 2⟩
    · have e1 : F_G_order a σ = some (.inr 3, σ) := by unfold F_G_order; rw [nd, if_neg (gi_gp (by omega) c1), if_neg (show ¬ a ≤ 3 from gi_ge (k := 3) (by omega) c1)]
      have e2 : F_M_order a σ = some (.inl (some (.int 0)), gs_I σ 41 0 2) := by unfold F_M_order; rw [gd_t1, if_neg z5, if_neg (gi_gp (by omega) c1), if_neg (show ¬ a ≤ 3 from gi_ge (k := 3) (by omega) c1)]; rfl
      exact ⟨2, 0, σ, _, ht_order_3 a (X_G_order a σ _ e1), hX, X_M_order a σ _ e2, rfl, fun y => absurd y (by decide), rel_t h 2⟩
    · obtain ⟨s1, o', q1, q2, q3⟩ := co_ord (W := gA σ 42) rfl hD gc ac mk hr
      have e1 : F_G_order (nI r) σ = some (.inl (some (.int (mc_ord (gA σ 42) n (gI σ 10 6) r m ks).1)), s1) := by
        unfold F_G_order
        rw [nd, if_neg (nI_pos (by omega)), if_pos (show nI r ≤ 3 from (gi_le (b := 3) (by omega) (by omega)).mpr (by omega)), q1, gd_i1]
      have f1 := K_G_order (nI r) σ _ e1
      have f1' := fm_2 f1 (fm_66 s1 (mc_ord (gA σ 42) n (gI σ 10 6) r m ks).1.toInt64)
      generalize hs1 : gs_L s1 66 0 (mc_ord (gA σ 42) n (gI σ 10 6) r m ks).1.toInt64 = s1' at *
      have z5' : ¬ gI s1' 41 5 = 0 := by rw [fm_I f1' rfl]; exact z5
      have hwd : gI s1' 41 12 = gI σ 10 6 := (fm_I f1' rfl).trans hB.2.2.2.symm
      obtain ⟨s2, g1, g2, g3, ht⟩ := ro_ord (W := gA σ 42) (n := n) (σ := s1') (fm_A f1' rfl) hD.2.2.1 hD.2.1 ((fm_I f1' rfl).trans hA.2.2.1) z5' (gK_sm gk (fm_sm f1' rfl)) (aR_sm ar (fm_sm f1' rfl)) mk kk hr
      rw [hwd] at g1 g2 g3
      have f2 := K_M_order (nI r) s1' _ g1
      have f := fm_2 f1' f2
      have ac1 : aC s1' (mc_ord (gA σ 42) n (gI σ 10 6) r m ks).2.1 := by rw [← hs1]; exact q2
      have gc1 : gC (gA σ 42) s1' o' (mc_ord (gA σ 42) n (gI σ 10 6) r m ks).2.2 := by rw [← hs1]; exact q3
      have hout : gL s2 66 0 = (mc_ord (gA σ 42) n (gI σ 10 6) r m ks).1.toInt64 := by
        have := congrFun (fm_L f2 (p := 66) rfl) 0
        rw [this, ← hs1]; rfl
      have hk1 := hr_order (nI r) _ (X_G_order (nI r) σ _ e1)
      rw [hs1] at hk1
      obtain ⟨m1, m2⟩ := mc_ook (wd := gI σ 10 6) (r := r) hD.2.2.1 hD.2.1 mk kk
      exact ⟨0, _, _, _, hk1, f1'.2.2.2.trans hX, X_M_order (nI r) _ _ g1, ht, fun _ => hout, rel_m hX hA hB hc hD hSC hSR f rfl rfl rfl rfl rfl (rM_mk (W := gA σ 42) (m := (mc_ord (gA σ 42) n (gI σ 10 6) r m ks).2.1) (o := o') (ks := (mc_ord (gA σ 42) n (gI σ 10 6) r m ks).2.2) (aC_sm ac1 (fm_sm f2 rfl)) g2 m1 (gC_sm gc1 (fm_sm f2 rfl)) g3 m2 (fm_A f rfl))⟩
theorem ok_decoded (X : List Int32) (a b : Int32) (σ : gS) (h : rel X σ) : lc_h m_L_decoded m_M_decoded [.int a, .int b] X σ (rel X) := by
  obtain ⟨hX, n, hA, hB, hc, hl⟩ := id h
  rcases hB.2.1.2 with z | z
  · have z5 : gI σ 41 5 = 0 := hB.2.1.1.symm.trans z
    have e1 : R_G_decoded a b σ = some (.inr 1) := by unfold R_G_decoded R_G_needLoaded; rw [if_pos z]; rfl
    have e2 : F_M_decoded a b σ = some (.inl (some (.int 0)), gs_I σ 41 0 1) := by unfold F_M_decoded; rw [gd_j1, if_pos z5]; rfl
    exact ⟨1, 0, σ, _, ht_decoded_1 a b (X_G_decoded a b σ _ e1), hX, X_M_decoded a b σ _ e2, rfl, fun y => absurd y (by decide), rel_t h 1⟩
  · have z0 : ¬ gI σ 0 9 = 0 := by rw [z]; decide
    have z5 : ¬ gI σ 41 5 = 0 := by rw [← hB.2.1.1]; exact z0
    obtain ⟨hD, ⟨m, o, ks, ac, ar, mk, gc, gk, kk⟩, hSC, hSR⟩ := hl z
    obtain ⟨hn, s7, s2, hw⟩ := hA
    have nd : ∀ x : gP, (gd_p0 (R_G_needLoaded σ) <| x) = x := by
      intro x; unfold R_G_needLoaded; rw [if_neg z0]; rfl
    rcases pk_ix a (n := n) (by omega) with c1 | c1 | ⟨p, hp, rfl⟩
    · have e1 : R_G_decoded a b σ = some (.inr 2) := by unfold R_G_decoded; rw [nd]; unfold R_G_needWord R_G_hasWord; rw [if_pos c1]; rfl
      have e2 : F_M_decoded a b σ = some (.inl (some (.int 0)), gs_I σ 41 0 2) := by unfold F_M_decoded R_M_isAt; rw [gd_j1, if_neg z5, if_pos c1, gd_qi1, if_pos rfl]; rfl
      exact ⟨2, 0, σ, _, ht_decoded_2 a b (X_G_decoded a b σ _ e1), hX, X_M_decoded a b σ _ e2, rfl, fun y => absurd y (by decide), rel_t h 2⟩
    · have e1 : R_G_decoded a b σ = some (.inr 2) := by unfold R_G_decoded; rw [nd]; unfold R_G_needWord R_G_hasWord; rw [if_neg (gi_gp (by omega) c1), s7, if_pos c1]; rfl
      have e2 : F_M_decoded a b σ = some (.inl (some (.int 0)), gs_I σ 41 0 2) := by unfold F_M_decoded R_M_isAt; rw [gd_j1, if_neg z5, if_neg (gi_gp (by omega) c1), s2, if_pos c1, gd_qi1, if_pos rfl]; rfl
      exact ⟨2, 0, σ, _, ht_decoded_2 a b (X_G_decoded a b σ _ e1), hX, X_M_decoded a b σ _ e2, rfl, fun y => absurd y (by decide), rel_t h 2⟩
    · have nw : ∀ x : gP, (gd_p0 (R_G_needWord (nI p) σ) <| x) = x := by
        intro x; unfold R_G_needWord R_G_hasWord; rw [if_neg (nI_pos (by omega)), s7, if_neg (fun y => by have := (gi_le (by omega) (by omega)).mp y; omega)]; rfl
      have ia : R_M_isAt (nI p) σ = some (.inl (some (.int 1))) := by
        unfold R_M_isAt; rw [if_neg (nI_pos (by omega)), s2, if_neg (fun y => by have := (gi_le (by omega) (by omega)).mp y; omega)]
      rcases pk_ix b (n := 6) (by omega) with c2 | c2 | ⟨j, hj, rfl⟩
      · have e1 : R_G_decoded (nI p) b σ = some (.inr 3) := by unfold R_G_decoded; rw [nd, nw, if_pos c2]
        have e2 : F_M_decoded (nI p) b σ = some (.inl (some (.int 0)), gs_I σ 41 0 3) := by unfold F_M_decoded; rw [gd_j1, if_neg z5, ia, gd_qi1, if_neg (show ¬ (1 : Int32) = 0 by decide), if_pos c2]; rfl
        exact ⟨3, 0, σ, _, ht_decoded_3 (nI p) b (X_G_decoded (nI p) b σ _ e1), hX, X_M_decoded (nI p) b σ _ e2, rfl, fun y => absurd y (by decide), rel_t h 3⟩
      · have e1 : R_G_decoded (nI p) b σ = some (.inr 3) := by unfold R_G_decoded; rw [nd, nw, if_neg (gi_gp (by omega) c2), if_neg (show ¬ b ≤ 5 from gi_ge (k := 5) (by omega) c2)]
        have e2 : F_M_decoded (nI p) b σ = some (.inl (some (.int 0)), gs_I σ 41 0 3) := by unfold F_M_decoded; rw [gd_j1, if_neg z5, ia, gd_qi1, if_neg (show ¬ (1 : Int32) = 0 by decide), if_neg (gi_gp (by omega) c2), if_neg (show ¬ b ≤ 5 from gi_ge (k := 5) (by omega) c2)]; rfl
        exact ⟨3, 0, σ, _, ht_decoded_3 (nI p) b (X_G_decoded (nI p) b σ _ e1), hX, X_M_decoded (nI p) b σ _ e2, rfl, fun y => absurd y (by decide), rel_t h 3⟩
      · obtain ⟨-, -, hok, hr⟩ := hD
        obtain ⟨q3, q4, q5, q6, q7, q8, q9⟩ := hr p hp
        have hk := sp_okk hok hp
        have gin : gd_in (nI p) 1040 := gi_in (by omega) (by omega)
        have fin : ∀ v : Int32, R_Listing_part (nI p) (nI j) σ = some (.inl (some (.int v))) → F_M_decoded (nI p) (nI j) (gs_L σ 66 0 v.toInt64) = some (.inl (some (.int v)), gs_I (gs_L σ 66 0 v.toInt64) 41 0 0) → lc_h m_L_decoded m_M_decoded [.int (nI p), .int (nI j)] X σ (rel X) := by
          intro v f1 f2
          have e1 : R_G_decoded (nI p) (nI j) σ = some (.inl (some (.int v))) := by
            unfold R_G_decoded
            rw [nd, nw, if_neg (nI_pos (by omega)), if_pos (show nI j ≤ 5 from (gi_le (b := 5) (by omega) (by omega)).mpr (by omega)), f1, gd_pi1]
          exact ⟨0, _, _, _, hr_decoded (nI p) (nI j) _ (X_G_decoded (nI p) (nI j) σ _ e1), hX, X_M_decoded (nI p) (nI j) _ _ f2, rfl, fun _ => rfl, rel_t (rel_o h _) 0⟩
        have st : ∀ v : Int64, F_M_decoded (nI p) (nI j) (gs_L σ 66 0 v) = (fun τ : gS => if nI j = 0 then
            gd_qi (R_M_kind (nI p) τ) τ fun r5 => some (.inl (some (.int r5)), τ)
           else if nI j = 1 then
            gd_qi (R_M_result (nI p) τ) τ fun r6 => some (.inl (some (.int r6)), τ)
           else if nI j = 2 then
            gd_qi (R_M_first (nI p) τ) τ fun r7 => some (.inl (some (.int r7)), τ)
           else if nI j = 3 then
            gd_qi (R_M_second (nI p) τ) τ fun r8 => some (.inl (some (.int r8)), τ)
           else if nI j = 4 then
            gd_qi (R_M_number (nI p) τ) τ fun r9 => some (.inl (some (.int r9)), τ)
           else
            gd_qi (R_M_kind (nI p) τ) τ fun r10 =>
            gd_j (α := gR) (
             gd_qi (R_M_target (nI p) τ) τ fun r13 =>
             some (.inl (some (.int r13)), τ)) fun J11 =>
            if r10 = 5 then J11 else gd_qi (R_M_kind (nI p) τ) τ fun r12 => if r12 = 6 then J11 else some (.inl (some (.int (-1))), τ)) (gs_I (gs_L σ 66 0 v) 41 0 0) := by
          intro v
          unfold F_M_decoded
          rw [gd_j1, if_neg (show ¬ gI (gs_L σ 66 0 v) 41 5 = 0 from z5), show R_M_isAt (nI p) (gs_L σ 66 0 v) = _ from ia, gd_qi1, if_neg (show ¬ (1 : Int32) = 0 by decide), if_neg (nI_pos (by omega)), if_pos (show nI j ≤ 5 from (gi_le (b := 5) (by omega) (by omega)).mpr (by omega))]
          dsimp only
          rw [gd_s1, th0, if_pos (show (0 : Int32) ≤ 0 by decide)]
        unfold R_Listing_part at fin
        simp only [gd_gI gin, gi_cl (show p ≤ 100000 by omega)] at fin
        have : j = 0 ∨ j = 1 ∨ j = 2 ∨ j = 3 ∨ j = 4 ∨ j = 5 := by omega
        rcases this with rfl | rfl | rfl | rfl | rfl | rfl
        · refine fin (sp_k (gA σ 42) p) (by rw [if_pos (show nI 0 = 0 from rfl), q3]) ?_
          rw [st]; show (if nI 0 = 0 then _ else _) = _
          rw [if_pos (show nI 0 = 0 from rfl), br_kindN (by omega), gd_qi1]
          rfl
        · refine fin (if sp_r (gA σ 42) p = 0 then -1 else sp_r (gA σ 42) p) ?_ ?_
          · rw [if_neg (show ¬ nI 1 = 0 by decide), if_pos (show nI 1 = 1 from rfl), q5]
            by_cases c : sp_r (gA σ 42) p = 0
            · rw [if_pos c, if_pos c]
            · rw [if_neg c, if_neg c]
          · rw [st]; show (if nI 1 = 0 then _ else if nI 1 = 1 then _ else _) = _
            rw [if_neg (show ¬ nI 1 = 0 by decide), if_pos (show nI 1 = 1 from rfl), br_result (by omega), gd_qi1]
            rfl
        · refine fin (sp_a (gA σ 42) p) (by rw [if_neg (show ¬ nI 2 = 0 by decide), if_neg (show ¬ nI 2 = 1 by decide), if_pos (show nI 2 = 2 from rfl), q6]) ?_
          rw [st]; show (if nI 2 = 0 then _ else if nI 2 = 1 then _ else if nI 2 = 2 then _ else _) = _
          rw [if_neg (show ¬ nI 2 = 0 by decide), if_neg (show ¬ nI 2 = 1 by decide), if_pos (show nI 2 = 2 from rfl), br_first (by omega) (gs_I (gs_L σ 66 0 (sp_a (gA σ 42) p).toInt64) 41 0 0) hk, gd_qi1]
          rfl
        · refine fin (sp_b (gA σ 42) p) (by rw [if_neg (show ¬ nI 3 = 0 by decide), if_neg (show ¬ nI 3 = 1 by decide), if_neg (show ¬ nI 3 = 2 by decide), if_pos (show nI 3 = 3 from rfl), q7]) ?_
          rw [st]; show (if nI 3 = 0 then _ else if nI 3 = 1 then _ else if nI 3 = 2 then _ else if nI 3 = 3 then _ else _) = _
          rw [if_neg (show ¬ nI 3 = 0 by decide), if_neg (show ¬ nI 3 = 1 by decide), if_neg (show ¬ nI 3 = 2 by decide), if_pos (show nI 3 = 3 from rfl), br_second (by omega) (gs_I (gs_L σ 66 0 (sp_b (gA σ 42) p).toInt64) 41 0 0) hk, gd_qi1]
          rfl
        · refine fin (f_Listing_numberOf (sp_k (gA σ 42) p) (gA σ 42 p)) (by rw [if_neg (show ¬ nI 4 = 0 by decide), if_neg (show ¬ nI 4 = 1 by decide), if_neg (show ¬ nI 4 = 2 by decide), if_neg (show ¬ nI 4 = 3 by decide), if_pos (show nI 4 = 4 from rfl), q8]) ?_
          rw [st]; show (if nI 4 = 0 then _ else if nI 4 = 1 then _ else if nI 4 = 2 then _ else if nI 4 = 3 then _ else if nI 4 = 4 then _ else _) = _
          rw [if_neg (show ¬ nI 4 = 0 by decide), if_neg (show ¬ nI 4 = 1 by decide), if_neg (show ¬ nI 4 = 2 by decide), if_neg (show ¬ nI 4 = 3 by decide), if_pos (show nI 4 = 4 from rfl), st_num (by omega), gd_qi1]
          rfl
        · refine fin (sp_t (gA σ 42) p) (by rw [if_neg (show ¬ nI 5 = 0 by decide), if_neg (show ¬ nI 5 = 1 by decide), if_neg (show ¬ nI 5 = 2 by decide), if_neg (show ¬ nI 5 = 3 by decide), if_neg (show ¬ nI 5 = 4 by decide), q9]) ?_
          rw [st]; show (if nI 5 = 0 then _ else if nI 5 = 1 then _ else if nI 5 = 2 then _ else if nI 5 = 3 then _ else if nI 5 = 4 then _ else _) = _
          rw [if_neg (show ¬ nI 5 = 0 by decide), if_neg (show ¬ nI 5 = 1 by decide), if_neg (show ¬ nI 5 = 2 by decide), if_neg (show ¬ nI 5 = 3 by decide), if_neg (show ¬ nI 5 = 4 by decide), br_kindN (by omega), gd_qi1, gd_j1, gd_qi1, br_targetN (by omega), gd_qi1]
          unfold sp_t
          by_cases c5 : sp_k (gA σ 42) p = 5
          · rw [if_pos (show sp_k (gA (gs_I (gs_L σ 66 0 _) 41 0 0) 42) p = 5 from c5), if_pos (show sp_k (gA σ 42) p = 5 ∨ sp_k (gA σ 42) p = 6 from Or.inl c5)]
            rfl
          · rw [if_neg (show ¬ sp_k (gA (gs_I (gs_L σ 66 0 _) 41 0 0) 42) p = 5 from c5)]
            by_cases c6 : sp_k (gA σ 42) p = 6
            · rw [if_pos (show sp_k (gA (gs_I (gs_L σ 66 0 _) 41 0 0) 42) p = 6 from c6), if_pos (show sp_k (gA σ 42) p = 5 ∨ sp_k (gA σ 42) p = 6 from Or.inr c6)]
              rfl
            · rw [if_neg (show ¬ sp_k (gA (gs_I (gs_L σ 66 0 _) 41 0 0) 42) p = 6 from c6), if_neg (show ¬ (sp_k (gA σ 42) p = 5 ∨ sp_k (gA σ 42) p = 6) from fun y => y.elim c5 c6)]
theorem ok_home (X : List Int32) (a : Int32) (σ : gS) (h : rel X σ) : lc_h m_L_home m_M_home [.int a] X σ (rel X) := by
  obtain ⟨hX, n, ⟨hn, s7, s2, hw⟩, hB, hc, hl⟩ := id h
  obtain ⟨b1, b2, ⟨h11, h01, hh⟩, b4⟩ := hB
  have thr : R_G_home a σ = some (.inr 2) → F_M_home a σ = some (.inl (some (.int 0)), gs_I σ 41 0 1) → lc_h m_L_home m_M_home [.int a] X σ (rel X) := fun f1 f2 => ⟨1, 0, σ, _, ht_home_2 a (X_G_home a σ _ f1), hX, X_M_home a σ _ f2, rfl, fun y => absurd y (by decide), rel_t h 1⟩
  rcases pk_ix a (n := n) (by omega) with c1 | c1 | ⟨p, hp, rfl⟩
  · refine thr ?_ ?_
    · unfold R_G_home R_G_needWord R_G_hasWord; rw [if_pos c1]; rfl
    · unfold F_M_home R_M_isAt; rw [if_pos c1, gd_qi1, gd_t1, if_pos rfl]; rfl
  · refine thr ?_ ?_
    · unfold R_G_home R_G_needWord R_G_hasWord; rw [if_neg (gi_gp (by omega) c1), s7, if_pos c1]; rfl
    · unfold F_M_home R_M_isAt; rw [if_neg (gi_gp (by omega) c1), s2, if_pos c1, gd_qi1, gd_t1, if_pos rfl]; rfl
  · have fin : ∀ v : Int32, R_G_home (nI p) σ = some (.inl (some (.int v))) → F_M_home (nI p) (gs_L σ 66 0 v.toInt64) = some (.inl (some (.int v)), gs_I (gs_L σ 66 0 v.toInt64) 41 0 0) → lc_h m_L_home m_M_home [.int (nI p)] X σ (rel X) := fun v f1 f2 => ⟨0, _, _, _, hr_home (nI p) _ (X_G_home (nI p) σ _ f1), hX, X_M_home (nI p) _ _ f2, rfl, fun _ => rfl, rel_t (rel_o h _) 0⟩
    have e1 : R_G_home (nI p) σ = if gI σ 0 11 = 0 then some (.inl (some (.int (nI p)))) else some (.inl (some (.int (gA σ 40 p)))) := by
      unfold R_G_home R_G_needWord R_G_hasWord
      rw [if_neg (nI_pos (by omega)), s7, if_neg (fun y => by have := (gi_le (by omega) (by omega)).mp y; omega), gd_pi1, if_neg (show ¬ (1 : Int32) = 0 by decide), gd_p01, gd_gI (gi_in (by omega) (by omega)), gi_cl (by omega)]
    have e2 : ∀ v : Int64, F_M_home (nI p) (gs_L σ 66 0 v) = if gI σ 41 4 = 0 then some (.inl (some (.int (nI p))), gs_I (gs_L σ 66 0 v) 41 0 0) else some (.inl (some (.int (gA σ 43 p))), gs_I (gs_L σ 66 0 v) 41 0 0) := by
      intro v
      unfold F_M_home R_M_isAt
      rw [if_neg (nI_pos (by omega)), show gI (gs_L σ 66 0 v) 41 2 = nI n from s2, if_neg (fun y => by have := (gi_le (by omega) (by omega)).mp y; omega), gd_qi1, gd_t1, if_neg (show ¬ (1 : Int32) = 0 by decide), gd_s1, th0, if_pos (show (0 : Int32) ≤ 0 by decide), gd_gI (gi_in (by omega) (by omega)), gi_cl (by omega)]
      rfl
    rcases h01 with y | y
    · refine fin (nI p) (by rw [e1, if_pos y]) (by rw [e2, if_pos (h11.symm.trans y)])
    · have y0 : ¬ gI σ 0 11 = 0 := by rw [y]; decide
      refine fin (gA σ 40 p) (by rw [e1, if_neg y0]) (by rw [e2, if_neg (by rw [← h11]; exact y0), hh y p hp])
theorem ok_clear (X : List Int32) (σ : gS) (h : rel X σ) : lc_i m_G_clear m_M_clear [] X σ (rel X) := by
  obtain ⟨hX, n, ⟨hn, s7, s2, hw⟩, ⟨b1, b2, b3, b4⟩, hc, hl⟩ := id h
  have e1 : F_G_clear σ = some (.inl (some (.int (nI n))), gs_I (gs_I (gs_I σ 0 7 0) 0 9 0) 0 11 0) := by
    unfold F_G_clear F_G_noteNewWords; rw [s7]; rfl
  have e2 : F_M_clear (gs_I (gs_I (gs_I σ 0 7 0) 0 9 0) 0 11 0) = some (.inl (some (.int (nI n))), gs_I (gs_I (gs_I (gs_I (gs_I (gs_I (gs_I σ 0 7 0) 0 9 0) 0 11 0) 41 0 0) 41 2 0) 41 5 0) 41 4 0) := by
    unfold F_M_clear F_M_changed; rw [← s2]; rfl
  refine ⟨nI n, _, _, X_G_clear σ _ e1, hX, X_M_clear _ _ e2, hX, 0, ⟨by omega, rfl, rfl, fun i hi => absurd hi (Nat.not_lt_zero i)⟩, ⟨b1, ⟨rfl, Or.inl rfl⟩, ⟨rfl, Or.inl rfl, fun y => absurd (show (0 : Int32) = 1 from y) (by decide)⟩, b4⟩, Or.inl (by omega), fun y => absurd (show (0 : Int32) = 1 from y) (by decide)⟩
theorem ok_word (X : List Int32) (a : Int32) (σ : gS) (h : rel X σ) : lc_i m_G_word m_M_word [.int a] X σ (rel X) := by
  obtain ⟨hX, n, ⟨hn, s7, s2, hw⟩, ⟨b1, b2, b3, b4⟩, hc, hl⟩ := id h
  by_cases c : n < 520
  · have e1 : F_G_word a σ = some (.inl (some (.int (nI (n + 1)))), gs_I (gs_I (gs_I (gs_A σ 1 n a) 0 7 (nI (n + 1))) 0 9 0) 0 11 0) := by
      unfold F_G_word F_G_noteNewWords
      rw [if_pos (show gI σ 0 7 < 520 by rw [s7]; exact (gi_lt (b := 520) (by omega) (by omega)).mpr c), gd_gI (by rw [s7]; exact gi_in (by omega) (by omega)), show (gI σ 0 7).toNatClampNeg = n by rw [s7]; exact gi_cl (by omega)]
      simp only [gd_s1, gd_01, show gI (gs_A σ 1 n a) 0 7 = nI n from s7, nI_1]
      rfl
    have e2 : F_M_word a (gs_I (gs_I (gs_I (gs_A σ 1 n a) 0 7 (nI (n + 1))) 0 9 0) 0 11 0) = some (.inl (some (.int (nI (n + 1)))), gs_I (gs_I (gs_I (gs_A (gs_I (gs_I (gs_I (gs_I (gs_A σ 1 n a) 0 7 (nI (n + 1))) 0 9 0) 0 11 0) 41 0 0) 42 n a) 41 2 (nI (n + 1))) 41 5 0) 41 4 0) := by
      have q2 : gI (gs_I (gs_I (gs_I (gs_I (gs_A σ 1 n a) 0 7 (nI (n + 1))) 0 9 0) 0 11 0) 41 0 0) 41 2 = nI n := s2
      unfold F_M_word F_M_changed
      rw [gd_s1]
      generalize hτ : gs_I (gs_I (gs_I (gs_I (gs_A σ 1 n a) 0 7 (nI (n + 1))) 0 9 0) 0 11 0) 41 0 0 = τ at *
      rw [if_pos (show gI τ 41 2 < 520 by rw [q2]; exact (gi_lt (b := 520) (by omega) (by omega)).mpr c), gd_gI (by rw [q2]; exact gi_in (by omega) (by omega)), show (gI τ 41 2).toNatClampNeg = n by rw [q2]; exact gi_cl (by omega)]
      simp only [gd_s1, gd_01, show gI (gs_A τ 42 n a) 41 2 = nI n from q2, nI_1]
      rfl
    refine ⟨nI (n + 1), _, _, X_G_word a σ _ e1, hX, X_M_word a _ _ e2, hX, n + 1, ⟨by omega, rfl, rfl, fun i hi => ?_⟩, ⟨b1, ⟨rfl, Or.inl rfl⟩, ⟨rfl, Or.inl rfl, fun y => absurd (show (0 : Int32) = 1 from y) (by decide)⟩, b4⟩, Or.inl (by omega), fun y => absurd (show (0 : Int32) = 1 from y) (by decide)⟩
    show (if i = n then a else gA σ 1 i) = (if i = n then a else gA σ 42 i)
    by_cases y : i = n
    · rw [if_pos y, if_pos y]
    · rw [if_neg y, if_neg y]; exact hw i (by omega)
  · have e1 : F_G_word a σ = some (.inl (some (.int (-1))), σ) := by
      unfold F_G_word
      rw [if_neg (show ¬ gI σ 0 7 < 520 by rw [s7]; exact fun y => c ((gi_lt (b := 520) (by omega) (by omega)).mp y))]
    have e2 : F_M_word a σ = some (.inl (some (.int (-1))), gs_I σ 41 0 0) := by
      unfold F_M_word
      rw [gd_s1, if_neg (show ¬ gI (gs_I σ 41 0 0) 41 2 < 520 from fun y => c ((gi_lt (b := 520) (by omega) (by omega)).mp (by rw [show gI (gs_I σ 41 0 0) 41 2 = nI n from s2] at y; exact y)))]
    exact ⟨-1, _, _, X_G_word a σ _ e1, hX, X_M_word a σ _ e2, rel_t h 0⟩
