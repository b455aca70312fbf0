theorem nm_N {W : Nat → Int32} {n : Nat} (hn : n ≤ 1040) (hc : rCl W n) : nm (sp_C W n) n ≤ 1040 := by
  unfold nm
  rcases hc with h | h
  · have := sp_n_le (sp_C W n) n; omega
  · rw [sp_n_0 (fun i _ => sp_C0 (fun v hv => by
      obtain ⟨hT, u, hc, hB⟩ := hv
      exact h u ⟨v, hT, hc, hB⟩) i)]
    omega
theorem ok_rewrite (X : List Int32) (σ : gS) (h : rel X σ) : lc_h m_L_rewrite m_M_rewrite [] X σ (rel X) := by
  rcases rel_01 h with ⟨z, z5⟩ | ⟨z, z5⟩
  · have e1 : F_G_rewrite σ = some (.inr 1, σ) := by unfold F_G_rewrite R_G_needLoaded; rw [if_pos z]; rfl
    have e2 : F_M_rewrite σ = some (.inl (some (.int 0)), gs_I σ 41 0 1) := by unfold F_M_rewrite; rw [gd_t1, if_pos z5]; rfl
    exact ⟨1, 0, σ, _, ht_rewrite_1 (X_G_rewrite σ _ e1), h.1, X_M_rewrite σ _ e2, rfl, fun y => absurd y (by decide), rel_t h 1⟩
  · obtain ⟨n, hN⟩ := rel_N h z
    obtain ⟨s1, g1, g2, g3⟩ := sy_all hN
    have fs := K_G_study _ _ g1
    obtain ⟨hX1, a1, b1, c1, z1, d1, d2, d3, d4⟩ := id g3
    have hn := a1.1
    obtain ⟨W, hW⟩ : ∃ W, gA s1 42 = W := ⟨_, rfl⟩
    have hNN : nm (sp_C W n) n ≤ 1040 := by rw [← hW]; exact nm_N hn c1
    have st := d3.1.2 g2
    rw [hW] at st
    have hcw : cw W n s1 := ⟨hW, d1, hNN, fun p hp => st.1 p hp⟩
    have size : gI s1 0 7 + gI s1 33 8 = nI (nm (sp_C W n) n) := by rw [a1.2.1, st.2.2, nI_add]; rfl
    obtain ⟨O, hO, hCT⟩ := cut_ex hW d1 (show rRC n s1 from d3.2)
    have hok : sp_ok W n := by rw [← hW]; exact d1.2.2.1
    have z0 : ¬ gI σ 0 9 = 0 := by rw [z]; decide
    obtain ⟨s2, p1, p2, p3⟩ := pl_all hcw
    rcases p3 with ⟨q1, q2⟩ | ⟨q1, q2⟩
    · have hH : nH W n (NV W n) := ⟨hok, hn, hNN, q2, fun p hp => NV_m hp, fun p hp hC => NV_f hp hC, hCT⟩
      obtain ⟨s3, w1, w2, w3⟩ := wo_all (cw_fm hcw p2 rfl rfl) p1 (fun i hi => by rw [fm_A p2 (p := 1) rfl, a1.2.2.2 i hi, hW])
      have hw1 : ∀ i, i < nm (sp_C W n) n → gA s3 1 i = NV W n i := fun i hi => NV_e (f := gA s3 1) (fun p hp => (w2.1 p (Nat.zero_le p) hp).1) (fun p hp hC => (w2.2 p (Nat.zero_le p) hp hC).1) hi
      obtain ⟨s5, t1, t2, t3, t4, t5, t6, t7, t8, t9, t10⟩ := ld_G (σ := gs_I (gs_I s3 0 7 (nI (nm (sp_C W n) n))) 0 11 1) (W := NV W n) hNN rfl hw1 (nO hH)
      have ft := K_G_takeUp _ _ t1
      have e7 : gI s5 0 7 = nI (nm (sp_C W n) n) := fm_I ft (p := 0) (k := 7) rfl
      have e1 : F_G_rewrite σ = some (.inl (some (.int (nI (nm (sp_C W n) n)))), s5) := by
        unfold F_G_rewrite R_G_needLoaded
        rw [if_neg z0, gd_q01, g1, gd_01, size, q1, gd_i1, if_neg (show ¬ (1 : Int32) = 0 by decide), w1, gd_i1, gd_s1, gd_s1, t1, gd_i1, e7]
      have f1 := K_G_rewrite _ _ e1
      have wσ : gA σ 42 = W := (fm_A fs (p := 42) rfl).symm.trans hW
      generalize hτ : gs_L s5 66 0 (nI (nm (sp_C W n) n)).toInt64 = τ
      have fτ : gd_fm (W_G_rewrite.1, W_G_rewrite.2.1, 66 :: W_G_rewrite.2.2) σ τ := by rw [← hτ]; exact gd_fmL (gd_fmT (gd_sbI rfl) (gd_fm0 _ _) f1) rfl
      have f5τ : gd_fm ([], [], [66]) s5 τ := by rw [← hτ]; exact gd_fmL (gd_fm0 _ _) rfl
      have fτ0 : gd_fm ((41, 0) :: W_G_rewrite.1, W_G_rewrite.2.1, 66 :: W_G_rewrite.2.2) σ (gs_I τ 41 0 0) := gd_fmI (gd_fmT (gd_sbI rfl) (gd_fm0 _ _) fτ) rfl
      have w0 : gA (gs_I τ 41 0 0) 42 = W := (fm_A fτ0 (p := 42) rfl).trans wσ
      have n0 : gI (gs_I τ 41 0 0) 41 2 = nI n := (fm_I fτ0 (p := 41) (k := 2) rfl).trans hN.2.1.2.2.1
      obtain ⟨s6, k1, k2, k3⟩ := kn_all w0 hok hn n0 (rSR_sm hN.2.2.2.2.2.2.2.2 (fm_sm fτ0 rfl))
      have f6 := K_M_know _ _ k1
      have w6 : gA s6 42 = W := (fm_A f6 (p := 42) rfl).trans w0
      have hwk : rwk W n s6 := ⟨w6, hok, hn, (fm_I f6 (p := 41) (k := 2) rfl).trans n0, hNN, fun p hp => by
        have := ((k3.2 k2).1 p hp).2.2.2
        rw [w6] at this; exact this⟩
      have h5 : ¬ gI τ 41 5 = 0 := by rw [fm_I fτ (p := 41) (k := 5) rfl, z5]; decide
      rcases mr_all h5 k1 hwk with ⟨s7, m1, m2, m3, m4, m5, m6, m7, m8, m9, m10, m11, m12, m13⟩ | ⟨s7, m1, ⟨p, hp, k5, hbad⟩, m3⟩
      · have f7 := K_M_rewrite _ _ m1
        have f57 : gd_fm (W_M_rewrite.1, W_M_rewrite.2.1, 66 :: W_M_rewrite.2.2) s5 s7 := gd_fmT (gd_sbI rfl) (gd_fmT (gd_sbI rfl) (gd_fm0 _ _) f5τ) f7
        have i6 : gI s7 41 6 = -1 := m12.trans k3.1.1
        have i8 : gI s7 0 8 = -1 := (fm_I f57 (p := 0) (k := 8) rfl).trans t6
        have i9 : gI s7 0 9 = 1 := (fm_I f57 (p := 0) (k := 9) rfl).trans t7
        have i11 : gI s7 0 11 = 1 := (fm_I f57 (p := 0) (k := 11) rfl).trans (fm_I ft (p := 0) (k := 11) rfl)
        have r1 : gA s7 1 = gA s3 1 := (fm_A f57 (p := 1) rfl).trans (fm_A ft (p := 1) rfl)
        have r40 : gA s7 40 = gA s3 40 := (fm_A f57 (p := 40) rfl).trans (fm_A ft (p := 40) rfl)
        refine ⟨0, nI (nm (sp_C W n) n), τ, s7, ?_, fτ.2.2.2.trans hN.1, X_M_rewrite τ _ m1, ?_, fun _ => ?_, f7.2.2.2.trans (fτ.2.2.2.trans hN.1), nm (sp_C W n) n, ⟨hNN, (fm_I f57 (p := 0) (k := 7) rfl).trans e7, m6, fun i hi => ?_⟩, ⟨i8.trans i6.symm, ⟨i9.trans m10.symm, Or.inr i9⟩, ⟨i11.trans m7.symm, Or.inr i11, fun _ i hi => ?_⟩, ?_⟩, ?_, fun _ => ⟨⟨(fm_I f57 (p := 2) (k := 7) rfl).trans t3, hNN, ?_, ?_⟩, rM_mk (W := NV W n) (m := ld_m0) (o := 0) (ks := []) (aC_sm t4 (fm_sm f57 rfl)) m8 ⟨Nat.zero_le _, rfl, Nat.zero_le _⟩ (gC_sm t5 (fm_sm f57 rfl)) m9 (fun e he => by cases he) m3, ?_, ?_⟩⟩
        · rw [← hτ]; exact hr_rewrite _ (X_G_rewrite σ _ e1)
        · rw [m13, fm_I f6 (p := 41) (k := 0) rfl]; rfl
        · rw [fm_L f7 (p := 66) rfl, ← hτ]; rfl
        · rw [r1, m3]; exact hw1 i hi
        · rw [r40]
          obtain ⟨p, hp, e | ⟨hC, e⟩⟩ := nm_cov hi
          · rw [e, (w2.1 p (Nat.zero_le p) hp).2, m4 p hp]
          · rw [e, (w2.2 p (Nat.zero_le p) hp hC).2, m5 p hp hC]
        · rw [fm_I f7 (p := 10) (k := 6) rfl, fm_I f7 (p := 41) (k := 12) rfl, fm_I fτ (p := 10) (k := 6) rfl, fm_I fτ (p := 41) (k := 12) rfl]; exact hN.2.2.1.2.2.2
        · rw [m3]; exact Or.inr (nX hH hO)
        · rw [m3]; exact nO hH
        · rw [m3]; exact rDl_sm t2 (fm_sm f57 rfl)
        · refine ⟨⟨Or.inl ((fm_I f57 (p := 0) (k := 10) rfl).trans t8), fun y => ?_⟩, fun p hp y => ?_, fun q hq => Or.inl ?_⟩
          · rw [fm_I f57 (p := 0) (k := 10) rfl, t8] at y; exact absurd y (by decide)
          · rw [fm_A f57 (p := 23) rfl, t9 p (by omega)] at y; exact absurd rfl y
          · rw [fm_A f57 (p := 24) rfl]; exact t10 q (by omega)
        · exact ⟨⟨i6, Or.inl m11⟩, fun y => by rw [m11] at y; exact absurd y (by decide)⟩
      · exact absurd (q2 p hp k5) hbad
    · have e1 : F_G_rewrite σ = some (.inl (some (.int (-1))), s2) := by
        unfold F_G_rewrite R_G_needLoaded
        rw [if_neg z0, gd_q01, g1, gd_01, size, q1, gd_i1, if_pos (rfl : (0 : Int32) = 0)]
      have hN2 : rN n X s2 := rN_sc g3 p2 rfl rfl rfl rfl rfl (rSC_sm d3 (fm_sm p2 rfl))
      have hN3 := rN_t (rN_o hN2 (Int32.toInt64 (-1))) 0
      obtain ⟨s6, k1, k2, k3⟩ := kn_N hN3
      have f6 := K_M_know _ _ k1
      have w6 : gA s6 42 = W := (fm_A f6 (p := 42) rfl).trans ((fm_A p2 (p := 42) rfl).trans hW)
      have hwk : rwk W n s6 := ⟨w6, hok, hn, k3.2.1.2.2.1, hNN, fun p hp => by
        have := ((k3.2.2.2.2.2.2.2.2.2 k2).1 p hp).2.2.2
        rw [w6] at this; exact this⟩
      have h5 : ¬ gI (gs_L s2 66 0 (Int32.toInt64 (-1))) 41 5 = 0 := by
        rw [show gI (gs_L s2 66 0 (Int32.toInt64 (-1))) 41 5 = gI s2 41 5 from rfl, ← hN2.2.2.1.2.1.1, hN2.2.2.2.2.1]; decide
      rcases mr_all h5 k1 hwk with ⟨s7, m1, m2, _⟩ | ⟨s7, m1, _, m3⟩
      · obtain ⟨p, hp, k5, hbad⟩ := q2
        exact absurd (m2 p hp k5) hbad
      · refine ⟨0, -1, _, s7, hr_rewrite _ (X_G_rewrite σ _ e1), hN2.1, X_M_rewrite _ _ m1, ?_, fun _ => ?_, rel_fm (rN_rel k3) m3 rfl rfl rfl rfl rfl rfl⟩
        · rw [fm_I m3 (p := 41) (k := 0) rfl, fm_I f6 (p := 41) (k := 0) rfl]; rfl
        · rw [fm_L m3 (p := 66) rfl, fm_L f6 (p := 66) rfl]; rfl
