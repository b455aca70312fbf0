theorem st_rJ {W : Nat → Int32} {p : Nat} {s : gS} {m : mS} (h : aR s m) (hW : gA s 42 = W) (hp : p < 1040) (v : Int32) :
    ∃ s', (gd_qi (R_M_result (nI p) s) s fun r24 => if r24 ≤ 0 then (some (.inl none, s) : gR) else gd_qi (R_M_result (nI p) s) s fun r25 => gd_g (gd_in r25 32) <| gd_s (gs_A s 44 r25.toNatClampNeg v) fun s26 => some (.inl none, s26)) = some (.inl none, s') ∧ aR s' (mc_set m (sp_r W p).toNatClampNeg v) := by
  obtain ⟨d, hd, e⟩ := sp_rl W p
  rw [br_result hp, hW, e, gd_qi1, gi_cl (by omega)]
  by_cases z : d = 0
  · subst z
    rw [if_pos (show nI 0 = 0 from rfl), if_pos (by decide)]
    refine ⟨s, rfl, h.1, fun i hi => ?_, h.2.2⟩
    show _ = if i = 0 ∧ ¬ 0 = 0 then v else m.2.1 i
    rw [if_neg (fun y => y.2 rfl)]
    exact h.2.1 i hi
  · rw [if_neg (nI_ne0 (by omega) (by omega)), if_neg (nI_nle (by omega) (by omega)), gd_qi1, gd_gI (gi_in (by omega) (by omega)), gi_cl (by omega)]
    refine ⟨gs_A s 44 d v, rfl, h.1, fun i hi => ?_, h.2.2⟩
    show gA (gs_A s 44 d v) 44 i = if i = d ∧ ¬ d = 0 then v else m.2.1 i
    rw [gA_A, if_pos rfl]
    by_cases y : i = d
    · rw [if_pos y, if_pos ⟨y, z⟩]
    · rw [if_neg y, if_neg (fun x => y x.1)]
      exact h.2.1 i hi
theorem st_rJ0 {W : Nat → Int32} {p : Nat} {s : gS} {m : mS} (h : aR s m) (hW : gA s 42 = W) (hp : p < 1040) (hr : sp_r W p = 0) (v : Int32) :
    ∃ s', (gd_qi (R_M_result (nI p) s) s fun r24 => if r24 ≤ 0 then (some (.inl none, s) : gR) else gd_qi (R_M_result (nI p) s) s fun r25 => gd_g (gd_in r25 32) <| gd_s (gs_A s 44 r25.toNatClampNeg v) fun s26 => some (.inl none, s26)) = some (.inl none, s') ∧ aR s' m := by
  obtain ⟨s', q1, q2⟩ := st_rJ h hW hp v
  refine ⟨s', q1, q2.1, fun i hi => ?_, q2.2.2⟩
  rw [hr] at q2
  have := q2.2.1 i hi
  rw [this]
  show (if i = 0 ∧ ¬ 0 = 0 then v else m.2.1 i) = m.2.1 i
  rw [if_neg (fun y => y.2 rfl)]
theorem st_reg {s : gS} {m : mS} (h : aR s m) (hc : m.2.2.2.2 ≤ 2046) (w : Int32) :
    ∃ s', F_M_reg w s = some (.inl (some (.int (mc_al w (m.2.1 (f_M_a w).toNatClampNeg) (m.2.1 (f_M_b w).toNatClampNeg)))), s') ∧ gA s' 42 = gA s 42 ∧ aR s' (if f_M_g w = 1 ∧ 4 ≤ f_M_f w then mc_tell (mc_tell m 3 (m.2.1 (f_M_a w).toNatClampNeg)) 4 (m.2.1 (f_M_b w).toNatClampNeg) else m) := by
  obtain ⟨a, ha, ea⟩ := sp_al w
  obtain ⟨b, hb, eb⟩ := sp_bl w
  obtain ⟨k, hk, ek⟩ := sp_fl w
  unfold F_M_reg mc_al
  rw [ea, eb, gd_gI (gi_in (by omega) (by omega)), gd_gI (gi_in (by omega) (by omega)), gi_cl (by omega), gi_cl (by omega), h.2.1 a (by omega), h.2.1 b (by omega)]
  by_cases hg : f_M_g w = 1
  · rw [if_pos hg, if_pos hg, ek]
    by_cases h4 : 4 ≤ nI k
    · have hk4 := (gi_le (a := 4) (by omega) (by omega)).mp h4
      rw [if_pos h4, if_pos h4, if_pos ⟨hg, h4⟩]
      obtain ⟨e1, a1⟩ := st_radd h (by omega) 3 (m.2.1 a)
      obtain ⟨e2, a2⟩ := st_radd a1 (show m.2.2.2.2 + 1 < 2048 by omega) 4 (m.2.1 b)
      rw [e1, gd_01, e2, gd_01, al_dr (by omega), gd_qi1]
      exact ⟨_, rfl, rfl, a2⟩
    · rw [if_neg h4, if_neg h4, if_neg (show ¬ (f_M_g w = 1 ∧ 4 ≤ nI k) from fun z => h4 z.2)]
      exact ⟨_, rfl, rfl, h⟩
  · rw [if_neg hg, if_neg hg, if_neg (show ¬ (f_M_g w = 1 ∧ 4 ≤ f_M_f w) from fun z => hg z.1), gd_t1]
    exact ⟨_, rfl, rfl, h⟩
theorem st_lval {s : gS} {m : mS} (h : aR s m) (hc : m.2.2.2.2 ≤ 2046) {w : Int32} (hk : f_M_kindOf w = 3) (a : Int32) :
    ∃ s', F_M_loadedValue w a s = some (.inl (some (.int (mc_ld w m.2.2.1 a))), s') ∧ gA s' 42 = gA s 42 ∧ aR s' (mc_tell m 1 a) := by
  obtain ⟨e1, a1⟩ := st_radd h (by omega) 1 a
  have r1 := st_rread a1 (b := 1) (Or.inl rfl) a
  have r2 := st_rread a1 (b := 2) (Or.inr (Or.inl rfl)) a
  have r4 := st_rread a1 (b := 4) (Or.inr (Or.inr rfl)) a
  unfold F_M_loadedValue mc_ld
  rw [e1, gd_01]
  refine ⟨st_rAdd s 1 a, ?_, rfl, a1⟩
  rcases al_k3 hk with e | e | e | e | e
  · rw [e, if_pos rfl, if_pos rfl]
    rw [show R_M_read a 1 (st_rAdd s 1 a) = _ from r1]
    rfl
  · rw [e, if_neg (by decide), if_pos rfl, if_neg (by decide), if_pos rfl]
    rw [show R_M_read a 2 (st_rAdd s 1 a) = _ from r2]
    rfl
  · rw [e, if_neg (by decide), if_neg (by decide), if_pos rfl, if_neg (by decide), if_neg (by decide), if_pos rfl]
    rw [show R_M_read a 4 (st_rAdd s 1 a) = _ from r4]
    rfl
  · rw [e, if_neg (by decide), if_neg (by decide), if_neg (by decide), if_neg (by decide), if_pos rfl, if_neg (by decide), if_neg (by decide), if_neg (by decide), if_pos rfl]
    rw [show R_M_read a 1 (st_rAdd s 1 a) = _ from r1]
    rfl
  · rw [e, if_neg (by decide), if_neg (by decide), if_neg (by decide), if_neg (by decide), if_neg (by decide), if_neg (by decide), if_neg (by decide), if_neg (by decide), if_neg (by decide)]
    rw [show R_M_read a 2 (st_rAdd s 1 a) = _ from r2]
    rfl
theorem st_sz {w : Int32} (h : f_M_kindOf w = 4) : mc_b (mc_sz w) ∧ (1 : Int32) <<< ((f_M_f w) &&& 31) = nI (mc_sz w) ∧ (1 : Int32) <<< (((f_M_f w) &&& (3 : Int32)) &&& 31) = nI (mc_sz w) := by
  unfold mc_sz
  rcases al_k4 h with e | e | e
  · rw [e, if_pos rfl]; exact ⟨Or.inl rfl, by decide, by decide⟩
  · rw [e, if_neg (by decide), if_pos rfl]; exact ⟨Or.inr (Or.inl rfl), by decide, by decide⟩
  · rw [e, if_neg (by decide), if_neg (by decide)]; exact ⟨Or.inr (Or.inr rfl), by decide, by decide⟩
theorem st_rstep {W : Nat → Int32} {n : Nat} {σ : gS} {m : mS} (hW : gA σ 42 = W) (hok : sp_ok W n) (hn : n ≤ 1040) (h : aR σ m) (hp : m.1 < n) (hc : m.2.2.2.2 ≤ 2046) :
    ∃ σ', F_M_runOne σ = some (.inl none, σ') ∧ aR σ' (mc_step W m) := by
  obtain ⟨k, hk, e⟩ := sp_okk hok hp
  have h1 : aR (gs_I σ 41 7 (nI m.1 + 1)) (mc_go m (m.1 + 1)) := aR_go h (nI_1 _)
  unfold F_M_runOne
  rw [h.1, gd_gI (gi_in (by omega) (by omega)), br_kindN (by omega), gd_qi1, gd_s1, gd_j1, gi_cl (by omega), hW, e]
  obtain ⟨a, ha, ea⟩ := sp_al (W m.1)
  obtain ⟨b, hb, eb⟩ := sp_bl (W m.1)
  have hx : mc_x W m = m.2.1 a := by unfold mc_x; rw [ea, gi_cl (by omega)]
  have hy : mc_y W m = m.2.1 b := by unfold mc_y; rw [eb, gi_cl (by omega)]
  have hnum := st_num (p := m.1) (by omega) (gs_I σ 41 7 (nI m.1 + 1))
  rw [show gA (gs_I σ 41 7 (nI m.1 + 1)) 42 = W from hW] at hnum
  have hra : gA (gs_I σ 41 7 (nI m.1 + 1)) 44 a = m.2.1 a := h.2.1 a (by omega)
  have hrb : gA (gs_I σ 41 7 (nI m.1 + 1)) 44 b = m.2.1 b := h.2.1 b (by omega)
  have hcase : k = 0 ∨ k = 1 ∨ k = 2 ∨ k = 3 ∨ k = 4 ∨ k = 5 ∨ k = 6 ∨ k = 7 ∨ k = 8 := by omega
  unfold mc_step
  rw [e]
  rcases hcase with rfl | rfl | rfl | rfl | rfl | rfl | rfl | rfl | rfl
  · simp only [if_pos (show nI 0 = 0 from rfl)]
    obtain ⟨s', r1, r2, r3⟩ := st_reg h1 hc (W m.1)
    rw [r1, gd_i1]
    have r4 : gA s' 42 = W := r2.trans hW
    obtain ⟨s2, q1, q2⟩ := st_rJ r3 r4 (by omega : m.1 < 1040) (mc_al (W m.1) (mc_x W m) (mc_y W m))
    refine ⟨s2, q1, ?_⟩
    unfold mc_s0
    by_cases hd : f_M_g (W m.1) = 1 ∧ 4 ≤ f_M_f (W m.1)
    · rw [if_pos hd] at q2 ⊢; exact q2
    · rw [if_neg hd] at q2 ⊢; exact q2
  · simp only [if_neg (show ¬ nI 1 = 0 by decide), if_pos (show nI 1 = 1 from rfl)]
    rw [ea, gd_gI (gi_in (by omega) (by omega)), hnum, gd_qi1, gd_t1, gi_cl (by omega), hra, hx]
    exact st_rJ h1 (show gA (gs_I σ 41 7 (nI m.1 + 1)) 42 = W from hW) (by omega : m.1 < 1040) _
  · simp only [if_neg (show ¬ nI 2 = 0 by decide), if_neg (show ¬ nI 2 = 1 by decide), if_pos (show nI 2 = 2 from rfl)]
    rw [hnum, gd_qi1]
    exact st_rJ h1 (show gA (gs_I σ 41 7 (nI m.1 + 1)) 42 = W from hW) (by omega : m.1 < 1040) _
  · simp only [if_neg (show ¬ nI 3 = 0 by decide), if_neg (show ¬ nI 3 = 1 by decide), if_neg (show ¬ nI 3 = 2 by decide), if_pos (show nI 3 = 3 from rfl)]
    rw [ea, gd_gI (gi_in (by omega) (by omega)), hnum, gd_qi1, gi_cl (by omega), hra, hx]
    obtain ⟨s', r1, r2, r3⟩ := st_lval h1 hc (w := W m.1) e (m.2.1 a + mc_n W m)
    rw [show F_M_loadedValue (W m.1) (m.2.1 a + f_Listing_numberOf (sp_k W m.1) (W m.1)) (gs_I σ 41 7 (nI m.1 + 1)) = _ from r1, gd_i1]
    exact st_rJ r3 (show gA s' 42 = W from r2.trans hW) (by omega : m.1 < 1040) _
  · obtain ⟨z1, z2, -⟩ := st_sz (w := W m.1) e
    simp only [if_neg (show ¬ nI 4 = 0 by decide), if_neg (show ¬ nI 4 = 1 by decide), if_neg (show ¬ nI 4 = 2 by decide), if_neg (show ¬ nI 4 = 3 by decide), if_pos (show nI 4 = 4 from rfl)]
    rw [ea, gd_gI (gi_in (by omega) (by omega)), hnum, gd_qi1, gi_cl (by omega), hra, hx, hy]
    obtain ⟨e1, a1⟩ := st_radd h1 (show m.2.2.2.2 < 2048 by omega) 2 (m.2.1 a + mc_n W m)
    rw [show F_M_tell 2 (m.2.1 a + f_Listing_numberOf (sp_k W m.1) (W m.1)) (gs_I σ 41 7 (nI m.1 + 1)) = _ from e1, gd_01, eb, gd_gI (gi_in (by omega) (by omega)), gi_cl (by omega), z2]
    rw [show gA (st_rAdd (gs_I σ 41 7 (nI m.1 + 1)) 2 (m.2.1 a + mc_n W m)) 44 b = m.2.1 b from hrb]
    rw [mc_writeR z1, gd_01]
    have a2 := st_rmem a1 (b := mc_sz (W m.1)) (m.2.1 a + mc_n W m) (m.2.1 b)
    have hr0 : sp_r W m.1 = 0 := by unfold sp_r; rw [e, if_pos (by decide)]
    exact st_rJ0 a2 (show gA _ 42 = W from hW) (by omega : m.1 < 1040) hr0 0
  · simp only [if_neg (show ¬ nI 5 = 0 by decide), if_neg (show ¬ nI 5 = 1 by decide), if_neg (show ¬ nI 5 = 2 by decide), if_neg (show ¬ nI 5 = 3 by decide), if_neg (show ¬ nI 5 = 4 by decide), if_pos (show nI 5 = 5 from rfl)]
    rw [ea, eb, gd_gI (gi_in (by omega) (by omega)), gd_gI (gi_in (by omega) (by omega)), gi_cl (by omega), gi_cl (by omega), hra, hrb, hx, hy]
    obtain ⟨g1, g2⟩ := st_goal (σ := gs_I σ 41 7 (nI m.1 + 1)) hW hok hn hp e (m.2.1 a) (m.2.1 b)
    rw [g1, gd_qi1, gd_s1]
    have h2 : aR (gs_I (gs_I σ 41 7 (nI m.1 + 1)) 41 7 (nI (mc_gl W m.1 (m.2.1 a) (m.2.1 b)))) (mc_go m (mc_gl W m.1 (m.2.1 a) (m.2.1 b))) := aR_go h1 rfl
    obtain ⟨e1, a1⟩ := st_radd h2 (show m.2.2.2.2 < 2048 by omega) 0 (nI (mc_gl W m.1 (m.2.1 a) (m.2.1 b)))
    rw [show F_M_tell 0 (gI (gs_I (gs_I σ 41 7 (nI m.1 + 1)) 41 7 (nI (mc_gl W m.1 (m.2.1 a) (m.2.1 b)))) 41 7) (gs_I (gs_I σ 41 7 (nI m.1 + 1)) 41 7 (nI (mc_gl W m.1 (m.2.1 a) (m.2.1 b)))) = _ from e1, gd_01]
    have hr0 : sp_r W m.1 = 0 := by unfold sp_r; rw [e, if_pos (by decide)]
    exact st_rJ0 a1 (show gA _ 42 = W from hW) (by omega : m.1 < 1040) hr0 0
  · simp only [if_neg (show ¬ nI 6 = 0 by decide), if_neg (show ¬ nI 6 = 1 by decide), if_neg (show ¬ nI 6 = 2 by decide), if_neg (show ¬ nI 6 = 3 by decide), if_neg (show ¬ nI 6 = 4 by decide), if_neg (show ¬ nI 6 = 5 by decide), if_pos (show nI 6 = 6 from rfl)]
    obtain ⟨t, ht, et⟩ := sp_tgt hok hn hp (Or.inr e)
    have ht2 := br_targetN (p := m.1) (by omega) (gs_I σ 41 7 (nI m.1 + 1))
    rw [show gA (gs_I σ 41 7 (nI m.1 + 1)) 42 = W from hW, et] at ht2
    have e1 : sp_t W m.1 = nI t := by unfold sp_t; rw [if_pos (show sp_k W m.1 = 5 ∨ sp_k W m.1 = 6 from Or.inr e)]; exact et
    rw [ht2, gd_qi1, gd_s1, e1, gi_cl (by omega)]
    have h2 : aR (gs_I (gs_I σ 41 7 (nI m.1 + 1)) 41 7 (nI t)) (mc_go m t) := aR_go h1 rfl
    obtain ⟨e1, a1⟩ := st_radd h2 (show m.2.2.2.2 < 2048 by omega) 0 (nI t)
    rw [show F_M_tell 0 (gI (gs_I (gs_I σ 41 7 (nI m.1 + 1)) 41 7 (nI t)) 41 7) (gs_I (gs_I σ 41 7 (nI m.1 + 1)) 41 7 (nI t)) = _ from e1, gd_01]
    have hr0 : sp_r W m.1 = 0 := by unfold sp_r; rw [e, if_pos (by decide)]
    exact st_rJ0 a1 (show gA _ 42 = W from hW) (by omega : m.1 < 1040) hr0 0
  · simp only [if_neg (show ¬ nI 7 = 0 by decide), if_neg (show ¬ nI 7 = 1 by decide), if_neg (show ¬ nI 7 = 2 by decide), if_neg (show ¬ nI 7 = 3 by decide), if_neg (show ¬ nI 7 = 4 by decide), if_neg (show ¬ nI 7 = 5 by decide), if_neg (show ¬ nI 7 = 6 by decide)]
    have hr0 : sp_r W m.1 = 0 := by unfold sp_r; rw [e, if_pos (by decide)]
    exact st_rJ0 h1 (show gA _ 42 = W from hW) (by omega : m.1 < 1040) hr0 0
  · simp only [if_neg (show ¬ nI 8 = 0 by decide), if_neg (show ¬ nI 8 = 1 by decide), if_neg (show ¬ nI 8 = 2 by decide), if_neg (show ¬ nI 8 = 3 by decide), if_neg (show ¬ nI 8 = 4 by decide), if_neg (show ¬ nI 8 = 5 by decide), if_neg (show ¬ nI 8 = 6 by decide)]
    have hr0 : sp_r W m.1 = 0 := by unfold sp_r; rw [e, if_pos (by decide)]
    exact st_rJ0 h1 (show gA _ 42 = W from hW) (by omega : m.1 < 1040) hr0 0
