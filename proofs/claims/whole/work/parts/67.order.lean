abbrev mc_g0 (W : Nat → Int32) (n : Nat) (wd : Int32) (m : mS) (ks : List kE) : Prop := m.1 < n ∧ sp_k W m.1 = 5 ∧ ks.length < 16 ∧ mc_fu wd ks = 0
abbrev mc_a0 (W : Nat → Int32) (n : Nat) (wd : Int32) (m : mS) (ks : List kE) : Prop := mc_can W n m ∧ ¬ sp_k W m.1 = 5 ∧ ¬ (sp_k W m.1 = 7 ∧ 0 < ks.length) ∧ mc_fu wd ks = 0
noncomputable def mc_ge (W : Nat → Int32) (n : Nat) (wd : Int32) (v : Nat) (m : mS) (ks : List kE) : Int32 × mS × List kE := if mc_g0 W n wd m ks then (0, mc_go m v, ks.map ke_up ++ [(m.1, nI v, 0, m.2.1, m.2.2.1)]) else (-1, m, ks)
noncomputable def mc_ah (W : Nat → Int32) (n : Nat) (wd : Int32) (m : mS) (ks : List kE) : Int32 × mS × List kE := if mc_a0 W n wd m ks then (0, mc_step W m, ks.map ke_up) else (-1, m, ks)
noncomputable def mc_re (W : Nat → Int32) (m : mS) (ks : List kE) : Int32 × mS × List kE := match ks with
  | [] => (-1, m, [])
  | e :: t => if m.2.2.2.2 ≤ 2046 then (if nI (ke_o W e) = e.2.1 then (1, mc_tell m 0 (nI (ke_o W e)), t) else (2, (ke_o W e, e.2.2.2.1, e.2.2.2.2, (mc_tell m 0 (nI (ke_o W e))).2.2.2), [])) else (-1, m, e :: t)
noncomputable def mc_ord (W : Nat → Int32) (n : Nat) (wd : Int32) (r : Nat) (m : mS) (ks : List kE) : Int32 × mS × List kE := match r with
  | 0 => mc_ah W n wd m ks
  | 1 => mc_ge W n wd (m.1 + 1) m ks
  | 2 => mc_ge W n wd (sp_t W m.1).toNatClampNeg m ks
  | _ => mc_re W m ks
theorem ke_upok {W : Nat → Int32} {n : Nat} {ks : List kE} (h : ke_ok W n ks) : ke_ok W n (ks.map ke_up) := by
  intro e he
  obtain ⟨e0, h0, rfl⟩ := List.mem_map.mp he
  exact h e0 h0
theorem mc_gok {W : Nat → Int32} {n : Nat} {wd : Int32} {v : Nat} {m : mS} {ks : List kE} (hm : mc_ok n m) (hk : ke_ok W n ks) (hv : m.1 < n → sp_k W m.1 = 5 → v ≤ n) : mc_ok n (mc_ge W n wd v m ks).2.1 ∧ ke_ok W n (mc_ge W n wd v m ks).2.2 := by
  unfold mc_ge
  by_cases c : mc_g0 W n wd m ks
  · rw [if_pos c]
    refine ⟨⟨hv c.1 c.2.1, hm.2.1, hm.2.2⟩, fun e he => ?_⟩
    rcases List.mem_append.mp he with he | he
    · exact ke_upok hk e he
    · have he : e = (m.1, nI v, 0, m.2.1, m.2.2.1) := by simpa using he
      subst he
      exact ⟨c.1, c.2.1, hm.2.1⟩
  · rw [if_neg c]; exact ⟨hm, hk⟩
theorem mc_ook {W : Nat → Int32} {n : Nat} {wd : Int32} {r : Nat} {m : mS} {ks : List kE} (hok : sp_ok W n) (hn : n ≤ 1040) (hm : mc_ok n m) (hk : ke_ok W n ks) : mc_ok n (mc_ord W n wd r m ks).2.1 ∧ ke_ok W n (mc_ord W n wd r m ks).2.2 := by
  match r with
  | 0 =>
    show mc_ok n (mc_ah W n wd m ks).2.1 ∧ ke_ok W n (mc_ah W n wd m ks).2.2
    unfold mc_ah
    by_cases c : mc_a0 W n wd m ks
    · rw [if_pos c]; exact ⟨mc_sok hok hn hm c.1.1 c.1.2.2, ke_upok hk⟩
    · rw [if_neg c]; exact ⟨hm, hk⟩
  | 1 => exact mc_gok hm hk (fun z _ => by omega)
  | 2 =>
    refine mc_gok hm hk (fun z y => ?_)
    obtain ⟨t, ht, et⟩ := sp_tgt hok hn z (Or.inl y)
    have e1 : sp_t W m.1 = nI t := by unfold sp_t; rw [if_pos (show sp_k W m.1 = 5 ∨ sp_k W m.1 = 6 from Or.inl y)]; exact et
    rw [e1, gi_cl (by omega)]; exact ht
  | r + 3 =>
    show mc_ok n (mc_re W m ks).2.1 ∧ ke_ok W n (mc_re W m ks).2.2
    unfold mc_re
    match ks, hk with
    | [], hk => exact ⟨hm, hk⟩
    | e :: t, hk =>
      have he := hk e (List.mem_cons_self)
      simp only []
      by_cases c : m.2.2.2.2 ≤ 2046
      · rw [if_pos c]
        by_cases c2 : nI (ke_o W e) = e.2.1
        · rw [if_pos c2]
          exact ⟨⟨hm.1, hm.2.1, show m.2.2.2.2 + 1 ≤ 2048 by omega⟩, fun x hx => hk x (List.mem_cons_of_mem _ hx)⟩
        · rw [if_neg c2]
          exact ⟨⟨mc_gll hok hn he.1 he.2.1 _ _, he.2.2, show m.2.2.2.2 + 1 ≤ 2048 by omega⟩, fun x hx => by cases hx⟩
      · rw [if_neg c]; exact ⟨hm, hk⟩
theorem gC_step {W : Nat → Int32} {σ : gS} {o : Nat} {ks : List kE} (h : gC W σ o ks) : gC W (gs_I σ 15 7 (gI σ 15 7 + 1)) o (ks.map ke_up) := by
  obtain ⟨⟨h1, h2⟩, ⟨h3, h4⟩, h5⟩ := h
  refine ⟨⟨h1, by simpa using h2⟩, ⟨h3, by rw [List.length_map]; exact h4⟩, fun i e he => ?_⟩
  rw [List.getElem?_map] at he
  cases hk : ks[i]? with
  | none => rw [hk] at he; cases he
  | some e0 =>
    rw [hk] at he
    have he : ke_up e0 = e := by simpa using he
    subst he
    obtain ⟨b1, b2, b3, b4, b5⟩ := h5 i e0 hk
    refine ⟨b1, b2, ?_, b4, b5⟩
    show gI σ 15 7 + 1 - gA σ 20 ((o + i) % 16) = e0.2.2.1 + 1
    rw [i3_s1, b3]
theorem gK_step {σ : gS} {ks : List kE} (h : gK σ ks) : gK (gs_I σ 41 19 (gI σ 41 19 + 1)) (ks.map ke_up) := by
  obtain ⟨h2, h4, h5⟩ := h
  refine ⟨by simpa using h2, by rw [List.length_map]; exact h4, fun i e he => ?_⟩
  rw [List.getElem?_map] at he
  cases hk : ks[i]? with
  | none => rw [hk] at he; cases he
  | some e0 =>
    rw [hk] at he
    have he : ke_up e0 = e := by simpa using he
    subst he
    obtain ⟨b1, b2, b3, b4, b5⟩ := h5 i e0 hk
    refine ⟨b1, b2, ?_, b4, b5⟩
    show gI σ 41 19 + 1 - gA σ 51 i = e0.2.2.1 + 1
    rw [i3_s1, b3]
theorem mc_fu01 (w : Int32) (ks : List kE) : mc_fu w ks = 0 ∨ mc_fu w ks = 1 := by
  unfold mc_fu
  cases ks with
  | nil => exact Or.inl rfl
  | cons e t =>
    by_cases c : e.2.2.1 < w
    · exact Or.inl (if_pos c)
    · exact Or.inr (if_neg c)
theorem co_ahead {W : Nat → Int32} {n : Nat} {σ : gS} {o : Nat} {ks : List kE} {m : mS} (hW : gA σ 42 = W) (hD : rD n σ) (h : gC W σ o ks) (hm : aC σ m) (mk : mc_ok n m) :
    ∃ s1, F_Machine_runAhead σ = some (.inl (some (.int (mc_ah W n (gI σ 10 6) m ks).1)), s1) ∧ aC s1 (mc_ah W n (gI σ 10 6) m ks).2.1 ∧ gC W s1 o (mc_ah W n (gI σ 10 6) m ks).2.2 := by
  have hl := h.1.2
  unfold F_Machine_runAhead mc_ah
  rw [hm.1, co_isAt hW hD mk.1, gd_qi1, gd_t1, h.2.1.2, st_can hW hD hm mk, gd_qi1, co_isAt hW hD mk.1]
  by_cases c1 : mc_can W n m
  · rw [if_pos c1, if_neg (show ¬ (1 : Int32) = 0 by decide), gd_qi1]
    by_cases c2 : sp_k W m.1 = 5
    · rw [if_pos (show m.1 < n ∧ sp_k W m.1 = 5 from ⟨c1.1, c2⟩), if_neg (show ¬ (1 : Int32) = 0 by decide), if_neg (show ¬ mc_a0 W n (gI σ 10 6) m ks from fun z => z.2.1 c2)]
      exact ⟨σ, rfl, hm, h⟩
    · rw [if_neg (show ¬ (m.1 < n ∧ sp_k W m.1 = 5) from fun z => c2 z.2), if_pos rfl]
      by_cases c3 : sp_k W m.1 = 7 ∧ 0 < ks.length
      · rw [if_pos (show m.1 < n ∧ sp_k W m.1 = 7 from ⟨c1.1, c3.1⟩), if_neg (show ¬ (1 : Int32) = 0 by decide), if_neg (nI_nle c3.2 (by omega)), if_neg (show ¬ (1 : Int32) = 0 by decide), if_neg (show ¬ mc_a0 W n (gI σ 10 6) m ks from fun z => z.2.2.1 c3)]
        exact ⟨σ, rfl, hm, h⟩
      · have e0 : (if (if m.1 < n ∧ sp_k W m.1 = 7 then (1 : Int32) else 0) = 0 then (0 : Int32) else if nI ks.length ≤ 0 then 0 else 1) = 0 := by
          by_cases c4 : m.1 < n ∧ sp_k W m.1 = 7
          · rw [if_pos c4, if_neg (show ¬ (1 : Int32) = 0 by decide)]
            have : ks.length = 0 := by
              have h9 : ¬ 0 < ks.length := fun z => c3 ⟨c4.2, z⟩
              omega
            rw [this, if_pos (by decide)]
          · rw [if_neg c4, if_pos rfl]
        rw [e0, if_pos rfl, cr_full h, gd_qi1]
        by_cases c5 : mc_fu (gI σ 10 6) ks = 0
        · rw [if_pos c5, if_pos (show mc_a0 W n (gI σ 10 6) m ks from ⟨c1, c2, c3, c5⟩)]
          obtain ⟨s', f1, f2⟩ := st_cstep hW hD hm mk.2.1 c1.1 c1.2.2
          have fr := K_Machine_step σ _ f1
          rw [f1, gd_01]
          unfold F_Guesses_countStep
          rw [gd_s1, gd_01]
          exact ⟨_, rfl, f2, gC_step (gC_sm h (fm_sm fr rfl))⟩
        · rw [if_neg c5, if_neg (show ¬ mc_a0 W n (gI σ 10 6) m ks from fun z => c5 z.2.2.2)]
          exact ⟨σ, rfl, hm, h⟩
  · rw [if_neg c1, if_pos rfl, if_neg (show ¬ mc_a0 W n (gI σ 10 6) m ks from fun z => c1 z.1)]
    exact ⟨σ, rfl, hm, h⟩
theorem co_ord {W : Nat → Int32} {n : Nat} {σ : gS} {o : Nat} {ks : List kE} {m : mS} (hW : gA σ 42 = W) (hD : rD n σ) (h : gC W σ o ks) (hm : aC σ m) (mk : mc_ok n m) {r : Nat} (hr : r < 4) :
    ∃ s1 o', F_Machine_obey (nI r) σ = some (.inl (some (.int (mc_ord W n (gI σ 10 6) r m ks).1)), s1) ∧ aC s1 (mc_ord W n (gI σ 10 6) r m ks).2.1 ∧ gC W s1 o' (mc_ord W n (gI σ 10 6) r m ks).2.2 := by
  unfold F_Machine_obey
  have : r = 0 ∨ r = 1 ∨ r = 2 ∨ r = 3 := by omega
  rcases this with rfl | rfl | rfl | rfl
  · rw [if_pos (show nI 0 = 0 from rfl)]
    obtain ⟨s1, f1, f2, f3⟩ := co_ahead hW hD h hm mk
    rw [f1, gd_i1]
    exact ⟨s1, o, rfl, f2, f3⟩
  · rw [if_neg (show ¬ nI 1 = 0 by decide), if_pos (show nI 1 = 1 from rfl)]
    obtain ⟨s1, f1, f2, f3⟩ := co_guess hW hD h hm mk.2.1 mk.1 0
    rw [f1, gd_i1]
    rw [show mc_ord W n (gI σ 10 6) 1 m ks = mc_ge W n (gI σ 10 6) (m.1 + 1) m ks from rfl]
    unfold mc_ge
    by_cases c : mc_g0 W n (gI σ 10 6) m ks
    · rw [if_pos c, if_pos c]
      obtain ⟨g1, g2⟩ := f2 c
      rw [if_pos rfl] at g1 g2
      exact ⟨s1, o, rfl, g2, g1⟩
    · rw [if_neg c, if_neg c]
      have := f3 c
      subst this
      exact ⟨s1, o, rfl, hm, h⟩
  · rw [if_neg (show ¬ nI 2 = 0 by decide), if_neg (show ¬ nI 2 = 1 by decide), if_pos (show nI 2 = 2 from rfl)]
    obtain ⟨s1, f1, f2, f3⟩ := co_guess hW hD h hm mk.2.1 mk.1 1
    rw [f1, gd_i1]
    rw [show mc_ord W n (gI σ 10 6) 2 m ks = mc_ge W n (gI σ 10 6) (sp_t W m.1).toNatClampNeg m ks from rfl]
    unfold mc_ge
    by_cases c : mc_g0 W n (gI σ 10 6) m ks
    · rw [if_pos c, if_pos c]
      obtain ⟨g1, g2⟩ := f2 c
      rw [if_neg (show ¬ (1 : Int32) = 0 by decide)] at g1 g2
      exact ⟨s1, o, rfl, g2, g1⟩
    · rw [if_neg c, if_neg c]
      have := f3 c
      subst this
      exact ⟨s1, o, rfl, hm, h⟩
  · rw [if_neg (show ¬ nI 3 = 0 by decide), if_neg (show ¬ nI 3 = 1 by decide), if_neg (show ¬ nI 3 = 2 by decide)]
    rw [show mc_ord W n (gI σ 10 6) 3 m ks = mc_re W m ks from rfl]
    obtain ⟨g1, g2⟩ := co_resolve (n := n) h hm mk.2.2
    unfold mc_re
    match ks, h, g1, g2 with
    | [], h, g1, g2 =>
      rw [g1 (Or.inl rfl), gd_i1]
      exact ⟨σ, o, rfl, hm, h⟩
    | e :: t, h, g1, g2 =>
      simp only []
      by_cases c : m.2.2.2.2 ≤ 2046
      · rw [if_pos c]
        obtain ⟨q1, q2⟩ := g2 e t rfl c
        by_cases c2 : nI (ke_o W e) = e.2.1
        · rw [if_pos c2]
          obtain ⟨s1, k1, k2, k3⟩ := q1 c2
          rw [k1, gd_i1]
          exact ⟨s1, _, rfl, k3, k2⟩
        · rw [if_neg c2]
          obtain ⟨s1, k1, k2, k3⟩ := q2 c2
          rw [k1, gd_i1]
          exact ⟨s1, _, rfl, k3, k2⟩
      · rw [if_neg c, g1 (Or.inr c), gd_i1]
        exact ⟨σ, o, rfl, hm, h⟩
theorem ro_ord {W : Nat → Int32} {n : Nat} {σ : gS} {ks : List kE} {m : mS} (hW : gA σ 42 = W) (hok : sp_ok W n) (hn : n ≤ 1040) (hs : gI σ 41 2 = nI n) (h5 : ¬ gI σ 41 5 = 0) (h : gK σ ks) (hm : aR σ m) (mk : mc_ok n m) (kk : ke_ok W n ks) {r : Nat} (hr : r < 4) :
    ∃ s2, F_M_order (nI r) σ = some (.inl (some (.int (mc_ord W n (gI σ 41 12) r m ks).1)), s2) ∧ aR s2 (mc_ord W n (gI σ 41 12) r m ks).2.1 ∧ gK s2 (mc_ord W n (gI σ 41 12) r m ks).2.2 ∧ gI s2 41 0 = 0 := by
  unfold F_M_order
  rw [gd_t1, if_neg h5, if_neg (nI_pos (by omega)), if_pos (show nI r ≤ 3 from (gi_le (b := 3) (by omega) (by omega)).mpr (by omega)), gd_s1, th0, if_pos (show (0 : Int32) ≤ 0 by decide)]
  have hW' : gA (gs_I σ 41 0 0) 42 = W := hW
  have hs' : gI (gs_I σ 41 0 0) 41 2 = nI n := hs
  have h' : gK (gs_I σ 41 0 0) ks := h
  have hm' : aR (gs_I σ 41 0 0) m := hm
  have t0 : gI (gs_I σ 41 0 0) 41 0 = 0 := rfl
  rw [show gI σ 41 12 = gI (gs_I σ 41 0 0) 41 12 from rfl]
  generalize gs_I σ 41 0 0 = τ at *
  have : r = 0 ∨ r = 1 ∨ r = 2 ∨ r = 3 := by omega
  rcases this with rfl | rfl | rfl | rfl
  · rw [if_neg (show ¬ nI 0 = 3 by decide), if_pos (show nI 0 ≤ 0 by decide)]
    rw [show mc_ord W n (gI τ 41 12) 0 m ks = mc_ah W n (gI τ 41 12) m ks from rfl]
    unfold mc_ah
    have hp := mk.1
    have hl := h'.1
    rw [hm'.1, hs', hm'.2.2.2.1, h'.2.1]
    have no : ¬ mc_a0 W n (gI τ 41 12) m ks → (if mc_a0 W n (gI τ 41 12) m ks then ((0, mc_step W m, ks.map ke_up) : Int32 × mS × List kE) else (-1, m, ks)) = (-1, m, ks) := fun z => if_neg z
    by_cases c1 : m.1 < n
    · rw [if_neg (fun z => by have := (gi_eq (by omega) (by omega)).mp z; omega), rr_full h', gd_qi1]
      by_cases c5 : mc_fu (gI τ 41 12) ks = 0
      · rw [if_pos c5]
        by_cases c6 : m.2.2.2.2 ≤ 2046
        · have hct := mk.2.2
          rw [if_pos (show nI m.2.2.2.2 ≤ 2046 from (gi_le (b := 2046) (by omega) (by omega)).mpr c6), br_kindN (by omega), gd_qi1, hW']
          by_cases c2 : sp_k W m.1 = 5
          · rw [if_pos c2, no (fun z => z.2.1 c2)]; exact ⟨τ, rfl, hm', h', t0⟩
          · rw [if_neg c2]
            by_cases c8 : sp_k W m.1 = 8
            · rw [if_pos c8, no (fun z => z.1.2.1 c8)]; exact ⟨τ, rfl, hm', h', t0⟩
            · rw [if_neg c8, gd_j1]
              obtain ⟨s', f1, f2⟩ := st_rstep hW' hok hn hm' c1 c6
              have fr := K_M_runOne τ _ f1
              have J6 : (gd_0 (F_M_runOne τ) fun s7 => gd_s (gs_I s7 41 19 ((gI s7 41 19) + (1 : Int32))) fun s8 => (some (.inl (some (.int 0)), s8) : gR)) = some (.inl (some (.int 0)), gs_I s' 41 19 (gI s' 41 19 + 1)) := by rw [f1, gd_01, gd_s1]
              rw [J6]
              have yes : mc_a0 W n (gI τ 41 12) m ks → ∃ s2, (some (.inl (some (.int 0)), gs_I s' 41 19 (gI s' 41 19 + 1)) : gR) = some (.inl (some (.int (if mc_a0 W n (gI τ 41 12) m ks then ((0, mc_step W m, ks.map ke_up) : Int32 × mS × List kE) else (-1, m, ks)).1)), s2) ∧ aR s2 (if mc_a0 W n (gI τ 41 12) m ks then ((0, mc_step W m, ks.map ke_up) : Int32 × mS × List kE) else (-1, m, ks)).2.1 ∧ gK s2 (if mc_a0 W n (gI τ 41 12) m ks then ((0, mc_step W m, ks.map ke_up) : Int32 × mS × List kE) else (-1, m, ks)).2.2 ∧ gI s2 41 0 = 0 := by
                intro z
                rw [if_pos z]
                exact ⟨_, rfl, f2, gK_step (gK_sm h' (fm_sm fr rfl)), (fm_I fr rfl).trans t0⟩
              by_cases c7 : sp_k W m.1 = 7
              · rw [if_pos c7]
                by_cases c9 : 0 < ks.length
                · rw [if_neg (nI_nle c9 (by omega)), no (fun z => z.2.2.1 ⟨c7, c9⟩)]; exact ⟨τ, rfl, hm', h', t0⟩
                · rw [if_pos (show nI ks.length ≤ 0 by rw [show ks.length = 0 by omega]; decide)]
                  exact yes ⟨⟨c1, c8, c6⟩, c2, fun z => c9 z.2, c5⟩
              · rw [if_neg c7]
                exact yes ⟨⟨c1, c8, c6⟩, c2, fun z => c7 z.1, c5⟩
        · have hct := mk.2.2
          rw [if_neg (show ¬ nI m.2.2.2.2 ≤ 2046 from fun z => c6 ((gi_le (b := 2046) (by omega) (by omega)).mp z)), no (fun z => c6 z.1.2.2)]; exact ⟨τ, rfl, hm', h', t0⟩
      · rw [if_neg c5, no (fun z => c5 z.2.2.2)]; exact ⟨τ, rfl, hm', h', t0⟩
    · rw [if_pos (show nI m.1 = nI n from (gi_eq (by omega) (by omega)).mpr (by omega)), no (fun z => c1 z.1.1)]; exact ⟨τ, rfl, hm', h', t0⟩
  · rw [if_neg (show ¬ nI 1 = 3 by decide), if_neg (show ¬ nI 1 ≤ 0 by decide), gd_t1, if_pos (show nI 1 = 1 from rfl)]
    obtain ⟨s1, f1, f2, f3⟩ := rr_guess hW' hok hn hs' h' hm' mk.1 1
    rw [f1, gd_i1]
    rw [show mc_ord W n (gI τ 41 12) 1 m ks = mc_ge W n (gI τ 41 12) (m.1 + 1) m ks from rfl]
    unfold mc_ge
    by_cases c : mc_g0 W n (gI τ 41 12) m ks
    · rw [if_pos c, if_pos c]
      obtain ⟨g1, g2⟩ := f2 c
      rw [if_neg (show ¬ (1 : Int32) = 0 by decide)] at g1 g2
      exact ⟨s1, rfl, g2, g1, (fm_I (K_M_guess _ τ _ f1) rfl).trans t0⟩
    · rw [if_neg c, if_neg c]
      have := f3 c
      subst this
      exact ⟨s1, rfl, hm', h', t0⟩
  · rw [if_neg (show ¬ nI 2 = 3 by decide), if_neg (show ¬ nI 2 ≤ 0 by decide), gd_t1, if_neg (show ¬ nI 2 = 1 by decide)]
    obtain ⟨s1, f1, f2, f3⟩ := rr_guess hW' hok hn hs' h' hm' mk.1 0
    rw [f1, gd_i1]
    rw [show mc_ord W n (gI τ 41 12) 2 m ks = mc_ge W n (gI τ 41 12) (sp_t W m.1).toNatClampNeg m ks from rfl]
    unfold mc_ge
    by_cases c : mc_g0 W n (gI τ 41 12) m ks
    · rw [if_pos c, if_pos c]
      obtain ⟨g1, g2⟩ := f2 c
      rw [if_pos rfl] at g1 g2
      exact ⟨s1, rfl, g2, g1, (fm_I (K_M_guess _ τ _ f1) rfl).trans t0⟩
    · rw [if_neg c, if_neg c]
      have := f3 c
      subst this
      exact ⟨s1, rfl, hm', h', t0⟩
  · rw [if_pos (show nI 3 = 3 from rfl)]
    rw [show mc_ord W n (gI τ 41 12) 3 m ks = mc_re W m ks from rfl]
    obtain ⟨g1, g2⟩ := rr_resolve hW' hok hn h' hm' mk.2.2 kk
    unfold mc_re
    match ks, h', g1, g2 with
    | [], h', g1, g2 =>
      rw [g1 (Or.inl rfl), gd_i1]
      exact ⟨τ, rfl, hm', h', t0⟩
    | e :: t, h', g1, g2 =>
      simp only []
      by_cases c : m.2.2.2.2 ≤ 2046
      · rw [if_pos c]
        obtain ⟨q1, q2⟩ := g2 e t rfl c
        by_cases c2 : nI (ke_o W e) = e.2.1
        · rw [if_pos c2]
          obtain ⟨s1, k1, k2, k3⟩ := q1 c2
          rw [k1, gd_i1]
          exact ⟨s1, rfl, k3, k2, (fm_I (K_M_resolve τ _ k1) rfl).trans t0⟩
        · rw [if_neg c2]
          obtain ⟨s1, k1, k2, k3⟩ := q2 c2
          rw [k1, gd_i1]
          exact ⟨s1, rfl, k3, k2, (fm_I (K_M_resolve τ _ k1) rfl).trans t0⟩
      · rw [if_neg c, g1 (Or.inr c), gd_i1]
        exact ⟨τ, rfl, hm', h', t0⟩
