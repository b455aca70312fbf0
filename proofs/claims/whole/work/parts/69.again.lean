def ag_f (W : Nat → Int32) (n d i : Nat) : Int32 := if i < n then W i else W (n - d + (i - n) % d)
theorem ag_r {W : Nat → Int32} {n d j : Nat} (hd : 1 ≤ d) (hn : d ≤ n) : ag_f W n d (n + j - d) = ag_f W n d (n + j) := by
  unfold ag_f
  rw [if_neg (show ¬ n + j < n by omega), show n + j - n = j by omega]
  by_cases h : j < d
  · rw [if_pos (by omega), Nat.mod_eq_of_lt h, show n + j - d = n - d + j by omega]
  · rw [if_neg (by omega), show n + j - d - n = j - d by omega, ← Nat.mod_eq_sub_mod (by omega)]
theorem ag_v {W : Nat → Int32} {n d j : Nat} (hd : 1 ≤ d) (hn : d ≤ n) : mc_put W n j (fun k => ag_f W n d (n + k)) (n + j - d) = ag_f W n d (n + j) := by
  rw [← ag_r hd hn]
  unfold mc_put
  by_cases h : n ≤ n + j - d ∧ n + j - d < n + j
  · rw [if_pos h]
    show ag_f W n d (n + (n + j - d - n)) = _
    rw [show n + (n + j - d - n) = n + j - d by omega]
  · rw [if_neg h]
    unfold ag_f
    rw [if_pos (by omega)]
theorem ag_ge {i T : Nat} (hi : i ≤ 100000) (hT : T ≤ 100000) : 0 ≤ lg_cmp (Int32.toInt64 (nI i)) (lN T) ↔ T ≤ i := by
  rw [lg_cmp_ge, nI_l (by omega), lN_le (by omega) (by omega)]
theorem ag_le (x y : Int64) : lg_cmp x y ≤ 0 ↔ x ≤ y := by
  unfold lg_cmp
  simp only [gt_iff_lt, Int64.lt_iff_toInt_lt, Int64.le_iff_toInt_le, ← Int64.toInt_inj]
  repeat' split
  all_goals simp
  all_goals omega
theorem ag_c (κ : gS → gR) (σ : gS) {n d T : Nat} (hd : 1 ≤ d) (hn : d ≤ n) (hT : n ≤ T) (hT5 : T ≤ 520) : gd_lp (fun _ _ => none) (B_G_again_54 κ (nI d) (lN T)) gd_N (nI n) σ = κ (gs_row σ 1 (mc_put (gA σ 1) n (T - n) (fun k => ag_f (gA σ 1) n d (n + k)))) := by
  refine gd_it2 (I := fun m i s => ∃ j, j ≤ T - n ∧ m = T - n - j ∧ i = nI (n + j) ∧ s = gs_row σ 1 (mc_put (gA σ 1) n j (fun k => ag_f (gA σ 1) n d (n + k)))) (E := fun (r : gR) => r = κ (gs_row σ 1 (mc_put (gA σ 1) n (T - n) (fun k => ag_f (gA σ 1) n d (n + k))))) ?_ gd_N (T - n) (nI n) σ ⟨0, by omega, rfl, rfl, gs_row0 σ 1 _ (mc_put0 _ _ _)⟩ (gd_Nlt (by omega))
  rintro m i s ag ⟨j, hj, rfl, rfl, rfl⟩
  unfold B_G_again_54
  by_cases hjt : j = T - n
  · rw [if_pos ((ag_ge (by omega) (by omega)).mpr (by omega)), hjt]
    exact Or.inr rfl
  · rw [if_neg (fun z => by have := (ag_ge (by omega) (by omega)).mp z; omega), pk_sub (by omega)]
    simp only [gd_gI (gi_in (show n + j - d < 1040 by omega) (by omega : 1040 ≤ 100000)), gd_gI (gi_in (show n + j < 1040 by omega) (by omega : 1040 ≤ 100000)), gi_cl (show n + j - d ≤ 100000 by omega), gi_cl (show n + j ≤ 100000 by omega), gd_s1]
    refine Or.inl ⟨nI (n + (j + 1)), _, T - n - (j + 1), by omega, ⟨j + 1, by omega, rfl, rfl, rfl⟩, ?_⟩
    have e1 : gA (gs_row σ 1 (mc_put (gA σ 1) n j (fun k => ag_f (gA σ 1) n d (n + k)))) 1 (n + j - d) = ag_f (gA σ 1) n d (n + j) := by rw [gA_row, if_pos rfl]; exact ag_v hd hn
    rw [e1, nI_1]
    exact congrArg (ag (nI (n + (j + 1)))) (gs_rowA σ 1 _ _ _ _ (mc_put1 (gA σ 1) n j (fun k => ag_f (gA σ 1) n d (n + k))))
def ag_s (σ : gS) (n d j : Nat) : gS := gs_I (gs_row σ 42 (mc_put (gA σ 42) n j (fun k => ag_f (gA σ 42) n d (n + k)))) 41 2 (nI (n + j))
theorem ag_s0 {σ : gS} {n : Nat} (h : gI σ 41 2 = nI n) (d : Nat) : σ = ag_s σ n d 0 := by
  refine Prod.ext ?_ ?_
  · funext q k
    show σ.1 q k = if q = 41 then (if k = 2 then nI (n + 0) else σ.1 q k) else σ.1 q k
    by_cases h1 : q = 41
    · by_cases h2 : k = 2
      · subst h1; subst h2; rw [if_pos rfl, if_pos rfl]; exact h
      · rw [if_pos h1, if_neg h2]
    · rw [if_neg h1]
  · have h9 := congrArg (fun x : gS => x.2) (gs_row0 σ 42 _ (mc_put0 (gA σ 42) n (fun k => ag_f (gA σ 42) n d (n + k))))
    exact h9
theorem ag_s1 (σ : gS) (n d j : Nat) : gs_I (gs_A (ag_s σ n d j) 42 (n + j) (ag_f (gA σ 42) n d (n + j))) 41 2 (nI (n + (j + 1))) = ag_s σ n d (j + 1) := by
  refine Prod.ext ?_ ?_
  · funext q k
    show (if q = 41 then (if k = 2 then nI (n + (j + 1)) else (if q = 41 then (if k = 2 then nI (n + j) else σ.1 q k) else σ.1 q k)) else (if q = 41 then (if k = 2 then nI (n + j) else σ.1 q k) else σ.1 q k)) = if q = 41 then (if k = 2 then nI (n + (j + 1)) else σ.1 q k) else σ.1 q k
    by_cases h1 : q = 41
    · by_cases h2 : k = 2
      · simp only [if_pos h1, if_pos h2]
      · simp only [if_pos h1, if_neg h2]
    · simp only [if_neg h1]
  · have h9 := congrArg (fun x : gS => x.2) (gs_rowA σ 42 _ _ _ _ (mc_put1 (gA σ 42) n j (fun k => ag_f (gA σ 42) n d (n + k))))
    exact h9
theorem ag_m (κ : gS → gR) (σ : gS) {n d e : Nat} (h2 : gI σ 41 2 = nI n) (hd : 1 ≤ d) (hn : d ≤ n) (hT5 : n + d * e ≤ 520) (he : e ≤ 520) : gd_lp (fun _ _ => none) (B_M_again_58 κ (nI d) (nI e)) gd_N 0 σ = κ (ag_s σ n d (d * e)) := by
  refine gd_it2 (I := fun m i s => ∃ j, j ≤ d * e ∧ m = d * e - j ∧ i = nI j ∧ s = ag_s σ n d j) (E := fun (r : gR) => r = κ (ag_s σ n d (d * e))) ?_ gd_N (d * e) 0 σ ⟨0, by omega, rfl, rfl, ag_s0 h2 d⟩ (gd_Nlt (by omega))
  rintro m i s ag ⟨j, hj, rfl, rfl, rfl⟩
  unfold B_M_again_58
  rw [pk_mul]
  by_cases hjt : j = d * e
  · rw [if_pos ((gi_le (by omega) (by omega)).mpr (by omega)), hjt]
    exact Or.inr rfl
  · have i2 : gI (ag_s σ n d j) 41 2 = nI (n + j) := rfl
    have i3 : ∀ x y, gI (gs_A (ag_s σ n d j) 42 x y) 41 2 = nI (n + j) := fun _ _ => rfl
    rw [if_neg (fun z => by have := (gi_le (by omega) (by omega)).mp z; omega)]
    simp only [i2, i3, pk_sub (show d ≤ n + j by omega), gd_gI (gi_in (show n + j - d < 1040 by omega) (by omega : 1040 ≤ 100000)), gd_gI (gi_in (show n + j < 1040 by omega) (by omega : 1040 ≤ 100000)), gi_cl (show n + j - d ≤ 100000 by omega), gi_cl (show n + j ≤ 100000 by omega), gd_s1, nI_1]
    refine Or.inl ⟨nI (j + 1), _, d * e - (j + 1), by omega, ⟨j + 1, by omega, rfl, rfl, rfl⟩, ?_⟩
    have e1 : gA (ag_s σ n d j) 42 (n + j - d) = ag_f (gA σ 42) n d (n + j) := ag_v hd hn
    rw [e1, ← ag_s1]
    rfl
theorem ok_again (X : List Int32) (a b : Int32) (σ : gS) (h : rel X σ) : lc_h m_L_again m_M_again [.int a, .int b] X σ (rel X) := by
  obtain ⟨hX, n, ⟨hn, s7, s2, hw⟩, ⟨b1, b2, b3, b4⟩, hc, hl⟩ := id h
  have thr : F_G_again a b σ = some (.inr 3, σ) → F_M_again a b σ = some (.inl (some (.int 0)), gs_I σ 41 0 1) → lc_h m_L_again m_M_again [.int a, .int b] X σ (rel X) := fun f1 f2 => ⟨1, 0, σ, _, ht_again_3 a b (X_G_again a b σ _ f1), hX, X_M_again a b σ _ f2, rfl, fun y => absurd y (by decide), rel_t h 1⟩
  by_cases c1 : a < 1
  · refine thr ?_ ?_
    · unfold F_G_again; rw [if_pos c1]
    · unfold F_M_again; rw [gd_t1, if_pos c1]; rfl
  rcases pk_ix a (n := n + 1) (by omega) with c2 | c2 | ⟨d, hd, rfl⟩
  · exact absurd (Int32.lt_of_lt_of_le c2 (by decide)) c1
  · have c3 : nI n < a := Int32.not_le.mp (gi_ge (by omega) c2)
    refine thr ?_ ?_
    · unfold F_G_again; rw [if_neg c1, s7, if_pos c3]
    · unfold F_M_again; rw [gd_t1, if_neg c1, s2, if_pos c3]; rfl
  have hd1 : 1 ≤ d := by
    rcases Nat.eq_zero_or_pos d with y | y
    · subst y; exact absurd (by decide) c1
    · exact y
  have c4 : ¬ nI n < nI d := fun y => by have := (gi_lt (by omega) (by omega)).mp y; omega
  by_cases c5 : 1 ≤ b
  · obtain ⟨e, he, rfl⟩ := nI_of (x := b) (fun y => absurd (Int32.lt_of_le_of_lt c5 y) (by decide))
    have he1 : 1 ≤ e := by
      rcases Nat.eq_zero_or_pos e with y | y
      · subst y; exact absurd c5 (by decide)
      · exact y
    have hde : d * e ≤ 1040 * 2147483648 := Nat.mul_le_mul (by omega) (by omega)
    have tot : Int32.toInt64 (nI n) + Int32.toInt64 (nI d) * Int32.toInt64 (nI e) = lN (n + d * e) := by
      rw [nI_l (by omega), nI_l (by omega), nI_l (by omega), lN_mul, lN_add]
    have cmp : lg_cmp (lN (n + d * e)) 520 ≤ 0 ↔ n + d * e ≤ 520 := by
      rw [ag_le, show (520 : Int64) = lN 520 from rfl, pk_lLE (by omega) (by omega)]
    by_cases c6 : n + d * e ≤ 520
    · have he5 : e ≤ 520 := by
        have := Nat.mul_le_mul_right e hd1
        omega
      have e1 : F_G_again (nI d) (nI e) σ = some (.inl (some (.int (nI (n + d * e)))), gs_I (gs_I (gs_I (gs_row σ 1 (mc_put (gA σ 1) n (d * e) (fun k => ag_f (gA σ 1) n d (n + k)))) 0 7 (nI (n + d * e))) 0 9 0) 0 11 0) := by
        unfold F_G_again F_G_noteNewWords
        rw [if_neg c1, s7, if_neg c4, if_pos c5, tot, if_pos (cmp.mpr c6), gd_j1, ag_c _ _ hd1 (by omega) (by omega) c6, show n + d * e - n = d * e by omega, lN_i]
        rfl
      have f1 := K_G_again (nI d) (nI e) σ _ e1
      generalize hs1 : gs_I (gs_I (gs_I (gs_row σ 1 (mc_put (gA σ 1) n (d * e) (fun k => ag_f (gA σ 1) n d (n + k)))) 0 7 (nI (n + d * e))) 0 9 0) 0 11 0 = s1 at *
      have q2 : ∀ v : Int64, gI (gs_I (gs_L s1 66 0 v) 41 0 0) 41 2 = nI n := fun v => (fm_I f1 rfl).trans s2
      have e2 : ∀ v : Int64, F_M_again (nI d) (nI e) (gs_L s1 66 0 v) = some (.inl (some (.int (nI (n + d * e)))), gs_I (gs_I (ag_s (gs_I (gs_L s1 66 0 v) 41 0 0) n d (d * e)) 41 5 0) 41 4 0) := by
        intro v
        unfold F_M_again F_M_changed
        rw [gd_t1, if_neg c1, show gI (gs_L s1 66 0 v) 41 2 = nI n from q2 v, if_neg c4, if_pos c5, gd_s1, th0, if_pos (show (0 : Int32) ≤ 0 by decide), q2, tot, if_pos (cmp.mpr c6), gd_j1, ag_m _ _ (q2 v) hd1 (by omega) c6 he5]
        rfl
      have x1 := fm_I f1 (p := 0) (k := 8) rfl
      have x2 := fm_I f1 (p := 41) (k := 6) rfl
      have x3 := fm_I f1 (p := 10) (k := 6) rfl
      have x4 := fm_I f1 (p := 41) (k := 12) rfl
      have w1 : ∀ i, gA s1 1 i = mc_put (gA σ 1) n (d * e) (fun k => ag_f (gA σ 1) n d (n + k)) i := by rw [← hs1]; intro i; rfl
      have w2 : gA s1 42 = gA σ 42 := fm_A f1 rfl
      have o1 : gI s1 0 7 = nI (n + d * e) ∧ gI s1 0 9 = 0 ∧ gI s1 0 11 = 0 := by rw [← hs1]; exact ⟨rfl, rfl, rfl⟩
      refine ⟨0, _, _, _, hr_again (nI d) (nI e) _ (X_G_again (nI d) (nI e) σ _ e1), f1.2.2.2.trans hX, X_M_again (nI d) (nI e) _ _ (e2 _), rfl, fun _ => rfl, f1.2.2.2.trans hX, n + d * e, ⟨by omega, o1.1, rfl, fun i hi => ?_⟩, ⟨x1.trans (b1.trans x2.symm), ⟨o1.2.1, Or.inl o1.2.1⟩, ⟨o1.2.2, Or.inl o1.2.2, fun y => ?_⟩, x3.trans (b4.trans x4.symm)⟩, Or.inl c6, fun y => ?_⟩
      · refine (w1 i).trans ?_
        show mc_put (gA σ 1) n (d * e) (fun k => ag_f (gA σ 1) n d (n + k)) i = mc_put (gA s1 42) n (d * e) (fun k => ag_f (gA s1 42) n d (n + k)) i
        rw [w2]
        unfold mc_put ag_f
        by_cases y : n ≤ i ∧ i < n + d * e
        · have hm : (i - n) % d < d := Nat.mod_lt _ hd1
          simp only [if_pos y, if_neg (show ¬ n + (i - n) < n by omega), show n + (i - n) - n = i - n by omega]
          exact hw _ (by omega)
        · rw [if_neg y, if_neg y]
          exact hw i (by omega)
      · have y : gI s1 0 11 = 1 := y
        rw [o1.2.2] at y; exact absurd y (by decide)
      · have y : gI s1 0 9 = 1 := y
        rw [o1.2.1] at y; exact absurd y (by decide)
    · have e1 : F_G_again (nI d) (nI e) σ = some (.inl (some (.int (-1))), σ) := by
        unfold F_G_again
        rw [if_neg c1, s7, if_neg c4, if_pos c5, tot, if_neg (fun y => c6 (cmp.mp y))]
      have e2 : ∀ v : Int64, F_M_again (nI d) (nI e) (gs_L σ 66 0 v) = some (.inl (some (.int (-1))), gs_I (gs_L σ 66 0 v) 41 0 0) := by
        intro v
        unfold F_M_again
        rw [gd_t1, if_neg c1, show gI (gs_L σ 66 0 v) 41 2 = nI n from s2, if_neg c4, if_pos c5, gd_s1, th0, if_pos (show (0 : Int32) ≤ 0 by decide), show gI (gs_I (gs_L σ 66 0 v) 41 0 0) 41 2 = nI n from s2, tot, if_neg (fun y => c6 (cmp.mp y))]
      exact ⟨0, _, _, _, hr_again (nI d) (nI e) _ (X_G_again (nI d) (nI e) σ _ e1), hX, X_M_again (nI d) (nI e) _ _ (e2 _), rfl, fun _ => rfl, rel_t (rel_o h _) 0⟩
  · refine thr ?_ ?_
    · unfold F_G_again; rw [if_neg c1, s7, if_neg c4, if_neg c5]
    · unfold F_M_again; rw [gd_t1, if_neg c1, s2, if_neg c4, if_neg c5]; rfl
