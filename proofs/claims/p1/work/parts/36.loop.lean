def lc_ok (d : Nat) (X : List Int32) (a b : Int32) (σ : gS) (P : gS → Prop) : Prop := match d with
  | 0 => lc_i m_G_word m_M_word [.int a] X σ P
  | 1 => lc_h m_L_again m_M_again [.int a, .int b] X σ P
  | 2 => lc_i m_G_clear m_M_clear [] X σ P
  | 3 => lc_l m_G_wordAt m_M_wordAt [.int a] X σ P
  | 4 => lc_i m_G_load m_M_load [] X σ P
  | 5 => lc_i m_G_faultAt m_M_faultAt [] X σ P
  | 6 => lc_h m_L_decoded m_M_decoded [.int a, .int b] X σ P
  | 7 => lc_v m_L_set m_M_set [.int a, .int b] X σ P
  | 8 => lc_h m_L_register m_M_register [.int a] X σ P
  | 9 => lc_v m_L_poke m_M_poke [.int a, .int b] X σ P
  | 10 => lc_h m_L_peek m_M_peek [.int a] X σ P
  | 11 => lc_h m_L_run m_M_run [.int a] X σ P
  | 12 => lc_h m_L_order m_M_order [.int a] X σ P
  | 13 => lc_h m_L_window m_M_window [.int a] X σ P
  | 14 => lc_h m_L_state m_M_state [.int a] X σ P
  | 15 => lc_l m_G_leak m_M_leak [.int a] X σ P
  | 16 => lc_h m_L_forget m_M_forget [] X σ P
  | 17 => lc_h m_L_check m_M_check [] X σ P
  | 18 => lc_z m_L_reaches m_M_reaches [.int a, .int b] X σ P
  | 19 => lc_h m_L_mark m_M_mark [.int a] X σ P
  | 20 => lc_h m_L_cut m_M_cut [] X σ P
  | 21 => lc_h m_L_rewrite m_M_rewrite [] X σ P
  | 22 => lc_h m_L_home m_M_home [.int a] X σ P
  | _ => P σ
theorem lc_o3 (i j : Nat) : Int32.ofNat i + Int32.ofNat j = Int32.ofNat (i + j) := (Int32.ofNat_add ..).symm
theorem lc_gt {i n : Nat} (hn : n ≤ 1536) (hi : i ≤ n) : (Int32.ofNat n - 3 < Int32.ofNat i) ↔ n < i + 3 := by
  rw [Int32.lt_iff_toInt_lt, Int32.toInt_sub, Int32.toInt_ofNat_of_lt (by omega), Int32.toInt_ofNat_of_lt (by omega)]
  have h3 : (3 : Int32).toInt = 3 := by decide
  rw [h3, Int.bmod_eq_of_le (by omega) (by omega)]
  omega
theorem lc_rdn {X : List Int32} (hX : X.length ≤ 1536) {j : Nat} (hj : j < X.length) : lc_rd X (Int32.ofNat j) (X.getD j 0) := by
  have h1 : (Int32.ofNat j).toNatClampNeg = j := Int32.toNatClampNeg_ofNat_of_lt (by omega)
  refine ⟨fun z => ?_, by rw [h1]⟩
  rcases z with z | z
  · rw [Int32.lt_iff_toInt_lt, Int32.toInt_ofNat_of_lt (by omega)] at z
    have h0 : (0 : Int32).toInt = 0 := by decide
    omega
  · rw [h1] at z; omega
theorem lc_sw {y : Int32} (h : ∀ d, d < 23 → y ≠ Int32.ofNat d) : y.toInt < 0 ∨ 22 < y.toInt := by
  by_cases h1 : y.toInt < 0
  · exact Or.inl h1
  · by_cases h2 : 22 < y.toInt
    · exact Or.inr h2
    · exfalso
      refine h y.toInt.toNat (by omega) ?_
      rw [← Int32.toInt_inj, Int32.toInt_ofNat_of_lt (by omega)]
      omega
theorem lc_end {x y : Int32} (hxy : x + 3 = y) {σ : gS} {k : Nat} {Q : gQ → gS → Prop} (h : gv_V m_L_law k false 23 (lc_lo y) [] σ Q) : gv_V m_L_law k false 1191 (lc_lo x) [] σ Q := by
  subst hxy
  refine gv_iincc (i := 4) (n := 3) (c := 3) (pc' := 1194) (by decide +kernel) rfl (by decide) (by decide) rfl ?_
  refine gv_goto (off := (-1171)) (tgt := 23) (by decide +kernel) (by decide) ?_
  exact h
theorem lc_d39 : decode m_L_law.cc 39 = .ok (.tableswitch 1152 0 22 #[105, 130, 198, 211, 237, 250, 263, 331, 379, 435, 483, 539, 595, 651, 707, 763, 789, 833, 877, 952, 1008, 1052, 1096], 105) := by decide +kernel
set_option maxRecDepth 20000 in
theorem lc_loop (X : List Int32) (hX : X.length ≤ 1536) (R : Nat → gS → Prop) (hR : ∀ i σ, R i σ → σ.2.2.2 = X) (hc : ∀ i σ, R i σ → i + 3 ≤ X.length → ∀ d, (d < 23 → X.getD i 0 &&& 31 = Int32.ofNat d) → lc_ok d X (X.getD (i + 1) 0) (X.getD (i + 2) 0) σ (R (i + 3))) :
    ∀ n i k σ, X.length < i + 3 * (n + 1) → i ≤ X.length → R i σ → gv_V m_L_law (k + n + 1) false 23 (lc_lo (Int32.ofNat i)) [] σ (fun o _ => o = .inl (some (.int 1))) := by
  intro n
  induction n with
  | zero =>
    intro i k σ hn hi hr
    refine gv_iload (n := 4) (pc' := 25) (by decide +kernel) rfl rfl ?_
    refine gv_aload_n (n := 0) (pc' := 26) (by decide +kernel) rfl rfl ?_
    refine gv_slen (pc' := 27) (by decide +kernel) rfl ?_
    refine gv_iconst (n := 3) (v := 3) (pc' := 28) (by decide +kernel) (by decide) rfl ?_
    refine gv_isub (pc' := 29) (by decide +kernel) rfl ?_
    refine gv_icmp_gt (off := 1168) (tgt := 1197) (pc' := 32) (by decide +kernel) (by decide) rfl (fun _ => ?_) (fun z => absurd ((lc_gt hX hi).mpr (by omega)) (by rw [hR i σ hr] at z; exact z))
    refine gv_iconst (n := 1) (v := 1) (pc' := 1198) (by decide +kernel) (by decide) rfl ?_
    exact gv_iret .boolean (by decide +kernel) rfl rfl (Nat.le_trans (Nat.le_add_left 1 _) (Nat.le_add_right _ _)) (fun z => by cases z) rfl
  | succ n ih =>
    intro i k σ hn hi hr
    have hs := hR i σ hr
    refine gv_iload (n := 4) (pc' := 25) (by decide +kernel) rfl rfl ?_
    refine gv_aload_n (n := 0) (pc' := 26) (by decide +kernel) rfl rfl ?_
    refine gv_slen (pc' := 27) (by decide +kernel) rfl ?_
    refine gv_iconst (n := 3) (v := 3) (pc' := 28) (by decide +kernel) (by decide) rfl ?_
    refine gv_isub (pc' := 29) (by decide +kernel) rfl ?_
    refine gv_icmp_gt (off := 1168) (tgt := 1197) (pc' := 32) (by decide +kernel) (by decide) rfl (fun _ => ?_) (fun z => ?_)
    · refine gv_iconst (n := 1) (v := 1) (pc' := 1198) (by decide +kernel) (by decide) rfl ?_
      exact gv_iret .boolean (by decide +kernel) rfl rfl (Nat.le_trans (Nat.le_add_left 1 _) (Nat.le_add_right _ _)) (fun z => by cases z) rfl
    · rw [hs] at z
      have h3 : i + 3 ≤ X.length := by
        have := (not_congr (lc_gt hX hi)).mp z
        omega
      refine gv_aload_n (n := 0) (pc' := 33) (by decide +kernel) rfl rfl ?_
      refine gv_iload (n := 4) (pc' := 35) (by decide +kernel) rfl rfl ?_
      refine lc_sld (pc' := 36) hs (lc_rdn hX (j := i) (by omega)) (by decide +kernel) rfl ?_
      refine gv_bipush (n := 31) (v := 31) (pc' := 38) (by decide +kernel) (by decide) rfl ?_
      refine gv_iand (pc' := 39) (by decide +kernel) rfl ?_
      have r1 : lc_rd X (Int32.ofNat i + 1) (X.getD (i + 1) 0) := by
        rw [show (1 : Int32) = Int32.ofNat 1 from rfl, lc_o3]; exact lc_rdn hX (by omega)
      have r2 : lc_rd X (Int32.ofNat i + 2) (X.getD (i + 2) 0) := by
        rw [show (2 : Int32) = Int32.ofNat 2 from rfl, lc_o3]; exact lc_rdn hX (by omega)
      have he : ∀ σ2, R (i + 3) σ2 → gv_V m_L_law (k + n + 1) false 1191 (lc_lo (Int32.ofNat i)) [] σ2 (fun o _ => o = .inl (some (.int 1))) := fun σ2 h2 => lc_end (by rw [show (3 : Int32) = Int32.ofNat 3 from rfl, lc_o3]) (ih (i + 3) k σ2 (by omega) (by omega) h2)
      have hc1 := hc i σ hr h3
      generalize hy : X.getD i 0 &&& 31 = y at hc1 ⊢
      by_cases hop : ∃ d, d < 23 ∧ y = Int32.ofNat d
      · obtain ⟨d, hd, rfl⟩ := hop
        have hc2 := hc1 d (fun _ => rfl)
        have hcase : d = 0 ∨ d = 1 ∨ d = 2 ∨ d = 3 ∨ d = 4 ∨ d = 5 ∨ d = 6 ∨ d = 7 ∨ d = 8 ∨ d = 9 ∨ d = 10 ∨ d = 11 ∨ d = 12 ∨ d = 13 ∨ d = 14 ∨ d = 15 ∨ d = 16 ∨ d = 17 ∨ d = 18 ∨ d = 19 ∨ d = 20 ∨ d = 21 ∨ d = 22 := by omega
        rcases hcase with rfl | rfl | rfl | rfl | rfl | rfl | rfl | rfl | rfl | rfl | rfl | rfl | rfl | rfl | rfl | rfl | rfl | rfl | rfl | rfl | rfl | rfl | rfl
        · exact gv_tableIn (tgt := 144) (off := 105) lc_d39 (by decide) (by decide) (by decide) (by decide) (lb_word hs r1 hc2 he)
        · exact gv_tableIn (tgt := 169) (off := 130) lc_d39 (by decide) (by decide) (by decide) (by decide) (lb_again hs r1 r2 hc2 he)
        · exact gv_tableIn (tgt := 237) (off := 198) lc_d39 (by decide) (by decide) (by decide) (by decide) (lb_clear hs hc2 he)
        · exact gv_tableIn (tgt := 250) (off := 211) lc_d39 (by decide) (by decide) (by decide) (by decide) (lb_wordAt hs r1 hc2 he)
        · exact gv_tableIn (tgt := 276) (off := 237) lc_d39 (by decide) (by decide) (by decide) (by decide) (lb_load hs hc2 he)
        · exact gv_tableIn (tgt := 289) (off := 250) lc_d39 (by decide) (by decide) (by decide) (by decide) (lb_faultAt hs hc2 he)
        · exact gv_tableIn (tgt := 302) (off := 263) lc_d39 (by decide) (by decide) (by decide) (by decide) (lb_decoded hs r1 r2 hc2 he)
        · exact gv_tableIn (tgt := 370) (off := 331) lc_d39 (by decide) (by decide) (by decide) (by decide) (lb_set hs r1 r2 hc2 he)
        · exact gv_tableIn (tgt := 418) (off := 379) lc_d39 (by decide) (by decide) (by decide) (by decide) (lb_register hs r1 hc2 he)
        · exact gv_tableIn (tgt := 474) (off := 435) lc_d39 (by decide) (by decide) (by decide) (by decide) (lb_poke hs r1 r2 hc2 he)
        · exact gv_tableIn (tgt := 522) (off := 483) lc_d39 (by decide) (by decide) (by decide) (by decide) (lb_peek hs r1 hc2 he)
        · exact gv_tableIn (tgt := 578) (off := 539) lc_d39 (by decide) (by decide) (by decide) (by decide) (lb_run hs r1 hc2 he)
        · exact gv_tableIn (tgt := 634) (off := 595) lc_d39 (by decide) (by decide) (by decide) (by decide) (lb_order hs r1 hc2 he)
        · exact gv_tableIn (tgt := 690) (off := 651) lc_d39 (by decide) (by decide) (by decide) (by decide) (lb_window hs r1 hc2 he)
        · exact gv_tableIn (tgt := 746) (off := 707) lc_d39 (by decide) (by decide) (by decide) (by decide) (lb_state hs r1 hc2 he)
        · exact gv_tableIn (tgt := 802) (off := 763) lc_d39 (by decide) (by decide) (by decide) (by decide) (lb_leak hs r1 hc2 he)
        · exact gv_tableIn (tgt := 828) (off := 789) lc_d39 (by decide) (by decide) (by decide) (by decide) (lb_forget hs hc2 he)
        · exact gv_tableIn (tgt := 872) (off := 833) lc_d39 (by decide) (by decide) (by decide) (by decide) (lb_check hs hc2 he)
        · exact gv_tableIn (tgt := 916) (off := 877) lc_d39 (by decide) (by decide) (by decide) (by decide) (lb_reaches hs r1 r2 hc2 he)
        · exact gv_tableIn (tgt := 991) (off := 952) lc_d39 (by decide) (by decide) (by decide) (by decide) (lb_mark hs r1 hc2 he)
        · exact gv_tableIn (tgt := 1047) (off := 1008) lc_d39 (by decide) (by decide) (by decide) (by decide) (lb_cut hs hc2 he)
        · exact gv_tableIn (tgt := 1091) (off := 1052) lc_d39 (by decide) (by decide) (by decide) (by decide) (lb_rewrite hs hc2 he)
        · exact gv_tableIn (tgt := 1135) (off := 1096) lc_d39 (by decide) (by decide) (by decide) (by decide) (lb_home hs r1 hc2 he)
      · have hc2 := hc1 23 (fun z => absurd z (by decide))
        exact gv_tableOut (tgt := 1191) lc_d39 (lc_sw (fun d hd z => hop ⟨d, hd, z⟩)) (by decide) (gv_keep (Nat.le_succ _) (he σ hc2))
