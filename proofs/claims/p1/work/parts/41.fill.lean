theorem lp_A_fill_aII {p n : Nat} {v : Int32} {σ : gS} {Q : gQ → gS → Prop} (hsh : gv_sh[p]? = some (.inl (.int, n))) (hn : n < 2147483648) (h : gv_V m_A_fill_aII 1 false 20 [some (.ref p), some (.int v), some (.int (Int32.ofNat n)), some (.int (Int32.ofNat n))] [] (gs_row σ p (f_fill (gA σ p) 0 n v)) Q) :
    ∀ i, i ≤ n → gv_V m_A_fill_aII 1 false 5 [some (.ref p), some (.int v), some (.int (Int32.ofNat i)), some (.int (Int32.ofNat n))] [] (gs_row σ p (f_fill (gA σ p) 0 i v)) Q := by
  refine gv_upto ?_ ?_
  · refine gv_iload_n (n := 2) (pc' := 6) (by decide +kernel) rfl rfl ?_
    refine gv_iload_n (n := 3) (pc' := 7) (by decide +kernel) rfl rfl ?_
    refine gv_icmp_ge (off := 13) (tgt := 20) (pc' := 10) (by decide +kernel) (by decide) rfl (fun _ => ?_) (fun z => by first | exact absurd z (Int32.le_refl _) | exact absurd (Int32.le_refl _) z)
    exact h
  · intro i hi ih
    refine gv_iload_n (n := 2) (pc' := 6) (by decide +kernel) rfl rfl ?_
    refine gv_iload_n (n := 3) (pc' := 7) (by decide +kernel) rfl rfl ?_
    refine gv_icmp_ge (off := 13) (tgt := 20) (pc' := 10) (by decide +kernel) (by decide) rfl (fun z => by first | exact absurd z (fun z => absurd ((ai_le hn (by omega)).mp z) (by omega)) | exact absurd (fun z => absurd ((ai_le hn (by omega)).mp z) (by omega)) z) (fun _ => ?_)
    refine gv_aload_n (n := 0) (pc' := 11) (by decide +kernel) rfl rfl ?_
    refine gv_iload_n (n := 2) (pc' := 12) (by decide +kernel) rfl rfl ?_
    refine gv_iload_n (n := 1) (pc' := 13) (by decide +kernel) rfl rfl ?_
    refine gj_iast (i) (pc' := 14) (by decide +kernel) hsh (ai_in hi (by omega)) (ai_cl (by omega)) rfl ?_
    refine gv_iincc (i := 2) (n := 1) (c := 1) (pc' := 17) (by decide +kernel) rfl (by decide) (by decide) rfl ?_
    refine gv_goto (off := -12) (tgt := 5) (by decide +kernel) (by decide) ?_
    exact gv_to ih (gs_rowA _ _ _ _ _ _ (fun j => f_fill1 _ (Nat.zero_le _) _ j)) (by rw [← ai_s]; rfl)
theorem lp_A_fill_aBB {p n : Nat} {v : Int32} {σ : gS} {Q : gQ → gS → Prop} (hsh : gv_sh[p]? = some (.inl (.byte, n))) (hn : n < 2147483648) (h : gv_V m_A_fill_aBB 1 false 20 [some (.ref p), some (.int v), some (.int (Int32.ofNat n)), some (.int (Int32.ofNat n))] [] (gs_row σ p (f_fill (gA σ p) 0 n (vp_nar .byte v))) Q) :
    ∀ i, i ≤ n → gv_V m_A_fill_aBB 1 false 5 [some (.ref p), some (.int v), some (.int (Int32.ofNat i)), some (.int (Int32.ofNat n))] [] (gs_row σ p (f_fill (gA σ p) 0 i (vp_nar .byte v))) Q := by
  refine gv_upto ?_ ?_
  · refine gv_iload_n (n := 2) (pc' := 6) (by decide +kernel) rfl rfl ?_
    refine gv_iload_n (n := 3) (pc' := 7) (by decide +kernel) rfl rfl ?_
    refine gv_icmp_ge (off := 13) (tgt := 20) (pc' := 10) (by decide +kernel) (by decide) rfl (fun _ => ?_) (fun z => by first | exact absurd z (Int32.le_refl _) | exact absurd (Int32.le_refl _) z)
    exact h
  · intro i hi ih
    refine gv_iload_n (n := 2) (pc' := 6) (by decide +kernel) rfl rfl ?_
    refine gv_iload_n (n := 3) (pc' := 7) (by decide +kernel) rfl rfl ?_
    refine gv_icmp_ge (off := 13) (tgt := 20) (pc' := 10) (by decide +kernel) (by decide) rfl (fun z => by first | exact absurd z (fun z => absurd ((ai_le hn (by omega)).mp z) (by omega)) | exact absurd (fun z => absurd ((ai_le hn (by omega)).mp z) (by omega)) z) (fun _ => ?_)
    refine gv_aload_n (n := 0) (pc' := 11) (by decide +kernel) rfl rfl ?_
    refine gv_iload_n (n := 2) (pc' := 12) (by decide +kernel) rfl rfl ?_
    refine gv_iload_n (n := 1) (pc' := 13) (by decide +kernel) rfl rfl ?_
    refine gj_bast (i) (pc' := 14) (by decide +kernel) hsh (ai_in hi (by omega)) (ai_cl (by omega)) rfl ?_
    refine gv_iincc (i := 2) (n := 1) (c := 1) (pc' := 17) (by decide +kernel) rfl (by decide) (by decide) rfl ?_
    refine gv_goto (off := -12) (tgt := 5) (by decide +kernel) (by decide) ?_
    exact gv_to ih (gs_rowA _ _ _ _ _ _ (fun j => f_fill1 _ (Nat.zero_le _) _ j)) (by rw [← ai_s]; rfl)
theorem lp_A_fill_aJJ {p n : Nat} {v : Int64} {σ : gS} {Q : gQ → gS → Prop} (hsh : gv_sh[p]? = some (.inl (.long, n))) (hn : n < 2147483648) (h : gv_V m_A_fill_aJJ 1 false 22 [some (.ref p), some (.long v), none, some (.int (Int32.ofNat n)), some (.int (Int32.ofNat n))] [] (gs_rowL σ p (f_fillL (gL σ p) 0 n v)) Q) :
    ∀ i, i ≤ n → gv_V m_A_fill_aJJ 1 false 6 [some (.ref p), some (.long v), none, some (.int (Int32.ofNat i)), some (.int (Int32.ofNat n))] [] (gs_rowL σ p (f_fillL (gL σ p) 0 i v)) Q := by
  refine gv_upto ?_ ?_
  · refine gv_iload_n (n := 3) (pc' := 7) (by decide +kernel) rfl rfl ?_
    refine gv_iload (n := 4) (pc' := 9) (by decide +kernel) rfl rfl ?_
    refine gv_icmp_ge (off := 13) (tgt := 22) (pc' := 12) (by decide +kernel) (by decide) rfl (fun _ => ?_) (fun z => by first | exact absurd z (Int32.le_refl _) | exact absurd (Int32.le_refl _) z)
    exact h
  · intro i hi ih
    refine gv_iload_n (n := 3) (pc' := 7) (by decide +kernel) rfl rfl ?_
    refine gv_iload (n := 4) (pc' := 9) (by decide +kernel) rfl rfl ?_
    refine gv_icmp_ge (off := 13) (tgt := 22) (pc' := 12) (by decide +kernel) (by decide) rfl (fun z => by first | exact absurd z (fun z => absurd ((ai_le hn (by omega)).mp z) (by omega)) | exact absurd (fun z => absurd ((ai_le hn (by omega)).mp z) (by omega)) z) (fun _ => ?_)
    refine gv_aload_n (n := 0) (pc' := 13) (by decide +kernel) rfl rfl ?_
    refine gv_iload_n (n := 3) (pc' := 14) (by decide +kernel) rfl rfl ?_
    refine gv_lload_n (n := 1) (pc' := 15) (by decide +kernel) rfl rfl ?_
    refine gj_last (i) (pc' := 16) (by decide +kernel) hsh (ai_in hi (by omega)) (ai_cl (by omega)) rfl ?_
    refine gv_iincc (i := 3) (n := 1) (c := 1) (pc' := 19) (by decide +kernel) rfl (by decide) (by decide) rfl ?_
    refine gv_goto (off := -13) (tgt := 6) (by decide +kernel) (by decide) ?_
    exact gv_to ih (gs_rowLL _ _ _ _ _ _ (fun j => f_fillL1 _ (Nat.zero_le _) _ j)) (by rw [← ai_s]; rfl)
theorem c_A_fill_aII (p n : Nat) (v : Int32) (σ : gS) (hsh : gv_sh[p]? = some (.inl (.int, n))) (hn : n < 2147483648) : gv_K m_A_fill_aII [.ref p, .int v] σ (gv_is (.inl none) (gs_row σ p (f_fill (gA σ p) 0 n v))) := by
  refine gv_iconst (n := 0) (v := 0) (pc' := 1) (by decide +kernel) (by decide) rfl ?_
  refine gv_istore_n (n := 2) (pc' := 2) (by decide +kernel) (by decide) rfl ?_
  refine gv_aload_n (n := 0) (pc' := 3) (by decide +kernel) rfl rfl ?_
  refine gv_alen0 (pc' := 4) (by decide +kernel) hsh rfl ?_
  refine gv_istore_n (n := 3) (pc' := 5) (by decide +kernel) (by decide) rfl ?_
  refine gv_fr (lp_A_fill_aII (p := p) (n := n) (v := v) (σ := σ) hsh hn ?_ 0 (Nat.zero_le _)) (gs_row0 _ _ _ (fun i => f_fill0 _ _ _ i)) rfl
  exact gv_ret (by decide +kernel) rfl (by decide) (by decide) (gv_isr _ _)
theorem c_A_fill_aBB (p n : Nat) (v : Int32) (σ : gS) (hsh : gv_sh[p]? = some (.inl (.byte, n))) (hn : n < 2147483648) : gv_K m_A_fill_aBB [.ref p, .int v] σ (gv_is (.inl none) (gs_row σ p (f_fill (gA σ p) 0 n (vp_nar .byte v)))) := by
  refine gv_iconst (n := 0) (v := 0) (pc' := 1) (by decide +kernel) (by decide) rfl ?_
  refine gv_istore_n (n := 2) (pc' := 2) (by decide +kernel) (by decide) rfl ?_
  refine gv_aload_n (n := 0) (pc' := 3) (by decide +kernel) rfl rfl ?_
  refine gv_alen1 (pc' := 4) (by decide +kernel) hsh rfl ?_
  refine gv_istore_n (n := 3) (pc' := 5) (by decide +kernel) (by decide) rfl ?_
  refine gv_fr (lp_A_fill_aBB (p := p) (n := n) (v := v) (σ := σ) hsh hn ?_ 0 (Nat.zero_le _)) (gs_row0 _ _ _ (fun i => f_fill0 _ _ _ i)) rfl
  exact gv_ret (by decide +kernel) rfl (by decide) (by decide) (gv_isr _ _)
theorem c_A_fill_aJJ (p n : Nat) (v : Int64) (σ : gS) (hsh : gv_sh[p]? = some (.inl (.long, n))) (hn : n < 2147483648) : gv_K m_A_fill_aJJ [.ref p, .long v] σ (gv_is (.inl none) (gs_rowL σ p (f_fillL (gL σ p) 0 n v))) := by
  refine gv_iconst (n := 0) (v := 0) (pc' := 1) (by decide +kernel) (by decide) rfl ?_
  refine gv_istore_n (n := 3) (pc' := 2) (by decide +kernel) (by decide) rfl ?_
  refine gv_aload_n (n := 0) (pc' := 3) (by decide +kernel) rfl rfl ?_
  refine gv_alen3 (pc' := 4) (by decide +kernel) hsh rfl ?_
  refine gv_istore (n := 4) (pc' := 6) (by decide +kernel) (by decide) rfl ?_
  refine gv_fr (lp_A_fill_aJJ (p := p) (n := n) (v := v) (σ := σ) hsh hn ?_ 0 (Nat.zero_le _)) (gs_rowL0 _ _ _ (fun i => f_fillL0 _ _ _ i)) rfl
  exact gv_ret (by decide +kernel) rfl (by decide) (by decide) (gv_isr _ _)
set_option maxRecDepth 20000 in
theorem c_A_rangeCheck (n a b : Int32) (σ : gS) (h1 : a ≤ b) (h2 : 0 ≤ a) (h3 : b ≤ n) : gv_K m_A_rangeCheck [.int n, .int a, .int b] σ (gv_is (.inl none) σ) := by
  refine gv_iload_n (n := 1) (pc' := 1) (by decide +kernel) rfl rfl ?_
  refine gv_iload_n (n := 2) (pc' := 2) (by decide +kernel) rfl rfl ?_
  refine gv_icmp_le (off := 44) (tgt := 46) (pc' := 5) (by decide +kernel) (by decide) rfl (fun _ => ?_) (fun z => by first | exact absurd z h1 | exact absurd h1 z)
  refine gv_iload_n (n := 1) (pc' := 47) (by decide +kernel) rfl rfl ?_
  refine gv_if_ge (off := 12) (tgt := 59) (pc' := 50) (by decide +kernel) (by decide) rfl (fun _ => ?_) (fun z => by first | exact absurd z h2 | exact absurd h2 z)
  refine gv_iload_n (n := 2) (pc' := 60) (by decide +kernel) rfl rfl ?_
  refine gv_iload_n (n := 0) (pc' := 61) (by decide +kernel) rfl rfl ?_
  refine gv_icmp_le (off := 12) (tgt := 73) (pc' := 64) (by decide +kernel) (by decide) rfl (fun _ => ?_) (fun z => by first | exact absurd z h3 | exact absurd h3 z)
  exact gv_ret (by decide +kernel) rfl (by decide) (by decide) (gv_isr _ _)

theorem lp_A_fill_aJIIJ {p n a b : Nat} {v : Int64} {σ : gS} {Q : gQ → gS → Prop} (hsh : gv_sh[p]? = some (.inl (.long, n))) (hn : n < 2147483648) (hab : a ≤ b) (hb : b ≤ n) (h : gv_V m_A_fill_aJIIJ 1 false 27 [some (.ref p), some (.int (Int32.ofNat a)), some (.int (Int32.ofNat b)), some (.long v), none, some (.int (Int32.ofNat b))] [] (gs_rowL σ p (f_fillL (gL σ p) a b v)) Q) :
    ∀ i, i ≤ b → a ≤ i → gv_V m_A_fill_aJIIJ 1 false 10 [some (.ref p), some (.int (Int32.ofNat a)), some (.int (Int32.ofNat b)), some (.long v), none, some (.int (Int32.ofNat i))] [] (gs_rowL σ p (f_fillL (gL σ p) a i v)) Q := by
  refine gv_upto (V := fun i => a ≤ i → gv_V m_A_fill_aJIIJ 1 false 10 [some (.ref p), some (.int (Int32.ofNat a)), some (.int (Int32.ofNat b)), some (.long v), none, some (.int (Int32.ofNat i))] [] (gs_rowL σ p (f_fillL (gL σ p) a i v)) Q) ?_ ?_
  · intro _
    refine gv_iload (n := 5) (pc' := 12) (by decide +kernel) rfl rfl ?_
    refine gv_iload_n (n := 2) (pc' := 13) (by decide +kernel) rfl rfl ?_
    refine gv_icmp_ge (off := 14) (tgt := 27) (pc' := 16) (by decide +kernel) (by decide) rfl (fun _ => ?_) (fun z => by first | exact absurd z (Int32.le_refl _) | exact absurd (Int32.le_refl _) z)
    exact h
  · intro i hi ih hai
    refine gv_iload (n := 5) (pc' := 12) (by decide +kernel) rfl rfl ?_
    refine gv_iload_n (n := 2) (pc' := 13) (by decide +kernel) rfl rfl ?_
    refine gv_icmp_ge (off := 14) (tgt := 27) (pc' := 16) (by decide +kernel) (by decide) rfl (fun z => by first | exact absurd z (fun z => absurd ((ai_le (by omega) (by omega)).mp z) (by omega)) | exact absurd (fun z => absurd ((ai_le (by omega) (by omega)).mp z) (by omega)) z) (fun _ => ?_)
    refine gv_aload_n (n := 0) (pc' := 17) (by decide +kernel) rfl rfl ?_
    refine gv_iload (n := 5) (pc' := 19) (by decide +kernel) rfl rfl ?_
    refine gv_lload_n (n := 3) (pc' := 20) (by decide +kernel) rfl rfl ?_
    refine gj_last (i) (pc' := 21) (by decide +kernel) hsh (ai_in (by omega) (by omega)) (ai_cl (by omega)) rfl ?_
    refine gv_iincc (i := 5) (n := 1) (c := 1) (pc' := 24) (by decide +kernel) rfl (by decide) (by decide) rfl ?_
    refine gv_goto (off := -14) (tgt := 10) (by decide +kernel) (by decide) ?_
    exact gv_to (ih (by omega)) (gs_rowLL _ _ _ _ _ _ (fun j => f_fillL1 _ hai _ j)) (by rw [← ai_s]; rfl)
theorem c_A_fill_aJIIJ (p n a b : Nat) (v : Int64) (σ : gS) (hsh : gv_sh[p]? = some (.inl (.long, n))) (hn : n < 2147483648) (hab : a ≤ b) (hb : b ≤ n) : gv_K m_A_fill_aJIIJ [.ref p, .int (Int32.ofNat a), .int (Int32.ofNat b), .long v] σ (gv_is (.inl none) (gs_rowL σ p (f_fillL (gL σ p) a b v))) := by
  refine gv_aload_n (n := 0) (pc' := 1) (by decide +kernel) rfl rfl ?_
  refine gv_alen3 (pc' := 2) (by decide +kernel) hsh rfl ?_
  refine gv_iload_n (n := 1) (pc' := 3) (by decide +kernel) rfl rfl ?_
  refine gv_iload_n (n := 2) (pc' := 4) (by decide +kernel) rfl rfl ?_
  refine gv_cs0 (w' := false) (pc' := 7) (c_A_rangeCheck _ _ _ σ ((ai_le (by omega) (by omega)).mpr hab) (Int32.not_lt.mp (ai_nn (by omega))) ((ai_le (by omega) (by omega)).mpr hb)) md_A_rangeCheck sd_A_rangeCheck (Or.inl ml_13_13) (by decide +kernel) (by decide) rfl (Nat.le_of_ble_eq_true rfl) (Nat.le_of_ble_eq_true rfl) (by decide) rfl (fun z => by cases z) (by decide) rfl ?_
  refine gv_iload_n (n := 1) (pc' := 8) (by decide +kernel) rfl rfl ?_
  refine gv_istore (n := 5) (pc' := 10) (by decide +kernel) (by decide) rfl ?_
  refine gv_fr (lp_A_fill_aJIIJ (p := p) (n := n) (v := v) (σ := σ) hsh hn hab hb ?_ a hab (Nat.le_refl _)) (gs_rowL0 _ _ _ (fun i => f_fillL0 _ _ _ i)) rfl
  exact gv_ret (by decide +kernel) rfl (by decide) (by decide) (gv_isr _ _)
set_option maxRecDepth 20000 in
theorem c_Guesses_drop (σ : gS) : gv_K m_Guesses_drop [.ref 15] σ (gv_is (.inl none) (gs_I (gs_I (gs_I σ 15 5 0) 15 6 0) 15 7 0)) := by
  refine gv_aload_n (n := 0) (pc' := 1) (by decide +kernel) rfl rfl ?_
  refine gv_iconst (n := 0) (v := 0) (pc' := 2) (by decide +kernel) (by decide) rfl ?_
  refine gv_putj lp_4_28 (by decide +kernel) rfl rfl rfl rfl (pc' := 5) rfl ?_
  refine gv_aload_n (n := 0) (pc' := 6) (by decide +kernel) rfl rfl ?_
  refine gv_iconst (n := 0) (v := 0) (pc' := 7) (by decide +kernel) (by decide) rfl ?_
  refine gv_putj lp_4_32 (by decide +kernel) rfl rfl rfl rfl (pc' := 10) rfl ?_
  refine gv_aload_n (n := 0) (pc' := 11) (by decide +kernel) rfl rfl ?_
  refine gv_iconst (n := 0) (v := 0) (pc' := 12) (by decide +kernel) (by decide) rfl ?_
  refine gv_putj lp_4_35 (by decide +kernel) rfl rfl rfl rfl (pc' := 15) rfl ?_
  exact gv_ret (by decide +kernel) rfl (by decide) (by decide) (gv_isr _ _)

def z_row (σ : gS) (p n : Nat) : gS := gs_row σ p (f_fill (gA σ p) 0 n 0)
set_option maxRecDepth 20000 in
theorem c_Machine_begin (σ : gS) : gv_K m_Machine_begin [.ref 10] σ (gv_is (.inl none) (gs_I (gs_I (gs_I (gs_I (gs_I (z_row (z_row σ 11 32) 12 256) 13 1 0) 15 5 0) 15 6 0) 15 7 0) 10 5 0)) := by
  refine gv_aload_n (n := 0) (pc' := 1) (by decide +kernel) rfl rfl ?_
  refine gv_getr lk_2_9 (by decide +kernel) rfl rfl (pc' := 4) rfl ?_
  refine gv_iconst (n := 0) (v := 0) (pc' := 5) (by decide +kernel) (by decide) rfl ?_
  refine gv_cs0 (w' := false) (pc' := 8) (c_A_fill_aII 11 32 0 σ rfl (by decide)) md_A_fill_aII sd_A_fill_aII (Or.inl ml_2_44) (by decide +kernel) (by decide) rfl (Nat.le_of_ble_eq_true rfl) (Nat.le_of_ble_eq_true rfl) (by decide) rfl (fun z => by cases z) (by decide) rfl ?_
  refine gv_aload_n (n := 0) (pc' := 9) (by decide +kernel) rfl rfl ?_
  refine gv_getr lk_2_15 (by decide +kernel) rfl rfl (pc' := 12) rfl ?_
  refine gv_iconst (n := 0) (v := 0) (pc' := 13) (by decide +kernel) (by decide) rfl ?_
  refine gv_cs0 (w' := false) (pc' := 16) (c_A_fill_aBB 12 256 0 _ rfl (by decide)) md_A_fill_aBB sd_A_fill_aBB (Or.inl ml_2_50) (by decide +kernel) (by decide) rfl (Nat.le_of_ble_eq_true rfl) (Nat.le_of_ble_eq_true rfl) (by decide) rfl (fun z => by cases z) (by decide) rfl ?_
  refine gv_aload_n (n := 0) (pc' := 17) (by decide +kernel) rfl rfl ?_
  refine gv_getr lk_2_22 (by decide +kernel) rfl rfl (pc' := 20) rfl ?_
  refine gv_cvi (w' := false) (pc' := 23) (c_Leaks_drop _) md_Leaks_drop vd_Leaks_drop (Or.inl ml_2_53) (by decide +kernel) (by decide) rfl rfl rfl (Nat.le_of_ble_eq_true rfl) (Nat.le_of_ble_eq_true rfl) (by decide) rfl (fun z => by cases z) (by decide) rfl ?_
  refine gv_pop (pc' := 24) (by decide +kernel) rfl rfl ?_
  refine gv_aload_n (n := 0) (pc' := 25) (by decide +kernel) rfl rfl ?_
  refine gv_getr lk_2_29 (by decide +kernel) rfl rfl (pc' := 28) rfl ?_
  refine gv_cv0 (w' := false) (pc' := 31) (c_Guesses_drop _) md_Guesses_drop vd_Guesses_drop (Or.inl ml_2_57) (by decide +kernel) (by decide) rfl rfl rfl (Nat.le_of_ble_eq_true rfl) (Nat.le_of_ble_eq_true rfl) (by decide) rfl (fun z => by cases z) (by decide) rfl ?_
  refine gv_aload_n (n := 0) (pc' := 32) (by decide +kernel) rfl rfl ?_
  refine gv_iconst (n := 0) (v := 0) (pc' := 33) (by decide +kernel) (by decide) rfl ?_
  refine gv_putj lp_2_33 (by decide +kernel) rfl rfl rfl rfl (pc' := 36) rfl ?_
  exact gv_ret (by decide +kernel) rfl (by decide) (by decide) (gv_isr _ _)

set_option maxRecDepth 20000 in
theorem c_Reach_dropRows (σ : gS) : gv_K m_Reach_dropRows [.ref 21] σ (gv_is (.inl none) (z_row (z_row σ 23 1040) 24 1040)) := by
  refine gv_aload_n (n := 0) (pc' := 1) (by decide +kernel) rfl rfl ?_
  refine gv_getr lk_5_15 (by decide +kernel) rfl rfl (pc' := 4) rfl ?_
  refine gv_iconst (n := 0) (v := 0) (pc' := 5) (by decide +kernel) (by decide) rfl ?_
  refine gv_cs0 (w' := false) (pc' := 8) (c_A_fill_aII 23 1040 0 σ rfl (by decide)) md_A_fill_aII sd_A_fill_aII (Or.inl ml_5_33) (by decide +kernel) (by decide) rfl (Nat.le_of_ble_eq_true rfl) (Nat.le_of_ble_eq_true rfl) (by decide) rfl (fun z => by cases z) (by decide) rfl ?_
  refine gv_aload_n (n := 0) (pc' := 9) (by decide +kernel) rfl rfl ?_
  refine gv_getr lk_5_19 (by decide +kernel) rfl rfl (pc' := 12) rfl ?_
  refine gv_iconst (n := 0) (v := 0) (pc' := 13) (by decide +kernel) (by decide) rfl ?_
  refine gv_cs0 (w' := false) (pc' := 16) (c_A_fill_aII 24 1040 0 _ rfl (by decide)) md_A_fill_aII sd_A_fill_aII (Or.inl ml_5_33) (by decide +kernel) (by decide) rfl (Nat.le_of_ble_eq_true rfl) (Nat.le_of_ble_eq_true rfl) (by decide) rfl (fun z => by cases z) (by decide) rfl ?_
  exact gv_ret (by decide +kernel) rfl (by decide) (by decide) (gv_isr _ _)

theorem lp_M_begin44 {σ : gS} {Q : gQ → gS → Prop} (h : gv_V m_M_begin 1 false 51 [some (.ref 41), some (.int (Int32.ofNat 32))] [] (gs_row σ 44 (f_fill (gA σ 44) 0 32 0)) Q) : ∀ i, i ≤ 32 → gv_V m_M_begin 1 false 32 [some (.ref 41), some (.int (Int32.ofNat i))] [] (gs_row σ 44 (f_fill (gA σ 44) 0 i 0)) Q := by
  refine gv_upto ?_ ?_
  · refine gv_iload_n (n := 1) (pc' := 33) (by decide +kernel) rfl rfl ?_
    refine gv_bipush (n := 32) (v := 32) (pc' := 35) (by decide +kernel) (by decide) rfl ?_
    refine gv_icmp_ge (off := 16) (tgt := 51) (pc' := 38) (by decide +kernel) (by decide) rfl (fun _ => ?_) (fun z => by first | exact absurd z (by decide) | exact absurd (by decide) z)
    exact h
  · intro i hi ih
    refine gv_iload_n (n := 1) (pc' := 33) (by decide +kernel) rfl rfl ?_
    refine gv_bipush (n := 32) (v := 32) (pc' := 35) (by decide +kernel) (by decide) rfl ?_
    refine gv_icmp_ge (off := 16) (tgt := 51) (pc' := 38) (by decide +kernel) (by decide) rfl (fun z => by first | exact absurd z (fun z => absurd ((ai_le (a := 32) (b := i) (by decide) (by omega)).mp z) (by omega)) | exact absurd (fun z => absurd ((ai_le (a := 32) (b := i) (by decide) (by omega)).mp z) (by omega)) z) (fun _ => ?_)
    refine gv_aload_n (n := 0) (pc' := 39) (by decide +kernel) rfl rfl ?_
    refine gv_getr lk_9_20 (by decide +kernel) rfl rfl (pc' := 42) rfl ?_
    refine gv_iload_n (n := 1) (pc' := 43) (by decide +kernel) rfl rfl ?_
    refine gv_iconst (n := 0) (v := 0) (pc' := 44) (by decide +kernel) (by decide) rfl ?_
    refine gj_iast (i) (pc' := 45) (by decide +kernel) rfl (ai_in hi (by decide)) (ai_cl (by omega)) rfl ?_
    refine gv_iincc (i := 1) (n := 1) (c := 1) (pc' := 48) (by decide +kernel) rfl (by decide) (by decide) rfl ?_
    refine gv_goto (off := -16) (tgt := 32) (by decide +kernel) (by decide) ?_
    exact gv_to ih (gs_rowA _ _ _ _ _ _ (fun j => f_fill1 _ (Nat.zero_le _) _ j)) (by rw [← ai_s]; rfl)
theorem lp_M_begin45 {σ : gS} {Q : gQ → gS → Prop} (h : gv_V m_M_begin 1 false 73 [some (.ref 41), some (.int (Int32.ofNat 256))] [] (gs_row σ 45 (f_fill (gA σ 45) 0 256 0)) Q) : ∀ i, i ≤ 256 → gv_V m_M_begin 1 false 53 [some (.ref 41), some (.int (Int32.ofNat i))] [] (gs_row σ 45 (f_fill (gA σ 45) 0 i 0)) Q := by
  refine gv_upto ?_ ?_
  · refine gv_iload_n (n := 1) (pc' := 54) (by decide +kernel) rfl rfl ?_
    refine gv_sipush (n := 256) (v := 256) (pc' := 57) (by decide +kernel) (by decide) rfl ?_
    refine gv_icmp_ge (off := 16) (tgt := 73) (pc' := 60) (by decide +kernel) (by decide) rfl (fun _ => ?_) (fun z => by first | exact absurd z (by decide) | exact absurd (by decide) z)
    exact h
  · intro i hi ih
    refine gv_iload_n (n := 1) (pc' := 54) (by decide +kernel) rfl rfl ?_
    refine gv_sipush (n := 256) (v := 256) (pc' := 57) (by decide +kernel) (by decide) rfl ?_
    refine gv_icmp_ge (off := 16) (tgt := 73) (pc' := 60) (by decide +kernel) (by decide) rfl (fun z => by first | exact absurd z (fun z => absurd ((ai_le (a := 256) (b := i) (by decide) (by omega)).mp z) (by omega)) | exact absurd (fun z => absurd ((ai_le (a := 256) (b := i) (by decide) (by omega)).mp z) (by omega)) z) (fun _ => ?_)
    refine gv_aload_n (n := 0) (pc' := 61) (by decide +kernel) rfl rfl ?_
    refine gv_getr lk_9_23 (by decide +kernel) rfl rfl (pc' := 64) rfl ?_
    refine gv_iload_n (n := 1) (pc' := 65) (by decide +kernel) rfl rfl ?_
    refine gv_iconst (n := 0) (v := 0) (pc' := 66) (by decide +kernel) (by decide) rfl ?_
    refine gj_iast (i) (pc' := 67) (by decide +kernel) rfl (ai_in hi (by decide)) (ai_cl (by omega)) rfl ?_
    refine gv_iincc (i := 1) (n := 1) (c := 1) (pc' := 70) (by decide +kernel) rfl (by decide) (by decide) rfl ?_
    refine gv_goto (off := -17) (tgt := 53) (by decide +kernel) (by decide) ?_
    exact gv_to ih (gs_rowA _ _ _ _ _ _ (fun j => f_fill1 _ (Nat.zero_le _) _ j)) (by rw [← ai_s]; rfl)
set_option maxRecDepth 20000 in
theorem c_M_begin (σ : gS) : gv_K m_M_begin [.ref 41] σ (gv_is (.inl none) (z_row (z_row (gs_I (gs_I (gs_I (gs_I (gs_I (gs_I σ 41 5 1) 41 20 0) 41 7 0) 41 11 0) 41 18 0) 41 19 0) 44 32) 45 256)) := by
  refine gv_aload_n (n := 0) (pc' := 1) (by decide +kernel) rfl rfl ?_
  refine gv_iconst (n := 1) (v := 1) (pc' := 2) (by decide +kernel) (by decide) rfl ?_
  refine gv_putj lp_9_95 (by decide +kernel) rfl rfl rfl rfl (pc' := 5) rfl ?_
  refine gv_aload_n (n := 0) (pc' := 6) (by decide +kernel) rfl rfl ?_
  refine gv_iconst (n := 0) (v := 0) (pc' := 7) (by decide +kernel) (by decide) rfl ?_
  refine gv_putj lp_9_142 (by decide +kernel) rfl rfl rfl rfl (pc' := 10) rfl ?_
  refine gv_aload_n (n := 0) (pc' := 11) (by decide +kernel) rfl rfl ?_
  refine gv_iconst (n := 0) (v := 0) (pc' := 12) (by decide +kernel) (by decide) rfl ?_
  refine gv_putj lp_9_145 (by decide +kernel) rfl rfl rfl rfl (pc' := 15) rfl ?_
  refine gv_aload_n (n := 0) (pc' := 16) (by decide +kernel) rfl rfl ?_
  refine gv_iconst (n := 0) (v := 0) (pc' := 17) (by decide +kernel) (by decide) rfl ?_
  refine gv_putj lp_9_148 (by decide +kernel) rfl rfl rfl rfl (pc' := 20) rfl ?_
  refine gv_aload_n (n := 0) (pc' := 21) (by decide +kernel) rfl rfl ?_
  refine gv_iconst (n := 0) (v := 0) (pc' := 22) (by decide +kernel) (by decide) rfl ?_
  refine gv_putj lp_9_151 (by decide +kernel) rfl rfl rfl rfl (pc' := 25) rfl ?_
  refine gv_aload_n (n := 0) (pc' := 26) (by decide +kernel) rfl rfl ?_
  refine gv_iconst (n := 0) (v := 0) (pc' := 27) (by decide +kernel) (by decide) rfl ?_
  refine gv_putj lp_9_154 (by decide +kernel) rfl rfl rfl rfl (pc' := 30) rfl ?_
  refine gv_iconst (n := 0) (v := 0) (pc' := 31) (by decide +kernel) (by decide) rfl ?_
  refine gv_istore_n (n := 1) (pc' := 32) (by decide +kernel) (by decide) rfl ?_
  refine gv_fr (lp_M_begin44 ?_ 0 (Nat.zero_le _)) (gs_row0 _ _ _ (fun i => f_fill0 _ _ _ i)) rfl
  refine gv_iconst (n := 0) (v := 0) (pc' := 52) (by decide +kernel) (by decide) rfl ?_
  refine gv_istore_n (n := 1) (pc' := 53) (by decide +kernel) (by decide) rfl ?_
  refine gv_fr (lp_M_begin45 ?_ 0 (Nat.zero_le _)) (gs_row0 _ _ _ (fun i => f_fill0 _ _ _ i)) rfl
  exact gv_ret (by decide +kernel) rfl (by decide) (by decide) (gv_isr _ _)

