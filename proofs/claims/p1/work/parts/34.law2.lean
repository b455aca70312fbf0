set_option maxRecDepth 20000 in
theorem lb_order {X : List Int32} {x a : Int32} {σ : gS} {k : Nat} {P : gS → Prop} {Q : gQ → gS → Prop} (hX : σ.2.2.2 = X) (r1 : lc_rd X (x + 1) a) (h : lc_h m_L_order m_M_order [.int a] X σ P) (he : ∀ σ2, P σ2 → gv_V m_L_law (k + 1) false 1191 (lc_lo x) [] σ2 Q) : gv_V m_L_law (k + 2) false 634 (lc_lo x) [] σ Q := by
  obtain ⟨v, b9, σ1, σ2, h1, h2, h3, h4, h5, h6⟩ := h
  refine gv_aload_n (n := 1) (pc' := 635) (by decide +kernel) rfl rfl ?_
  refine gv_aload_n (n := 0) (pc' := 636) (by decide +kernel) rfl rfl ?_
  refine gv_iload (n := 4) (pc' := 638) (by decide +kernel) rfl rfl ?_
  refine gv_iconst (n := 1) (v := 1) (pc' := 639) (by decide +kernel) (by decide) rfl ?_
  refine gv_iadd (pc' := 640) (by decide +kernel) rfl ?_
  refine lc_sld (pc' := 641) hX r1 (by decide +kernel) rfl ?_
  refine gv_aload_n (n := 3) (pc' := 642) (by decide +kernel) rfl rfl ?_
  refine gv_callS (k' := k + 1) (w' := false) (gv_mkS (by decide) md_L_order (Or.inl ml_12_125) sd_L_order) h1 (by decide +kernel) rfl (Nat.le_of_ble_eq_true rfl) (Nat.le_of_ble_eq_true rfl) (Nat.le_add_left 1 _) rfl (fun z => by cases z) (by decide) (pc' := 645) rfl (fun n σ' z => by cases z.1) (fun v' σ' z => ?_)
  obtain ⟨z1, rfl⟩ := z
  cases z1
  refine gv_istore (n := 5) (pc' := 647) (by decide +kernel) (by decide) rfl ?_
  refine gv_aload_n (n := 2) (pc' := 648) (by decide +kernel) rfl rfl ?_
  refine gv_aload_n (n := 0) (pc' := 649) (by decide +kernel) rfl rfl ?_
  refine gv_iload (n := 4) (pc' := 651) (by decide +kernel) rfl rfl ?_
  refine gv_iconst (n := 1) (v := 1) (pc' := 652) (by decide +kernel) (by decide) rfl ?_
  refine gv_iadd (pc' := 653) (by decide +kernel) rfl ?_
  refine lc_sld (pc' := 654) h2 r1 (by decide +kernel) rfl ?_
  refine gv_cvi (w' := false) (pc' := 657) (h3) md_M_order vd_M_order (Or.inl ml_12_127) (by decide +kernel) (by decide) rfl rfl rfl (Nat.le_of_ble_eq_true rfl) (Nat.le_of_ble_eq_true rfl) (Nat.le_add_left 1 _) rfl (fun z => by cases z) (by decide) rfl ?_
  refine gv_istore (n := 6) (pc' := 659) (by decide +kernel) (by decide) rfl ?_
  refine gv_aload_n (n := 2) (pc' := 660) (by decide +kernel) rfl rfl ?_
  refine gv_cvi (w' := _) (pc' := 663) (c_M_thrown _) md_M_thrown vd_M_thrown (Or.inl ml_12_85) (by decide +kernel) (by decide) rfl rfl rfl (Nat.le_of_ble_eq_true rfl) (Nat.le_of_ble_eq_true rfl) (Nat.le_add_left 1 _) rfl (fun z => ⟨rfl, z⟩) (by decide) rfl ?_
  refine gv_iload (n := 5) (pc' := 665) (by decide +kernel) rfl rfl ?_
  refine gv_icmp_eq (off := 5) (tgt := 670) (pc' := 668) (by decide +kernel) (by decide) rfl (fun _ => ?_) (fun z => by first | exact absurd z h4 | exact absurd h4 z)
  refine gv_iload (n := 5) (pc' := 672) (by decide +kernel) rfl rfl ?_
  refine gv_if_ne (off := 15) (tgt := 687) (pc' := 675) (by decide +kernel) (by decide) rfl (fun h672 => ?_) (fun h672 => ?_)
  · refine gv_goto (off := 504) (tgt := 1191) (by decide +kernel) (by decide) ?_
    refine gv_less (lc_forget (ls := [some (.ref 900), some (.ref 0), some (.ref 41), some (.ref 66), some (.int x)])) ?_
    exact he _ h6
  · refine gv_aload_n (n := 3) (pc' := 676) (by decide +kernel) rfl rfl ?_
    refine gv_iconst (n := 0) (v := 0) (pc' := 677) (by decide +kernel) (by decide) rfl ?_
    refine gj_lald (0) (pc' := 678) (by decide +kernel) rfl lc_in0 rfl rfl ?_
    refine gv_iload (n := 6) (pc' := 680) (by decide +kernel) rfl rfl ?_
    refine gv_i2l (pc' := 681) (by decide +kernel) rfl ?_
    refine gv_lcmp (pc' := 682) (by decide +kernel) rfl ?_
    refine gv_if_eq (off := 5) (tgt := 687) (pc' := 685) (by decide +kernel) (by decide) rfl (fun _ => ?_) (fun z => by first | exact absurd z (lc_cmp0 (h5 h672)) | exact absurd (lc_cmp0 (h5 h672)) z)
    refine gv_goto (off := 504) (tgt := 1191) (by decide +kernel) (by decide) ?_
    refine gv_less (lc_forget (ls := [some (.ref 900), some (.ref 0), some (.ref 41), some (.ref 66), some (.int x)])) ?_
    exact he _ h6
set_option maxRecDepth 20000 in
theorem lb_window {X : List Int32} {x a : Int32} {σ : gS} {k : Nat} {P : gS → Prop} {Q : gQ → gS → Prop} (hX : σ.2.2.2 = X) (r1 : lc_rd X (x + 1) a) (h : lc_h m_L_window m_M_window [.int a] X σ P) (he : ∀ σ2, P σ2 → gv_V m_L_law (k + 1) false 1191 (lc_lo x) [] σ2 Q) : gv_V m_L_law (k + 2) false 690 (lc_lo x) [] σ Q := by
  obtain ⟨v, b9, σ1, σ2, h1, h2, h3, h4, h5, h6⟩ := h
  refine gv_aload_n (n := 1) (pc' := 691) (by decide +kernel) rfl rfl ?_
  refine gv_aload_n (n := 0) (pc' := 692) (by decide +kernel) rfl rfl ?_
  refine gv_iload (n := 4) (pc' := 694) (by decide +kernel) rfl rfl ?_
  refine gv_iconst (n := 1) (v := 1) (pc' := 695) (by decide +kernel) (by decide) rfl ?_
  refine gv_iadd (pc' := 696) (by decide +kernel) rfl ?_
  refine lc_sld (pc' := 697) hX r1 (by decide +kernel) rfl ?_
  refine gv_aload_n (n := 3) (pc' := 698) (by decide +kernel) rfl rfl ?_
  refine gv_callS (k' := k + 1) (w' := false) (gv_mkS (by decide) md_L_window (Or.inl ml_12_128) sd_L_window) h1 (by decide +kernel) rfl (Nat.le_of_ble_eq_true rfl) (Nat.le_of_ble_eq_true rfl) (Nat.le_add_left 1 _) rfl (fun z => by cases z) (by decide) (pc' := 701) rfl (fun n σ' z => by cases z.1) (fun v' σ' z => ?_)
  obtain ⟨z1, rfl⟩ := z
  cases z1
  refine gv_istore (n := 5) (pc' := 703) (by decide +kernel) (by decide) rfl ?_
  refine gv_aload_n (n := 2) (pc' := 704) (by decide +kernel) rfl rfl ?_
  refine gv_aload_n (n := 0) (pc' := 705) (by decide +kernel) rfl rfl ?_
  refine gv_iload (n := 4) (pc' := 707) (by decide +kernel) rfl rfl ?_
  refine gv_iconst (n := 1) (v := 1) (pc' := 708) (by decide +kernel) (by decide) rfl ?_
  refine gv_iadd (pc' := 709) (by decide +kernel) rfl ?_
  refine lc_sld (pc' := 710) h2 r1 (by decide +kernel) rfl ?_
  refine gv_cvi (w' := false) (pc' := 713) (h3) md_M_window vd_M_window (Or.inl ml_12_130) (by decide +kernel) (by decide) rfl rfl rfl (Nat.le_of_ble_eq_true rfl) (Nat.le_of_ble_eq_true rfl) (Nat.le_add_left 1 _) rfl (fun z => by cases z) (by decide) rfl ?_
  refine gv_istore (n := 6) (pc' := 715) (by decide +kernel) (by decide) rfl ?_
  refine gv_aload_n (n := 2) (pc' := 716) (by decide +kernel) rfl rfl ?_
  refine gv_cvi (w' := _) (pc' := 719) (c_M_thrown _) md_M_thrown vd_M_thrown (Or.inl ml_12_85) (by decide +kernel) (by decide) rfl rfl rfl (Nat.le_of_ble_eq_true rfl) (Nat.le_of_ble_eq_true rfl) (Nat.le_add_left 1 _) rfl (fun z => ⟨rfl, z⟩) (by decide) rfl ?_
  refine gv_iload (n := 5) (pc' := 721) (by decide +kernel) rfl rfl ?_
  refine gv_icmp_eq (off := 5) (tgt := 726) (pc' := 724) (by decide +kernel) (by decide) rfl (fun _ => ?_) (fun z => by first | exact absurd z h4 | exact absurd h4 z)
  refine gv_iload (n := 5) (pc' := 728) (by decide +kernel) rfl rfl ?_
  refine gv_if_ne (off := 15) (tgt := 743) (pc' := 731) (by decide +kernel) (by decide) rfl (fun h728 => ?_) (fun h728 => ?_)
  · refine gv_goto (off := 448) (tgt := 1191) (by decide +kernel) (by decide) ?_
    refine gv_less (lc_forget (ls := [some (.ref 900), some (.ref 0), some (.ref 41), some (.ref 66), some (.int x)])) ?_
    exact he _ h6
  · refine gv_aload_n (n := 3) (pc' := 732) (by decide +kernel) rfl rfl ?_
    refine gv_iconst (n := 0) (v := 0) (pc' := 733) (by decide +kernel) (by decide) rfl ?_
    refine gj_lald (0) (pc' := 734) (by decide +kernel) rfl lc_in0 rfl rfl ?_
    refine gv_iload (n := 6) (pc' := 736) (by decide +kernel) rfl rfl ?_
    refine gv_i2l (pc' := 737) (by decide +kernel) rfl ?_
    refine gv_lcmp (pc' := 738) (by decide +kernel) rfl ?_
    refine gv_if_eq (off := 5) (tgt := 743) (pc' := 741) (by decide +kernel) (by decide) rfl (fun _ => ?_) (fun z => by first | exact absurd z (lc_cmp0 (h5 h728)) | exact absurd (lc_cmp0 (h5 h728)) z)
    refine gv_goto (off := 448) (tgt := 1191) (by decide +kernel) (by decide) ?_
    refine gv_less (lc_forget (ls := [some (.ref 900), some (.ref 0), some (.ref 41), some (.ref 66), some (.int x)])) ?_
    exact he _ h6
set_option maxRecDepth 20000 in
theorem lb_state {X : List Int32} {x a : Int32} {σ : gS} {k : Nat} {P : gS → Prop} {Q : gQ → gS → Prop} (hX : σ.2.2.2 = X) (r1 : lc_rd X (x + 1) a) (h : lc_h m_L_state m_M_state [.int a] X σ P) (he : ∀ σ2, P σ2 → gv_V m_L_law (k + 1) false 1191 (lc_lo x) [] σ2 Q) : gv_V m_L_law (k + 2) false 746 (lc_lo x) [] σ Q := by
  obtain ⟨v, b9, σ1, σ2, h1, h2, h3, h4, h5, h6⟩ := h
  refine gv_aload_n (n := 1) (pc' := 747) (by decide +kernel) rfl rfl ?_
  refine gv_aload_n (n := 0) (pc' := 748) (by decide +kernel) rfl rfl ?_
  refine gv_iload (n := 4) (pc' := 750) (by decide +kernel) rfl rfl ?_
  refine gv_iconst (n := 1) (v := 1) (pc' := 751) (by decide +kernel) (by decide) rfl ?_
  refine gv_iadd (pc' := 752) (by decide +kernel) rfl ?_
  refine lc_sld (pc' := 753) hX r1 (by decide +kernel) rfl ?_
  refine gv_aload_n (n := 3) (pc' := 754) (by decide +kernel) rfl rfl ?_
  refine gv_callS (k' := k + 1) (w' := false) (gv_mkS (by decide) md_L_state (Or.inl ml_12_131) sd_L_state) h1 (by decide +kernel) rfl (Nat.le_of_ble_eq_true rfl) (Nat.le_of_ble_eq_true rfl) (Nat.le_add_left 1 _) rfl (fun z => by cases z) (by decide) (pc' := 757) rfl (fun n σ' z => by cases z.1) (fun v' σ' z => ?_)
  obtain ⟨z1, rfl⟩ := z
  cases z1
  refine gv_istore (n := 5) (pc' := 759) (by decide +kernel) (by decide) rfl ?_
  refine gv_aload_n (n := 2) (pc' := 760) (by decide +kernel) rfl rfl ?_
  refine gv_aload_n (n := 0) (pc' := 761) (by decide +kernel) rfl rfl ?_
  refine gv_iload (n := 4) (pc' := 763) (by decide +kernel) rfl rfl ?_
  refine gv_iconst (n := 1) (v := 1) (pc' := 764) (by decide +kernel) (by decide) rfl ?_
  refine gv_iadd (pc' := 765) (by decide +kernel) rfl ?_
  refine lc_sld (pc' := 766) h2 r1 (by decide +kernel) rfl ?_
  refine gv_cvi (w' := false) (pc' := 769) (h3) md_M_state vd_M_state (Or.inl ml_12_133) (by decide +kernel) (by decide) rfl rfl rfl (Nat.le_of_ble_eq_true rfl) (Nat.le_of_ble_eq_true rfl) (Nat.le_add_left 1 _) rfl (fun z => by cases z) (by decide) rfl ?_
  refine gv_istore (n := 6) (pc' := 771) (by decide +kernel) (by decide) rfl ?_
  refine gv_aload_n (n := 2) (pc' := 772) (by decide +kernel) rfl rfl ?_
  refine gv_cvi (w' := _) (pc' := 775) (c_M_thrown _) md_M_thrown vd_M_thrown (Or.inl ml_12_85) (by decide +kernel) (by decide) rfl rfl rfl (Nat.le_of_ble_eq_true rfl) (Nat.le_of_ble_eq_true rfl) (Nat.le_add_left 1 _) rfl (fun z => ⟨rfl, z⟩) (by decide) rfl ?_
  refine gv_iload (n := 5) (pc' := 777) (by decide +kernel) rfl rfl ?_
  refine gv_icmp_eq (off := 5) (tgt := 782) (pc' := 780) (by decide +kernel) (by decide) rfl (fun _ => ?_) (fun z => by first | exact absurd z h4 | exact absurd h4 z)
  refine gv_iload (n := 5) (pc' := 784) (by decide +kernel) rfl rfl ?_
  refine gv_if_ne (off := 15) (tgt := 799) (pc' := 787) (by decide +kernel) (by decide) rfl (fun h784 => ?_) (fun h784 => ?_)
  · refine gv_goto (off := 392) (tgt := 1191) (by decide +kernel) (by decide) ?_
    refine gv_less (lc_forget (ls := [some (.ref 900), some (.ref 0), some (.ref 41), some (.ref 66), some (.int x)])) ?_
    exact he _ h6
  · refine gv_aload_n (n := 3) (pc' := 788) (by decide +kernel) rfl rfl ?_
    refine gv_iconst (n := 0) (v := 0) (pc' := 789) (by decide +kernel) (by decide) rfl ?_
    refine gj_lald (0) (pc' := 790) (by decide +kernel) rfl lc_in0 rfl rfl ?_
    refine gv_iload (n := 6) (pc' := 792) (by decide +kernel) rfl rfl ?_
    refine gv_i2l (pc' := 793) (by decide +kernel) rfl ?_
    refine gv_lcmp (pc' := 794) (by decide +kernel) rfl ?_
    refine gv_if_eq (off := 5) (tgt := 799) (pc' := 797) (by decide +kernel) (by decide) rfl (fun _ => ?_) (fun z => by first | exact absurd z (lc_cmp0 (h5 h784)) | exact absurd (lc_cmp0 (h5 h784)) z)
    refine gv_goto (off := 392) (tgt := 1191) (by decide +kernel) (by decide) ?_
    refine gv_less (lc_forget (ls := [some (.ref 900), some (.ref 0), some (.ref 41), some (.ref 66), some (.int x)])) ?_
    exact he _ h6
set_option maxRecDepth 20000 in
theorem lb_leak {X : List Int32} {x a : Int32} {σ : gS} {k : Nat} {P : gS → Prop} {Q : gQ → gS → Prop} (hX : σ.2.2.2 = X) (r1 : lc_rd X (x + 1) a) (h : lc_l m_G_leak m_M_leak [.int a] X σ P) (he : ∀ σ2, P σ2 → gv_V m_L_law (k + 1) false 1191 (lc_lo x) [] σ2 Q) : gv_V m_L_law (k + 2) false 802 (lc_lo x) [] σ Q := by
  obtain ⟨r, σ1, σ2, h1, h2, h3, h6⟩ := h
  refine gv_aload_n (n := 1) (pc' := 803) (by decide +kernel) rfl rfl ?_
  refine gv_aload_n (n := 0) (pc' := 804) (by decide +kernel) rfl rfl ?_
  refine gv_iload (n := 4) (pc' := 806) (by decide +kernel) rfl rfl ?_
  refine gv_iconst (n := 1) (v := 1) (pc' := 807) (by decide +kernel) (by decide) rfl ?_
  refine gv_iadd (pc' := 808) (by decide +kernel) rfl ?_
  refine lc_sld (pc' := 809) hX r1 (by decide +kernel) rfl ?_
  refine gv_cvl (w' := _) (pc' := 812) (h1) md_G_leak vd_G_leak (Or.inl ml_12_134) (by decide +kernel) (by decide) rfl rfl rfl (Nat.le_of_ble_eq_true rfl) (Nat.le_of_ble_eq_true rfl) (Nat.le_add_left 1 _) rfl (fun z => ⟨rfl, z⟩) (by decide) rfl ?_
  refine gv_aload_n (n := 2) (pc' := 813) (by decide +kernel) rfl rfl ?_
  refine gv_aload_n (n := 0) (pc' := 814) (by decide +kernel) rfl rfl ?_
  refine gv_iload (n := 4) (pc' := 816) (by decide +kernel) rfl rfl ?_
  refine gv_iconst (n := 1) (v := 1) (pc' := 817) (by decide +kernel) (by decide) rfl ?_
  refine gv_iadd (pc' := 818) (by decide +kernel) rfl ?_
  refine lc_sld (pc' := 819) h2 r1 (by decide +kernel) rfl ?_
  refine gv_cvl (w' := false) (pc' := 822) (h3) md_M_leak vd_M_leak (Or.inl ml_12_137) (by decide +kernel) (by decide) rfl rfl rfl (Nat.le_of_ble_eq_true rfl) (Nat.le_of_ble_eq_true rfl) (Nat.le_add_left 1 _) rfl (fun z => by cases z) (by decide) rfl ?_
  refine gv_lcmp (pc' := 823) (by decide +kernel) rfl ?_
  refine gv_if_eq (off := 368) (tgt := 1191) (pc' := 826) (by decide +kernel) (by decide) rfl (fun _ => ?_) (fun z => by first | exact absurd z (lc_cmp0 rfl) | exact absurd (lc_cmp0 rfl) z)
  exact gv_keep (Nat.le_succ _) (he _ h6)
set_option maxRecDepth 20000 in
theorem lb_forget {X : List Int32} {x : Int32} {σ : gS} {k : Nat} {P : gS → Prop} {Q : gQ → gS → Prop} (hX : σ.2.2.2 = X) (h : lc_h m_L_forget m_M_forget [] X σ P) (he : ∀ σ2, P σ2 → gv_V m_L_law (k + 1) false 1191 (lc_lo x) [] σ2 Q) : gv_V m_L_law (k + 2) false 828 (lc_lo x) [] σ Q := by
  obtain ⟨v, b9, σ1, σ2, h1, h2, h3, h4, h5, h6⟩ := h
  refine gv_aload_n (n := 1) (pc' := 829) (by decide +kernel) rfl rfl ?_
  refine gv_aload_n (n := 3) (pc' := 830) (by decide +kernel) rfl rfl ?_
  refine gv_callS (k' := k + 1) (w' := false) (gv_mkS (by decide) md_L_forget (Or.inl ml_12_138) sd_L_forget) h1 (by decide +kernel) rfl (Nat.le_of_ble_eq_true rfl) (Nat.le_of_ble_eq_true rfl) (Nat.le_add_left 1 _) rfl (fun z => by cases z) (by decide) (pc' := 833) rfl (fun n σ' z => by cases z.1) (fun v' σ' z => ?_)
  obtain ⟨z1, rfl⟩ := z
  cases z1
  refine gv_istore (n := 5) (pc' := 835) (by decide +kernel) (by decide) rfl ?_
  refine gv_aload_n (n := 2) (pc' := 836) (by decide +kernel) rfl rfl ?_
  refine gv_cvi (w' := false) (pc' := 839) (h3) md_M_forget vd_M_forget (Or.inl ml_12_141) (by decide +kernel) (by decide) rfl rfl rfl (Nat.le_of_ble_eq_true rfl) (Nat.le_of_ble_eq_true rfl) (Nat.le_add_left 1 _) rfl (fun z => by cases z) (by decide) rfl ?_
  refine gv_istore (n := 6) (pc' := 841) (by decide +kernel) (by decide) rfl ?_
  refine gv_aload_n (n := 2) (pc' := 842) (by decide +kernel) rfl rfl ?_
  refine gv_cvi (w' := _) (pc' := 845) (c_M_thrown _) md_M_thrown vd_M_thrown (Or.inl ml_12_85) (by decide +kernel) (by decide) rfl rfl rfl (Nat.le_of_ble_eq_true rfl) (Nat.le_of_ble_eq_true rfl) (Nat.le_add_left 1 _) rfl (fun z => ⟨rfl, z⟩) (by decide) rfl ?_
  refine gv_iload (n := 5) (pc' := 847) (by decide +kernel) rfl rfl ?_
  refine gv_icmp_eq (off := 5) (tgt := 852) (pc' := 850) (by decide +kernel) (by decide) rfl (fun _ => ?_) (fun z => by first | exact absurd z h4 | exact absurd h4 z)
  refine gv_iload (n := 5) (pc' := 854) (by decide +kernel) rfl rfl ?_
  refine gv_if_ne (off := 15) (tgt := 869) (pc' := 857) (by decide +kernel) (by decide) rfl (fun h854 => ?_) (fun h854 => ?_)
  · refine gv_goto (off := 322) (tgt := 1191) (by decide +kernel) (by decide) ?_
    refine gv_less (lc_forget (ls := [some (.ref 900), some (.ref 0), some (.ref 41), some (.ref 66), some (.int x)])) ?_
    exact he _ h6
  · refine gv_aload_n (n := 3) (pc' := 858) (by decide +kernel) rfl rfl ?_
    refine gv_iconst (n := 0) (v := 0) (pc' := 859) (by decide +kernel) (by decide) rfl ?_
    refine gj_lald (0) (pc' := 860) (by decide +kernel) rfl lc_in0 rfl rfl ?_
    refine gv_iload (n := 6) (pc' := 862) (by decide +kernel) rfl rfl ?_
    refine gv_i2l (pc' := 863) (by decide +kernel) rfl ?_
    refine gv_lcmp (pc' := 864) (by decide +kernel) rfl ?_
    refine gv_if_eq (off := 5) (tgt := 869) (pc' := 867) (by decide +kernel) (by decide) rfl (fun _ => ?_) (fun z => by first | exact absurd z (lc_cmp0 (h5 h854)) | exact absurd (lc_cmp0 (h5 h854)) z)
    refine gv_goto (off := 322) (tgt := 1191) (by decide +kernel) (by decide) ?_
    refine gv_less (lc_forget (ls := [some (.ref 900), some (.ref 0), some (.ref 41), some (.ref 66), some (.int x)])) ?_
    exact he _ h6
set_option maxRecDepth 20000 in
theorem lb_check {X : List Int32} {x : Int32} {σ : gS} {k : Nat} {P : gS → Prop} {Q : gQ → gS → Prop} (hX : σ.2.2.2 = X) (h : lc_h m_L_check m_M_check [] X σ P) (he : ∀ σ2, P σ2 → gv_V m_L_law (k + 1) false 1191 (lc_lo x) [] σ2 Q) : gv_V m_L_law (k + 2) false 872 (lc_lo x) [] σ Q := by
  obtain ⟨v, b9, σ1, σ2, h1, h2, h3, h4, h5, h6⟩ := h
  refine gv_aload_n (n := 1) (pc' := 873) (by decide +kernel) rfl rfl ?_
  refine gv_aload_n (n := 3) (pc' := 874) (by decide +kernel) rfl rfl ?_
  refine gv_callS (k' := k + 1) (w' := false) (gv_mkS (by decide) md_L_check (Or.inl ml_12_142) sd_L_check) h1 (by decide +kernel) rfl (Nat.le_of_ble_eq_true rfl) (Nat.le_of_ble_eq_true rfl) (Nat.le_add_left 1 _) rfl (fun z => by cases z) (by decide) (pc' := 877) rfl (fun n σ' z => by cases z.1) (fun v' σ' z => ?_)
  obtain ⟨z1, rfl⟩ := z
  cases z1
  refine gv_istore (n := 5) (pc' := 879) (by decide +kernel) (by decide) rfl ?_
  refine gv_aload_n (n := 2) (pc' := 880) (by decide +kernel) rfl rfl ?_
  refine gv_cvi (w' := false) (pc' := 883) (h3) md_M_check vd_M_check (Or.inl ml_12_144) (by decide +kernel) (by decide) rfl rfl rfl (Nat.le_of_ble_eq_true rfl) (Nat.le_of_ble_eq_true rfl) (Nat.le_add_left 1 _) rfl (fun z => by cases z) (by decide) rfl ?_
  refine gv_istore (n := 6) (pc' := 885) (by decide +kernel) (by decide) rfl ?_
  refine gv_aload_n (n := 2) (pc' := 886) (by decide +kernel) rfl rfl ?_
  refine gv_cvi (w' := _) (pc' := 889) (c_M_thrown _) md_M_thrown vd_M_thrown (Or.inl ml_12_85) (by decide +kernel) (by decide) rfl rfl rfl (Nat.le_of_ble_eq_true rfl) (Nat.le_of_ble_eq_true rfl) (Nat.le_add_left 1 _) rfl (fun z => ⟨rfl, z⟩) (by decide) rfl ?_
  refine gv_iload (n := 5) (pc' := 891) (by decide +kernel) rfl rfl ?_
  refine gv_icmp_eq (off := 5) (tgt := 896) (pc' := 894) (by decide +kernel) (by decide) rfl (fun _ => ?_) (fun z => by first | exact absurd z h4 | exact absurd h4 z)
  refine gv_iload (n := 5) (pc' := 898) (by decide +kernel) rfl rfl ?_
  refine gv_if_ne (off := 15) (tgt := 913) (pc' := 901) (by decide +kernel) (by decide) rfl (fun h898 => ?_) (fun h898 => ?_)
  · refine gv_goto (off := 278) (tgt := 1191) (by decide +kernel) (by decide) ?_
    refine gv_less (lc_forget (ls := [some (.ref 900), some (.ref 0), some (.ref 41), some (.ref 66), some (.int x)])) ?_
    exact he _ h6
  · refine gv_aload_n (n := 3) (pc' := 902) (by decide +kernel) rfl rfl ?_
    refine gv_iconst (n := 0) (v := 0) (pc' := 903) (by decide +kernel) (by decide) rfl ?_
    refine gj_lald (0) (pc' := 904) (by decide +kernel) rfl lc_in0 rfl rfl ?_
    refine gv_iload (n := 6) (pc' := 906) (by decide +kernel) rfl rfl ?_
    refine gv_i2l (pc' := 907) (by decide +kernel) rfl ?_
    refine gv_lcmp (pc' := 908) (by decide +kernel) rfl ?_
    refine gv_if_eq (off := 5) (tgt := 913) (pc' := 911) (by decide +kernel) (by decide) rfl (fun _ => ?_) (fun z => by first | exact absurd z (lc_cmp0 (h5 h898)) | exact absurd (lc_cmp0 (h5 h898)) z)
    refine gv_goto (off := 278) (tgt := 1191) (by decide +kernel) (by decide) ?_
    refine gv_less (lc_forget (ls := [some (.ref 900), some (.ref 0), some (.ref 41), some (.ref 66), some (.int x)])) ?_
    exact he _ h6
