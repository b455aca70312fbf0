set_option maxRecDepth 20000 in
theorem lb_reaches {X : List Int32} {x a b : Int32} {σ : gS} {k : Nat} {P : gS → Prop} {Q : gQ → gS → Prop} (hX : σ.2.2.2 = X) (r1 : lc_rd X (x + 1) a) (r2 : lc_rd X (x + 2) b) (h : lc_z m_L_reaches m_M_reaches [.int a, .int b] X σ P) (he : ∀ σ2, P σ2 → gv_V m_L_law (k + 1) false 1191 (lc_lo x) [] σ2 Q) : gv_V m_L_law (k + 2) false 916 (lc_lo x) [] σ Q := by
  obtain ⟨v, b9, σ1, σ2, h1, h2, h3, h4, h5, h6⟩ := h
  refine gv_aload_n (n := 1) (pc' := 917) (by decide +kernel) rfl rfl ?_
  refine gv_aload_n (n := 0) (pc' := 918) (by decide +kernel) rfl rfl ?_
  refine gv_iload (n := 4) (pc' := 920) (by decide +kernel) rfl rfl ?_
  refine gv_iconst (n := 1) (v := 1) (pc' := 921) (by decide +kernel) (by decide) rfl ?_
  refine gv_iadd (pc' := 922) (by decide +kernel) rfl ?_
  refine lc_sld (pc' := 923) hX r1 (by decide +kernel) rfl ?_
  refine gv_aload_n (n := 0) (pc' := 924) (by decide +kernel) rfl rfl ?_
  refine gv_iload (n := 4) (pc' := 926) (by decide +kernel) rfl rfl ?_
  refine gv_iconst (n := 2) (v := 2) (pc' := 927) (by decide +kernel) (by decide) rfl ?_
  refine gv_iadd (pc' := 928) (by decide +kernel) rfl ?_
  refine lc_sld (pc' := 929) hX r2 (by decide +kernel) rfl ?_
  refine gv_aload_n (n := 3) (pc' := 930) (by decide +kernel) rfl rfl ?_
  refine gv_callS (k' := k + 1) (w' := false) (gv_mkS (by decide) md_L_reaches (Or.inl ml_12_145) sd_L_reaches) h1 (by decide +kernel) rfl (Nat.le_of_ble_eq_true rfl) (Nat.le_of_ble_eq_true rfl) (Nat.le_add_left 1 _) rfl (fun z => by cases z) (by decide) (pc' := 933) rfl (fun n σ' z => by cases z.1) (fun v' σ' z => ?_)
  obtain ⟨z1, rfl⟩ := z
  cases z1
  refine gv_istore (n := 5) (pc' := 935) (by decide +kernel) (by decide) rfl ?_
  refine gv_aload_n (n := 2) (pc' := 936) (by decide +kernel) rfl rfl ?_
  refine gv_aload_n (n := 0) (pc' := 937) (by decide +kernel) rfl rfl ?_
  refine gv_iload (n := 4) (pc' := 939) (by decide +kernel) rfl rfl ?_
  refine gv_iconst (n := 1) (v := 1) (pc' := 940) (by decide +kernel) (by decide) rfl ?_
  refine gv_iadd (pc' := 941) (by decide +kernel) rfl ?_
  refine lc_sld (pc' := 942) h2 r1 (by decide +kernel) rfl ?_
  refine gv_aload_n (n := 0) (pc' := 943) (by decide +kernel) rfl rfl ?_
  refine gv_iload (n := 4) (pc' := 945) (by decide +kernel) rfl rfl ?_
  refine gv_iconst (n := 2) (v := 2) (pc' := 946) (by decide +kernel) (by decide) rfl ?_
  refine gv_iadd (pc' := 947) (by decide +kernel) rfl ?_
  refine lc_sld (pc' := 948) h2 r2 (by decide +kernel) rfl ?_
  refine gv_cvi (w' := false) (pc' := 951) (h3) md_M_reaches vd_M_reaches (Or.inl ml_12_147) (by decide +kernel) (by decide) rfl rfl rfl (Nat.le_of_ble_eq_true rfl) (Nat.le_of_ble_eq_true rfl) (Nat.le_add_left 1 _) rfl (fun z => by cases z) (by decide) rfl ?_
  refine gv_istore (n := 6) (pc' := 953) (by decide +kernel) (by decide) rfl ?_
  refine gv_aload_n (n := 2) (pc' := 954) (by decide +kernel) rfl rfl ?_
  refine gv_cvi (w' := _) (pc' := 957) (c_M_thrown _) md_M_thrown vd_M_thrown (Or.inl ml_12_85) (by decide +kernel) (by decide) rfl rfl rfl (Nat.le_of_ble_eq_true rfl) (Nat.le_of_ble_eq_true rfl) (Nat.le_add_left 1 _) rfl (fun z => ⟨rfl, z⟩) (by decide) rfl ?_
  refine gv_iload (n := 5) (pc' := 959) (by decide +kernel) rfl rfl ?_
  refine gv_icmp_eq (off := 5) (tgt := 964) (pc' := 962) (by decide +kernel) (by decide) rfl (fun _ => ?_) (fun z => by first | exact absurd z h4 | exact absurd h4 z)
  refine gv_iload (n := 5) (pc' := 966) (by decide +kernel) rfl rfl ?_
  refine gv_if_ne (off := 22) (tgt := 988) (pc' := 969) (by decide +kernel) (by decide) rfl (fun h966 => ?_) (fun h966 => ?_)
  · refine gv_goto (off := 203) (tgt := 1191) (by decide +kernel) (by decide) ?_
    refine gv_less (lc_forget (ls := [some (.ref 900), some (.ref 0), some (.ref 41), some (.ref 66), some (.int x)])) ?_
    exact he _ h6
  · refine gv_aload_n (n := 3) (pc' := 970) (by decide +kernel) rfl rfl ?_
    refine gv_iconst (n := 0) (v := 0) (pc' := 971) (by decide +kernel) (by decide) rfl ?_
    refine gj_lald (0) (pc' := 972) (by decide +kernel) rfl lc_in0 rfl rfl ?_
    refine gv_iload (n := 6) (pc' := 974) (by decide +kernel) rfl rfl ?_
    refine gv_if_eq (off := 7) (tgt := 981) (pc' := 977) (by decide +kernel) (by decide) rfl (fun h974 => ?_) (fun h974 => ?_)
    · refine gv_lconst (n := 0) (v := 0) (pc' := 982) (by decide +kernel) (by decide) rfl ?_
      refine gv_lcmp (pc' := 983) (by decide +kernel) rfl ?_
      refine gv_if_eq (off := 5) (tgt := 988) (pc' := 986) (by decide +kernel) (by decide) rfl (fun _ => ?_) (fun z => by first | exact absurd z (lc_cmp0 ((h5 h966).trans (by first | exact if_pos h974 | exact if_neg h974))) | exact absurd (lc_cmp0 ((h5 h966).trans (by first | exact if_pos h974 | exact if_neg h974))) z)
      refine gv_goto (off := 203) (tgt := 1191) (by decide +kernel) (by decide) ?_
      refine gv_less (lc_forget (ls := [some (.ref 900), some (.ref 0), some (.ref 41), some (.ref 66), some (.int x)])) ?_
      exact he _ h6
    · refine gv_lconst (n := 1) (v := 1) (pc' := 978) (by decide +kernel) (by decide) rfl ?_
      refine gv_goto (off := 4) (tgt := 982) (by decide +kernel) (by decide) ?_
      refine gv_lcmp (pc' := 983) (by decide +kernel) rfl ?_
      refine gv_if_eq (off := 5) (tgt := 988) (pc' := 986) (by decide +kernel) (by decide) rfl (fun _ => ?_) (fun z => by first | exact absurd z (lc_cmp0 ((h5 h966).trans (by first | exact if_pos h974 | exact if_neg h974))) | exact absurd (lc_cmp0 ((h5 h966).trans (by first | exact if_pos h974 | exact if_neg h974))) z)
      refine gv_goto (off := 203) (tgt := 1191) (by decide +kernel) (by decide) ?_
      refine gv_less (lc_forget (ls := [some (.ref 900), some (.ref 0), some (.ref 41), some (.ref 66), some (.int x)])) ?_
      exact he _ h6
set_option maxRecDepth 20000 in
theorem lb_mark {X : List Int32} {x a : Int32} {σ : gS} {k : Nat} {P : gS → Prop} {Q : gQ → gS → Prop} (hX : σ.2.2.2 = X) (r1 : lc_rd X (x + 1) a) (h : lc_h m_L_mark m_M_mark [.int a] X σ P) (he : ∀ σ2, P σ2 → gv_V m_L_law (k + 1) false 1191 (lc_lo x) [] σ2 Q) : gv_V m_L_law (k + 2) false 991 (lc_lo x) [] σ Q := by
  obtain ⟨v, b9, σ1, σ2, h1, h2, h3, h4, h5, h6⟩ := h
  refine gv_aload_n (n := 1) (pc' := 992) (by decide +kernel) rfl rfl ?_
  refine gv_aload_n (n := 0) (pc' := 993) (by decide +kernel) rfl rfl ?_
  refine gv_iload (n := 4) (pc' := 995) (by decide +kernel) rfl rfl ?_
  refine gv_iconst (n := 1) (v := 1) (pc' := 996) (by decide +kernel) (by decide) rfl ?_
  refine gv_iadd (pc' := 997) (by decide +kernel) rfl ?_
  refine lc_sld (pc' := 998) hX r1 (by decide +kernel) rfl ?_
  refine gv_aload_n (n := 3) (pc' := 999) (by decide +kernel) rfl rfl ?_
  refine gv_callS (k' := k + 1) (w' := false) (gv_mkS (by decide) md_L_mark (Or.inl ml_12_148) sd_L_mark) h1 (by decide +kernel) rfl (Nat.le_of_ble_eq_true rfl) (Nat.le_of_ble_eq_true rfl) (Nat.le_add_left 1 _) rfl (fun z => by cases z) (by decide) (pc' := 1002) rfl (fun n σ' z => by cases z.1) (fun v' σ' z => ?_)
  obtain ⟨z1, rfl⟩ := z
  cases z1
  refine gv_istore (n := 5) (pc' := 1004) (by decide +kernel) (by decide) rfl ?_
  refine gv_aload_n (n := 2) (pc' := 1005) (by decide +kernel) rfl rfl ?_
  refine gv_aload_n (n := 0) (pc' := 1006) (by decide +kernel) rfl rfl ?_
  refine gv_iload (n := 4) (pc' := 1008) (by decide +kernel) rfl rfl ?_
  refine gv_iconst (n := 1) (v := 1) (pc' := 1009) (by decide +kernel) (by decide) rfl ?_
  refine gv_iadd (pc' := 1010) (by decide +kernel) rfl ?_
  refine lc_sld (pc' := 1011) h2 r1 (by decide +kernel) rfl ?_
  refine gv_cvi (w' := false) (pc' := 1014) (h3) md_M_mark vd_M_mark (Or.inl ml_12_150) (by decide +kernel) (by decide) rfl rfl rfl (Nat.le_of_ble_eq_true rfl) (Nat.le_of_ble_eq_true rfl) (Nat.le_add_left 1 _) rfl (fun z => by cases z) (by decide) rfl ?_
  refine gv_istore (n := 6) (pc' := 1016) (by decide +kernel) (by decide) rfl ?_
  refine gv_aload_n (n := 2) (pc' := 1017) (by decide +kernel) rfl rfl ?_
  refine gv_cvi (w' := _) (pc' := 1020) (c_M_thrown _) md_M_thrown vd_M_thrown (Or.inl ml_12_85) (by decide +kernel) (by decide) rfl rfl rfl (Nat.le_of_ble_eq_true rfl) (Nat.le_of_ble_eq_true rfl) (Nat.le_add_left 1 _) rfl (fun z => ⟨rfl, z⟩) (by decide) rfl ?_
  refine gv_iload (n := 5) (pc' := 1022) (by decide +kernel) rfl rfl ?_
  refine gv_icmp_eq (off := 5) (tgt := 1027) (pc' := 1025) (by decide +kernel) (by decide) rfl (fun _ => ?_) (fun z => by first | exact absurd z h4 | exact absurd h4 z)
  refine gv_iload (n := 5) (pc' := 1029) (by decide +kernel) rfl rfl ?_
  refine gv_if_ne (off := 15) (tgt := 1044) (pc' := 1032) (by decide +kernel) (by decide) rfl (fun h1029 => ?_) (fun h1029 => ?_)
  · refine gv_goto (off := 147) (tgt := 1191) (by decide +kernel) (by decide) ?_
    refine gv_less (lc_forget (ls := [some (.ref 900), some (.ref 0), some (.ref 41), some (.ref 66), some (.int x)])) ?_
    exact he _ h6
  · refine gv_aload_n (n := 3) (pc' := 1033) (by decide +kernel) rfl rfl ?_
    refine gv_iconst (n := 0) (v := 0) (pc' := 1034) (by decide +kernel) (by decide) rfl ?_
    refine gj_lald (0) (pc' := 1035) (by decide +kernel) rfl lc_in0 rfl rfl ?_
    refine gv_iload (n := 6) (pc' := 1037) (by decide +kernel) rfl rfl ?_
    refine gv_i2l (pc' := 1038) (by decide +kernel) rfl ?_
    refine gv_lcmp (pc' := 1039) (by decide +kernel) rfl ?_
    refine gv_if_eq (off := 5) (tgt := 1044) (pc' := 1042) (by decide +kernel) (by decide) rfl (fun _ => ?_) (fun z => by first | exact absurd z (lc_cmp0 (h5 h1029)) | exact absurd (lc_cmp0 (h5 h1029)) z)
    refine gv_goto (off := 147) (tgt := 1191) (by decide +kernel) (by decide) ?_
    refine gv_less (lc_forget (ls := [some (.ref 900), some (.ref 0), some (.ref 41), some (.ref 66), some (.int x)])) ?_
    exact he _ h6
set_option maxRecDepth 20000 in
theorem lb_cut {X : List Int32} {x : Int32} {σ : gS} {k : Nat} {P : gS → Prop} {Q : gQ → gS → Prop} (hX : σ.2.2.2 = X) (h : lc_h m_L_cut m_M_cut [] X σ P) (he : ∀ σ2, P σ2 → gv_V m_L_law (k + 1) false 1191 (lc_lo x) [] σ2 Q) : gv_V m_L_law (k + 2) false 1047 (lc_lo x) [] σ Q := by
  obtain ⟨v, b9, σ1, σ2, h1, h2, h3, h4, h5, h6⟩ := h
  refine gv_aload_n (n := 1) (pc' := 1048) (by decide +kernel) rfl rfl ?_
  refine gv_aload_n (n := 3) (pc' := 1049) (by decide +kernel) rfl rfl ?_
  refine gv_callS (k' := k + 1) (w' := false) (gv_mkS (by decide) md_L_cut (Or.inl ml_12_151) sd_L_cut) h1 (by decide +kernel) rfl (Nat.le_of_ble_eq_true rfl) (Nat.le_of_ble_eq_true rfl) (Nat.le_add_left 1 _) rfl (fun z => by cases z) (by decide) (pc' := 1052) rfl (fun n σ' z => by cases z.1) (fun v' σ' z => ?_)
  obtain ⟨z1, rfl⟩ := z
  cases z1
  refine gv_istore (n := 5) (pc' := 1054) (by decide +kernel) (by decide) rfl ?_
  refine gv_aload_n (n := 2) (pc' := 1055) (by decide +kernel) rfl rfl ?_
  refine gv_cvi (w' := false) (pc' := 1058) (h3) md_M_cut vd_M_cut (Or.inl ml_12_153) (by decide +kernel) (by decide) rfl rfl rfl (Nat.le_of_ble_eq_true rfl) (Nat.le_of_ble_eq_true rfl) (Nat.le_add_left 1 _) rfl (fun z => by cases z) (by decide) rfl ?_
  refine gv_istore (n := 6) (pc' := 1060) (by decide +kernel) (by decide) rfl ?_
  refine gv_aload_n (n := 2) (pc' := 1061) (by decide +kernel) rfl rfl ?_
  refine gv_cvi (w' := _) (pc' := 1064) (c_M_thrown _) md_M_thrown vd_M_thrown (Or.inl ml_12_85) (by decide +kernel) (by decide) rfl rfl rfl (Nat.le_of_ble_eq_true rfl) (Nat.le_of_ble_eq_true rfl) (Nat.le_add_left 1 _) rfl (fun z => ⟨rfl, z⟩) (by decide) rfl ?_
  refine gv_iload (n := 5) (pc' := 1066) (by decide +kernel) rfl rfl ?_
  refine gv_icmp_eq (off := 5) (tgt := 1071) (pc' := 1069) (by decide +kernel) (by decide) rfl (fun _ => ?_) (fun z => by first | exact absurd z h4 | exact absurd h4 z)
  refine gv_iload (n := 5) (pc' := 1073) (by decide +kernel) rfl rfl ?_
  refine gv_if_ne (off := 15) (tgt := 1088) (pc' := 1076) (by decide +kernel) (by decide) rfl (fun h1073 => ?_) (fun h1073 => ?_)
  · refine gv_goto (off := 103) (tgt := 1191) (by decide +kernel) (by decide) ?_
    refine gv_less (lc_forget (ls := [some (.ref 900), some (.ref 0), some (.ref 41), some (.ref 66), some (.int x)])) ?_
    exact he _ h6
  · refine gv_aload_n (n := 3) (pc' := 1077) (by decide +kernel) rfl rfl ?_
    refine gv_iconst (n := 0) (v := 0) (pc' := 1078) (by decide +kernel) (by decide) rfl ?_
    refine gj_lald (0) (pc' := 1079) (by decide +kernel) rfl lc_in0 rfl rfl ?_
    refine gv_iload (n := 6) (pc' := 1081) (by decide +kernel) rfl rfl ?_
    refine gv_i2l (pc' := 1082) (by decide +kernel) rfl ?_
    refine gv_lcmp (pc' := 1083) (by decide +kernel) rfl ?_
    refine gv_if_eq (off := 5) (tgt := 1088) (pc' := 1086) (by decide +kernel) (by decide) rfl (fun _ => ?_) (fun z => by first | exact absurd z (lc_cmp0 (h5 h1073)) | exact absurd (lc_cmp0 (h5 h1073)) z)
    refine gv_goto (off := 103) (tgt := 1191) (by decide +kernel) (by decide) ?_
    refine gv_less (lc_forget (ls := [some (.ref 900), some (.ref 0), some (.ref 41), some (.ref 66), some (.int x)])) ?_
    exact he _ h6
set_option maxRecDepth 20000 in
theorem lb_rewrite {X : List Int32} {x : Int32} {σ : gS} {k : Nat} {P : gS → Prop} {Q : gQ → gS → Prop} (hX : σ.2.2.2 = X) (h : lc_h m_L_rewrite m_M_rewrite [] X σ P) (he : ∀ σ2, P σ2 → gv_V m_L_law (k + 1) false 1191 (lc_lo x) [] σ2 Q) : gv_V m_L_law (k + 2) false 1091 (lc_lo x) [] σ Q := by
  obtain ⟨v, b9, σ1, σ2, h1, h2, h3, h4, h5, h6⟩ := h
  refine gv_aload_n (n := 1) (pc' := 1092) (by decide +kernel) rfl rfl ?_
  refine gv_aload_n (n := 3) (pc' := 1093) (by decide +kernel) rfl rfl ?_
  refine gv_callS (k' := k + 1) (w' := false) (gv_mkS (by decide) md_L_rewrite (Or.inl ml_12_154) sd_L_rewrite) h1 (by decide +kernel) rfl (Nat.le_of_ble_eq_true rfl) (Nat.le_of_ble_eq_true rfl) (Nat.le_add_left 1 _) rfl (fun z => by cases z) (by decide) (pc' := 1096) rfl (fun n σ' z => by cases z.1) (fun v' σ' z => ?_)
  obtain ⟨z1, rfl⟩ := z
  cases z1
  refine gv_istore (n := 5) (pc' := 1098) (by decide +kernel) (by decide) rfl ?_
  refine gv_aload_n (n := 2) (pc' := 1099) (by decide +kernel) rfl rfl ?_
  refine gv_cvi (w' := false) (pc' := 1102) (h3) md_M_rewrite vd_M_rewrite (Or.inl ml_12_156) (by decide +kernel) (by decide) rfl rfl rfl (Nat.le_of_ble_eq_true rfl) (Nat.le_of_ble_eq_true rfl) (Nat.le_add_left 1 _) rfl (fun z => by cases z) (by decide) rfl ?_
  refine gv_istore (n := 6) (pc' := 1104) (by decide +kernel) (by decide) rfl ?_
  refine gv_aload_n (n := 2) (pc' := 1105) (by decide +kernel) rfl rfl ?_
  refine gv_cvi (w' := _) (pc' := 1108) (c_M_thrown _) md_M_thrown vd_M_thrown (Or.inl ml_12_85) (by decide +kernel) (by decide) rfl rfl rfl (Nat.le_of_ble_eq_true rfl) (Nat.le_of_ble_eq_true rfl) (Nat.le_add_left 1 _) rfl (fun z => ⟨rfl, z⟩) (by decide) rfl ?_
  refine gv_iload (n := 5) (pc' := 1110) (by decide +kernel) rfl rfl ?_
  refine gv_icmp_eq (off := 5) (tgt := 1115) (pc' := 1113) (by decide +kernel) (by decide) rfl (fun _ => ?_) (fun z => by first | exact absurd z h4 | exact absurd h4 z)
  refine gv_iload (n := 5) (pc' := 1117) (by decide +kernel) rfl rfl ?_
  refine gv_if_ne (off := 15) (tgt := 1132) (pc' := 1120) (by decide +kernel) (by decide) rfl (fun h1117 => ?_) (fun h1117 => ?_)
  · refine gv_goto (off := 59) (tgt := 1191) (by decide +kernel) (by decide) ?_
    refine gv_less (lc_forget (ls := [some (.ref 900), some (.ref 0), some (.ref 41), some (.ref 66), some (.int x)])) ?_
    exact he _ h6
  · refine gv_aload_n (n := 3) (pc' := 1121) (by decide +kernel) rfl rfl ?_
    refine gv_iconst (n := 0) (v := 0) (pc' := 1122) (by decide +kernel) (by decide) rfl ?_
    refine gj_lald (0) (pc' := 1123) (by decide +kernel) rfl lc_in0 rfl rfl ?_
    refine gv_iload (n := 6) (pc' := 1125) (by decide +kernel) rfl rfl ?_
    refine gv_i2l (pc' := 1126) (by decide +kernel) rfl ?_
    refine gv_lcmp (pc' := 1127) (by decide +kernel) rfl ?_
    refine gv_if_eq (off := 5) (tgt := 1132) (pc' := 1130) (by decide +kernel) (by decide) rfl (fun _ => ?_) (fun z => by first | exact absurd z (lc_cmp0 (h5 h1117)) | exact absurd (lc_cmp0 (h5 h1117)) z)
    refine gv_goto (off := 59) (tgt := 1191) (by decide +kernel) (by decide) ?_
    refine gv_less (lc_forget (ls := [some (.ref 900), some (.ref 0), some (.ref 41), some (.ref 66), some (.int x)])) ?_
    exact he _ h6
set_option maxRecDepth 20000 in
theorem lb_home {X : List Int32} {x a : Int32} {σ : gS} {k : Nat} {P : gS → Prop} {Q : gQ → gS → Prop} (hX : σ.2.2.2 = X) (r1 : lc_rd X (x + 1) a) (h : lc_h m_L_home m_M_home [.int a] X σ P) (he : ∀ σ2, P σ2 → gv_V m_L_law (k + 1) false 1191 (lc_lo x) [] σ2 Q) : gv_V m_L_law (k + 2) false 1135 (lc_lo x) [] σ Q := by
  obtain ⟨v, b9, σ1, σ2, h1, h2, h3, h4, h5, h6⟩ := h
  refine gv_aload_n (n := 1) (pc' := 1136) (by decide +kernel) rfl rfl ?_
  refine gv_aload_n (n := 0) (pc' := 1137) (by decide +kernel) rfl rfl ?_
  refine gv_iload (n := 4) (pc' := 1139) (by decide +kernel) rfl rfl ?_
  refine gv_iconst (n := 1) (v := 1) (pc' := 1140) (by decide +kernel) (by decide) rfl ?_
  refine gv_iadd (pc' := 1141) (by decide +kernel) rfl ?_
  refine lc_sld (pc' := 1142) hX r1 (by decide +kernel) rfl ?_
  refine gv_aload_n (n := 3) (pc' := 1143) (by decide +kernel) rfl rfl ?_
  refine gv_callS (k' := k + 1) (w' := false) (gv_mkS (by decide) md_L_home (Or.inl ml_12_157) sd_L_home) h1 (by decide +kernel) rfl (Nat.le_of_ble_eq_true rfl) (Nat.le_of_ble_eq_true rfl) (Nat.le_add_left 1 _) rfl (fun z => by cases z) (by decide) (pc' := 1146) rfl (fun n σ' z => by cases z.1) (fun v' σ' z => ?_)
  obtain ⟨z1, rfl⟩ := z
  cases z1
  refine gv_istore (n := 5) (pc' := 1148) (by decide +kernel) (by decide) rfl ?_
  refine gv_aload_n (n := 2) (pc' := 1149) (by decide +kernel) rfl rfl ?_
  refine gv_aload_n (n := 0) (pc' := 1150) (by decide +kernel) rfl rfl ?_
  refine gv_iload (n := 4) (pc' := 1152) (by decide +kernel) rfl rfl ?_
  refine gv_iconst (n := 1) (v := 1) (pc' := 1153) (by decide +kernel) (by decide) rfl ?_
  refine gv_iadd (pc' := 1154) (by decide +kernel) rfl ?_
  refine lc_sld (pc' := 1155) h2 r1 (by decide +kernel) rfl ?_
  refine gv_cvi (w' := false) (pc' := 1158) (h3) md_M_home vd_M_home (Or.inl ml_12_159) (by decide +kernel) (by decide) rfl rfl rfl (Nat.le_of_ble_eq_true rfl) (Nat.le_of_ble_eq_true rfl) (Nat.le_add_left 1 _) rfl (fun z => by cases z) (by decide) rfl ?_
  refine gv_istore (n := 6) (pc' := 1160) (by decide +kernel) (by decide) rfl ?_
  refine gv_aload_n (n := 2) (pc' := 1161) (by decide +kernel) rfl rfl ?_
  refine gv_cvi (w' := _) (pc' := 1164) (c_M_thrown _) md_M_thrown vd_M_thrown (Or.inl ml_12_85) (by decide +kernel) (by decide) rfl rfl rfl (Nat.le_of_ble_eq_true rfl) (Nat.le_of_ble_eq_true rfl) (Nat.le_add_left 1 _) rfl (fun z => ⟨rfl, z⟩) (by decide) rfl ?_
  refine gv_iload (n := 5) (pc' := 1166) (by decide +kernel) rfl rfl ?_
  refine gv_icmp_eq (off := 5) (tgt := 1171) (pc' := 1169) (by decide +kernel) (by decide) rfl (fun _ => ?_) (fun z => by first | exact absurd z h4 | exact absurd h4 z)
  refine gv_iload (n := 5) (pc' := 1173) (by decide +kernel) rfl rfl ?_
  refine gv_if_ne (off := 15) (tgt := 1188) (pc' := 1176) (by decide +kernel) (by decide) rfl (fun h1173 => ?_) (fun h1173 => ?_)
  · refine gv_goto (off := 3) (tgt := 1191) (by decide +kernel) (by decide) ?_
    refine gv_less (lc_forget (ls := [some (.ref 900), some (.ref 0), some (.ref 41), some (.ref 66), some (.int x)])) ?_
    exact he _ h6
  · refine gv_aload_n (n := 3) (pc' := 1177) (by decide +kernel) rfl rfl ?_
    refine gv_iconst (n := 0) (v := 0) (pc' := 1178) (by decide +kernel) (by decide) rfl ?_
    refine gj_lald (0) (pc' := 1179) (by decide +kernel) rfl lc_in0 rfl rfl ?_
    refine gv_iload (n := 6) (pc' := 1181) (by decide +kernel) rfl rfl ?_
    refine gv_i2l (pc' := 1182) (by decide +kernel) rfl ?_
    refine gv_lcmp (pc' := 1183) (by decide +kernel) rfl ?_
    refine gv_if_eq (off := 5) (tgt := 1188) (pc' := 1186) (by decide +kernel) (by decide) rfl (fun _ => ?_) (fun z => by first | exact absurd z (lc_cmp0 (h5 h1173)) | exact absurd (lc_cmp0 (h5 h1173)) z)
    refine gv_goto (off := 3) (tgt := 1191) (by decide +kernel) (by decide) ?_
    refine gv_less (lc_forget (ls := [some (.ref 900), some (.ref 0), some (.ref 41), some (.ref 66), some (.int x)])) ?_
    exact he _ h6
