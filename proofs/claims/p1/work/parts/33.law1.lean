set_option maxRecDepth 20000 in
theorem lb_decoded {X : List Int32} {x a b : Int32} {σ : gS} {k : Nat} {P : gS → Prop} {Q : gQ → gS → Prop} (hX : σ.2.2.2 = X) (r1 : lc_rd X (x + 1) a) (r2 : lc_rd X (x + 2) b) (h : lc_h m_L_decoded m_M_decoded [.int a, .int b] X σ P) (he : ∀ σ2, P σ2 → gv_V m_L_law (k + 1) false 1191 (lc_lo x) [] σ2 Q) : gv_V m_L_law (k + 2) false 302 (lc_lo x) [] σ Q := by
  obtain ⟨v, b9, σ1, σ2, h1, h2, h3, h4, h5, h6⟩ := h
  refine gv_aload_n (n := 1) (pc' := 303) (by decide +kernel) rfl rfl ?_
  refine gv_aload_n (n := 0) (pc' := 304) (by decide +kernel) rfl rfl ?_
  refine gv_iload (n := 4) (pc' := 306) (by decide +kernel) rfl rfl ?_
  refine gv_iconst (n := 1) (v := 1) (pc' := 307) (by decide +kernel) (by decide) rfl ?_
  refine gv_iadd (pc' := 308) (by decide +kernel) rfl ?_
  refine lc_sld (pc' := 309) hX r1 (by decide +kernel) rfl ?_
  refine gv_aload_n (n := 0) (pc' := 310) (by decide +kernel) rfl rfl ?_
  refine gv_iload (n := 4) (pc' := 312) (by decide +kernel) rfl rfl ?_
  refine gv_iconst (n := 2) (v := 2) (pc' := 313) (by decide +kernel) (by decide) rfl ?_
  refine gv_iadd (pc' := 314) (by decide +kernel) rfl ?_
  refine lc_sld (pc' := 315) hX r2 (by decide +kernel) rfl ?_
  refine gv_aload_n (n := 3) (pc' := 316) (by decide +kernel) rfl rfl ?_
  refine gv_callS (k' := k + 1) (w' := false) (gv_mkS (by decide) md_L_decoded (Or.inl ml_12_105) sd_L_decoded) h1 (by decide +kernel) rfl (Nat.le_of_ble_eq_true rfl) (Nat.le_of_ble_eq_true rfl) (Nat.le_add_left 1 _) rfl (fun z => by cases z) (by decide) (pc' := 319) rfl (fun n σ' z => by cases z.1) (fun v' σ' z => ?_)
  obtain ⟨z1, rfl⟩ := z
  cases z1
  refine gv_istore (n := 5) (pc' := 321) (by decide +kernel) (by decide) rfl ?_
  refine gv_aload_n (n := 2) (pc' := 322) (by decide +kernel) rfl rfl ?_
  refine gv_aload_n (n := 0) (pc' := 323) (by decide +kernel) rfl rfl ?_
  refine gv_iload (n := 4) (pc' := 325) (by decide +kernel) rfl rfl ?_
  refine gv_iconst (n := 1) (v := 1) (pc' := 326) (by decide +kernel) (by decide) rfl ?_
  refine gv_iadd (pc' := 327) (by decide +kernel) rfl ?_
  refine lc_sld (pc' := 328) h2 r1 (by decide +kernel) rfl ?_
  refine gv_aload_n (n := 0) (pc' := 329) (by decide +kernel) rfl rfl ?_
  refine gv_iload (n := 4) (pc' := 331) (by decide +kernel) rfl rfl ?_
  refine gv_iconst (n := 2) (v := 2) (pc' := 332) (by decide +kernel) (by decide) rfl ?_
  refine gv_iadd (pc' := 333) (by decide +kernel) rfl ?_
  refine lc_sld (pc' := 334) h2 r2 (by decide +kernel) rfl ?_
  refine gv_cvi (w' := false) (pc' := 337) (h3) md_M_decoded vd_M_decoded (Or.inl ml_12_107) (by decide +kernel) (by decide) rfl rfl rfl (Nat.le_of_ble_eq_true rfl) (Nat.le_of_ble_eq_true rfl) (Nat.le_add_left 1 _) rfl (fun z => by cases z) (by decide) rfl ?_
  refine gv_istore (n := 6) (pc' := 339) (by decide +kernel) (by decide) rfl ?_
  refine gv_aload_n (n := 2) (pc' := 340) (by decide +kernel) rfl rfl ?_
  refine gv_cvi (w' := _) (pc' := 343) (c_M_thrown _) md_M_thrown vd_M_thrown (Or.inl ml_12_85) (by decide +kernel) (by decide) rfl rfl rfl (Nat.le_of_ble_eq_true rfl) (Nat.le_of_ble_eq_true rfl) (Nat.le_add_left 1 _) rfl (fun z => ⟨rfl, z⟩) (by decide) rfl ?_
  refine gv_iload (n := 5) (pc' := 345) (by decide +kernel) rfl rfl ?_
  refine gv_icmp_eq (off := 5) (tgt := 350) (pc' := 348) (by decide +kernel) (by decide) rfl (fun _ => ?_) (fun z => by first | exact absurd z h4 | exact absurd h4 z)
  refine gv_iload (n := 5) (pc' := 352) (by decide +kernel) rfl rfl ?_
  refine gv_if_ne (off := 15) (tgt := 367) (pc' := 355) (by decide +kernel) (by decide) rfl (fun h352 => ?_) (fun h352 => ?_)
  · refine gv_goto (off := 824) (tgt := 1191) (by decide +kernel) (by decide) ?_
    refine gv_less (lc_forget (ls := [some (.ref 900), some (.ref 0), some (.ref 41), some (.ref 66), some (.int x)])) ?_
    exact he _ h6
  · refine gv_aload_n (n := 3) (pc' := 356) (by decide +kernel) rfl rfl ?_
    refine gv_iconst (n := 0) (v := 0) (pc' := 357) (by decide +kernel) (by decide) rfl ?_
    refine gj_lald (0) (pc' := 358) (by decide +kernel) rfl lc_in0 rfl rfl ?_
    refine gv_iload (n := 6) (pc' := 360) (by decide +kernel) rfl rfl ?_
    refine gv_i2l (pc' := 361) (by decide +kernel) rfl ?_
    refine gv_lcmp (pc' := 362) (by decide +kernel) rfl ?_
    refine gv_if_eq (off := 5) (tgt := 367) (pc' := 365) (by decide +kernel) (by decide) rfl (fun _ => ?_) (fun z => by first | exact absurd z (lc_cmp0 (h5 h352)) | exact absurd (lc_cmp0 (h5 h352)) z)
    refine gv_goto (off := 824) (tgt := 1191) (by decide +kernel) (by decide) ?_
    refine gv_less (lc_forget (ls := [some (.ref 900), some (.ref 0), some (.ref 41), some (.ref 66), some (.int x)])) ?_
    exact he _ h6
set_option maxRecDepth 20000 in
theorem lb_set {X : List Int32} {x a b : Int32} {σ : gS} {k : Nat} {P : gS → Prop} {Q : gQ → gS → Prop} (hX : σ.2.2.2 = X) (r1 : lc_rd X (x + 1) a) (r2 : lc_rd X (x + 2) b) (h : lc_v m_L_set m_M_set [.int a, .int b] X σ P) (he : ∀ σ2, P σ2 → gv_V m_L_law (k + 1) false 1191 (lc_lo x) [] σ2 Q) : gv_V m_L_law (k + 2) false 370 (lc_lo x) [] σ Q := by
  obtain ⟨v, σ1, σ2, h1, h2, h3, h4, h6⟩ := h
  refine gv_aload_n (n := 1) (pc' := 371) (by decide +kernel) rfl rfl ?_
  refine gv_aload_n (n := 0) (pc' := 372) (by decide +kernel) rfl rfl ?_
  refine gv_iload (n := 4) (pc' := 374) (by decide +kernel) rfl rfl ?_
  refine gv_iconst (n := 1) (v := 1) (pc' := 375) (by decide +kernel) (by decide) rfl ?_
  refine gv_iadd (pc' := 376) (by decide +kernel) rfl ?_
  refine lc_sld (pc' := 377) hX r1 (by decide +kernel) rfl ?_
  refine gv_aload_n (n := 0) (pc' := 378) (by decide +kernel) rfl rfl ?_
  refine gv_iload (n := 4) (pc' := 380) (by decide +kernel) rfl rfl ?_
  refine gv_iconst (n := 2) (v := 2) (pc' := 381) (by decide +kernel) (by decide) rfl ?_
  refine gv_iadd (pc' := 382) (by decide +kernel) rfl ?_
  refine lc_sld (pc' := 383) hX r2 (by decide +kernel) rfl ?_
  refine gv_callS (k' := k + 1) (w' := false) (gv_mkS (by decide) md_L_set (Or.inl ml_12_108) sd_L_set) h1 (by decide +kernel) rfl (Nat.le_of_ble_eq_true rfl) (Nat.le_of_ble_eq_true rfl) (Nat.le_add_left 1 _) rfl (fun z => by cases z) (by decide) (pc' := 386) rfl (fun n σ' z => by cases z.1) (fun v' σ' z => ?_)
  obtain ⟨z1, rfl⟩ := z
  cases z1
  refine gv_istore (n := 5) (pc' := 388) (by decide +kernel) (by decide) rfl ?_
  refine gv_aload_n (n := 2) (pc' := 389) (by decide +kernel) rfl rfl ?_
  refine gv_aload_n (n := 0) (pc' := 390) (by decide +kernel) rfl rfl ?_
  refine gv_iload (n := 4) (pc' := 392) (by decide +kernel) rfl rfl ?_
  refine gv_iconst (n := 1) (v := 1) (pc' := 393) (by decide +kernel) (by decide) rfl ?_
  refine gv_iadd (pc' := 394) (by decide +kernel) rfl ?_
  refine lc_sld (pc' := 395) h2 r1 (by decide +kernel) rfl ?_
  refine gv_aload_n (n := 0) (pc' := 396) (by decide +kernel) rfl rfl ?_
  refine gv_iload (n := 4) (pc' := 398) (by decide +kernel) rfl rfl ?_
  refine gv_iconst (n := 2) (v := 2) (pc' := 399) (by decide +kernel) (by decide) rfl ?_
  refine gv_iadd (pc' := 400) (by decide +kernel) rfl ?_
  refine lc_sld (pc' := 401) h2 r2 (by decide +kernel) rfl ?_
  refine gv_cv0 (w' := false) (pc' := 404) (h3) md_M_set vd_M_set (Or.inl ml_12_111) (by decide +kernel) (by decide) rfl rfl rfl (Nat.le_of_ble_eq_true rfl) (Nat.le_of_ble_eq_true rfl) (Nat.le_add_left 1 _) rfl (fun z => by cases z) (by decide) rfl ?_
  refine gv_aload_n (n := 2) (pc' := 405) (by decide +kernel) rfl rfl ?_
  refine gv_cvi (w' := _) (pc' := 408) (c_M_thrown _) md_M_thrown vd_M_thrown (Or.inl ml_12_85) (by decide +kernel) (by decide) rfl rfl rfl (Nat.le_of_ble_eq_true rfl) (Nat.le_of_ble_eq_true rfl) (Nat.le_add_left 1 _) rfl (fun z => ⟨rfl, z⟩) (by decide) rfl ?_
  refine gv_iload (n := 5) (pc' := 410) (by decide +kernel) rfl rfl ?_
  refine gv_icmp_eq (off := 5) (tgt := 415) (pc' := 413) (by decide +kernel) (by decide) rfl (fun _ => ?_) (fun z => by first | exact absurd z h4 | exact absurd h4 z)
  refine gv_goto (off := 776) (tgt := 1191) (by decide +kernel) (by decide) ?_
  refine gv_less (lc_forget (ls := [some (.ref 900), some (.ref 0), some (.ref 41), some (.ref 66), some (.int x)])) ?_
  exact he _ h6
set_option maxRecDepth 20000 in
theorem lb_register {X : List Int32} {x a : Int32} {σ : gS} {k : Nat} {P : gS → Prop} {Q : gQ → gS → Prop} (hX : σ.2.2.2 = X) (r1 : lc_rd X (x + 1) a) (h : lc_h m_L_register m_M_register [.int a] X σ P) (he : ∀ σ2, P σ2 → gv_V m_L_law (k + 1) false 1191 (lc_lo x) [] σ2 Q) : gv_V m_L_law (k + 2) false 418 (lc_lo x) [] σ Q := by
  obtain ⟨v, b9, σ1, σ2, h1, h2, h3, h4, h5, h6⟩ := h
  refine gv_aload_n (n := 1) (pc' := 419) (by decide +kernel) rfl rfl ?_
  refine gv_aload_n (n := 0) (pc' := 420) (by decide +kernel) rfl rfl ?_
  refine gv_iload (n := 4) (pc' := 422) (by decide +kernel) rfl rfl ?_
  refine gv_iconst (n := 1) (v := 1) (pc' := 423) (by decide +kernel) (by decide) rfl ?_
  refine gv_iadd (pc' := 424) (by decide +kernel) rfl ?_
  refine lc_sld (pc' := 425) hX r1 (by decide +kernel) rfl ?_
  refine gv_aload_n (n := 3) (pc' := 426) (by decide +kernel) rfl rfl ?_
  refine gv_callS (k' := k + 1) (w' := false) (gv_mkS (by decide) md_L_register (Or.inl ml_12_112) sd_L_register) h1 (by decide +kernel) rfl (Nat.le_of_ble_eq_true rfl) (Nat.le_of_ble_eq_true rfl) (Nat.le_add_left 1 _) rfl (fun z => by cases z) (by decide) (pc' := 429) rfl (fun n σ' z => by cases z.1) (fun v' σ' z => ?_)
  obtain ⟨z1, rfl⟩ := z
  cases z1
  refine gv_istore (n := 5) (pc' := 431) (by decide +kernel) (by decide) rfl ?_
  refine gv_aload_n (n := 2) (pc' := 432) (by decide +kernel) rfl rfl ?_
  refine gv_aload_n (n := 0) (pc' := 433) (by decide +kernel) rfl rfl ?_
  refine gv_iload (n := 4) (pc' := 435) (by decide +kernel) rfl rfl ?_
  refine gv_iconst (n := 1) (v := 1) (pc' := 436) (by decide +kernel) (by decide) rfl ?_
  refine gv_iadd (pc' := 437) (by decide +kernel) rfl ?_
  refine lc_sld (pc' := 438) h2 r1 (by decide +kernel) rfl ?_
  refine gv_cvi (w' := false) (pc' := 441) (h3) md_M_register vd_M_register (Or.inl ml_12_115) (by decide +kernel) (by decide) rfl rfl rfl (Nat.le_of_ble_eq_true rfl) (Nat.le_of_ble_eq_true rfl) (Nat.le_add_left 1 _) rfl (fun z => by cases z) (by decide) rfl ?_
  refine gv_istore (n := 6) (pc' := 443) (by decide +kernel) (by decide) rfl ?_
  refine gv_aload_n (n := 2) (pc' := 444) (by decide +kernel) rfl rfl ?_
  refine gv_cvi (w' := _) (pc' := 447) (c_M_thrown _) md_M_thrown vd_M_thrown (Or.inl ml_12_85) (by decide +kernel) (by decide) rfl rfl rfl (Nat.le_of_ble_eq_true rfl) (Nat.le_of_ble_eq_true rfl) (Nat.le_add_left 1 _) rfl (fun z => ⟨rfl, z⟩) (by decide) rfl ?_
  refine gv_iload (n := 5) (pc' := 449) (by decide +kernel) rfl rfl ?_
  refine gv_icmp_eq (off := 5) (tgt := 454) (pc' := 452) (by decide +kernel) (by decide) rfl (fun _ => ?_) (fun z => by first | exact absurd z h4 | exact absurd h4 z)
  refine gv_iload (n := 5) (pc' := 456) (by decide +kernel) rfl rfl ?_
  refine gv_if_ne (off := 15) (tgt := 471) (pc' := 459) (by decide +kernel) (by decide) rfl (fun h456 => ?_) (fun h456 => ?_)
  · refine gv_goto (off := 720) (tgt := 1191) (by decide +kernel) (by decide) ?_
    refine gv_less (lc_forget (ls := [some (.ref 900), some (.ref 0), some (.ref 41), some (.ref 66), some (.int x)])) ?_
    exact he _ h6
  · refine gv_aload_n (n := 3) (pc' := 460) (by decide +kernel) rfl rfl ?_
    refine gv_iconst (n := 0) (v := 0) (pc' := 461) (by decide +kernel) (by decide) rfl ?_
    refine gj_lald (0) (pc' := 462) (by decide +kernel) rfl lc_in0 rfl rfl ?_
    refine gv_iload (n := 6) (pc' := 464) (by decide +kernel) rfl rfl ?_
    refine gv_i2l (pc' := 465) (by decide +kernel) rfl ?_
    refine gv_lcmp (pc' := 466) (by decide +kernel) rfl ?_
    refine gv_if_eq (off := 5) (tgt := 471) (pc' := 469) (by decide +kernel) (by decide) rfl (fun _ => ?_) (fun z => by first | exact absurd z (lc_cmp0 (h5 h456)) | exact absurd (lc_cmp0 (h5 h456)) z)
    refine gv_goto (off := 720) (tgt := 1191) (by decide +kernel) (by decide) ?_
    refine gv_less (lc_forget (ls := [some (.ref 900), some (.ref 0), some (.ref 41), some (.ref 66), some (.int x)])) ?_
    exact he _ h6
set_option maxRecDepth 20000 in
theorem lb_poke {X : List Int32} {x a b : Int32} {σ : gS} {k : Nat} {P : gS → Prop} {Q : gQ → gS → Prop} (hX : σ.2.2.2 = X) (r1 : lc_rd X (x + 1) a) (r2 : lc_rd X (x + 2) b) (h : lc_v m_L_poke m_M_poke [.int a, .int b] X σ P) (he : ∀ σ2, P σ2 → gv_V m_L_law (k + 1) false 1191 (lc_lo x) [] σ2 Q) : gv_V m_L_law (k + 2) false 474 (lc_lo x) [] σ Q := by
  obtain ⟨v, σ1, σ2, h1, h2, h3, h4, h6⟩ := h
  refine gv_aload_n (n := 1) (pc' := 475) (by decide +kernel) rfl rfl ?_
  refine gv_aload_n (n := 0) (pc' := 476) (by decide +kernel) rfl rfl ?_
  refine gv_iload (n := 4) (pc' := 478) (by decide +kernel) rfl rfl ?_
  refine gv_iconst (n := 1) (v := 1) (pc' := 479) (by decide +kernel) (by decide) rfl ?_
  refine gv_iadd (pc' := 480) (by decide +kernel) rfl ?_
  refine lc_sld (pc' := 481) hX r1 (by decide +kernel) rfl ?_
  refine gv_aload_n (n := 0) (pc' := 482) (by decide +kernel) rfl rfl ?_
  refine gv_iload (n := 4) (pc' := 484) (by decide +kernel) rfl rfl ?_
  refine gv_iconst (n := 2) (v := 2) (pc' := 485) (by decide +kernel) (by decide) rfl ?_
  refine gv_iadd (pc' := 486) (by decide +kernel) rfl ?_
  refine lc_sld (pc' := 487) hX r2 (by decide +kernel) rfl ?_
  refine gv_callS (k' := k + 1) (w' := false) (gv_mkS (by decide) md_L_poke (Or.inl ml_12_116) sd_L_poke) h1 (by decide +kernel) rfl (Nat.le_of_ble_eq_true rfl) (Nat.le_of_ble_eq_true rfl) (Nat.le_add_left 1 _) rfl (fun z => by cases z) (by decide) (pc' := 490) rfl (fun n σ' z => by cases z.1) (fun v' σ' z => ?_)
  obtain ⟨z1, rfl⟩ := z
  cases z1
  refine gv_istore (n := 5) (pc' := 492) (by decide +kernel) (by decide) rfl ?_
  refine gv_aload_n (n := 2) (pc' := 493) (by decide +kernel) rfl rfl ?_
  refine gv_aload_n (n := 0) (pc' := 494) (by decide +kernel) rfl rfl ?_
  refine gv_iload (n := 4) (pc' := 496) (by decide +kernel) rfl rfl ?_
  refine gv_iconst (n := 1) (v := 1) (pc' := 497) (by decide +kernel) (by decide) rfl ?_
  refine gv_iadd (pc' := 498) (by decide +kernel) rfl ?_
  refine lc_sld (pc' := 499) h2 r1 (by decide +kernel) rfl ?_
  refine gv_aload_n (n := 0) (pc' := 500) (by decide +kernel) rfl rfl ?_
  refine gv_iload (n := 4) (pc' := 502) (by decide +kernel) rfl rfl ?_
  refine gv_iconst (n := 2) (v := 2) (pc' := 503) (by decide +kernel) (by decide) rfl ?_
  refine gv_iadd (pc' := 504) (by decide +kernel) rfl ?_
  refine lc_sld (pc' := 505) h2 r2 (by decide +kernel) rfl ?_
  refine gv_cv0 (w' := false) (pc' := 508) (h3) md_M_poke vd_M_poke (Or.inl ml_12_118) (by decide +kernel) (by decide) rfl rfl rfl (Nat.le_of_ble_eq_true rfl) (Nat.le_of_ble_eq_true rfl) (Nat.le_add_left 1 _) rfl (fun z => by cases z) (by decide) rfl ?_
  refine gv_aload_n (n := 2) (pc' := 509) (by decide +kernel) rfl rfl ?_
  refine gv_cvi (w' := _) (pc' := 512) (c_M_thrown _) md_M_thrown vd_M_thrown (Or.inl ml_12_85) (by decide +kernel) (by decide) rfl rfl rfl (Nat.le_of_ble_eq_true rfl) (Nat.le_of_ble_eq_true rfl) (Nat.le_add_left 1 _) rfl (fun z => ⟨rfl, z⟩) (by decide) rfl ?_
  refine gv_iload (n := 5) (pc' := 514) (by decide +kernel) rfl rfl ?_
  refine gv_icmp_eq (off := 5) (tgt := 519) (pc' := 517) (by decide +kernel) (by decide) rfl (fun _ => ?_) (fun z => by first | exact absurd z h4 | exact absurd h4 z)
  refine gv_goto (off := 672) (tgt := 1191) (by decide +kernel) (by decide) ?_
  refine gv_less (lc_forget (ls := [some (.ref 900), some (.ref 0), some (.ref 41), some (.ref 66), some (.int x)])) ?_
  exact he _ h6
set_option maxRecDepth 20000 in
theorem lb_peek {X : List Int32} {x a : Int32} {σ : gS} {k : Nat} {P : gS → Prop} {Q : gQ → gS → Prop} (hX : σ.2.2.2 = X) (r1 : lc_rd X (x + 1) a) (h : lc_h m_L_peek m_M_peek [.int a] X σ P) (he : ∀ σ2, P σ2 → gv_V m_L_law (k + 1) false 1191 (lc_lo x) [] σ2 Q) : gv_V m_L_law (k + 2) false 522 (lc_lo x) [] σ Q := by
  obtain ⟨v, b9, σ1, σ2, h1, h2, h3, h4, h5, h6⟩ := h
  refine gv_aload_n (n := 1) (pc' := 523) (by decide +kernel) rfl rfl ?_
  refine gv_aload_n (n := 0) (pc' := 524) (by decide +kernel) rfl rfl ?_
  refine gv_iload (n := 4) (pc' := 526) (by decide +kernel) rfl rfl ?_
  refine gv_iconst (n := 1) (v := 1) (pc' := 527) (by decide +kernel) (by decide) rfl ?_
  refine gv_iadd (pc' := 528) (by decide +kernel) rfl ?_
  refine lc_sld (pc' := 529) hX r1 (by decide +kernel) rfl ?_
  refine gv_aload_n (n := 3) (pc' := 530) (by decide +kernel) rfl rfl ?_
  refine gv_callS (k' := k + 1) (w' := false) (gv_mkS (by decide) md_L_peek (Or.inl ml_12_119) sd_L_peek) h1 (by decide +kernel) rfl (Nat.le_of_ble_eq_true rfl) (Nat.le_of_ble_eq_true rfl) (Nat.le_add_left 1 _) rfl (fun z => by cases z) (by decide) (pc' := 533) rfl (fun n σ' z => by cases z.1) (fun v' σ' z => ?_)
  obtain ⟨z1, rfl⟩ := z
  cases z1
  refine gv_istore (n := 5) (pc' := 535) (by decide +kernel) (by decide) rfl ?_
  refine gv_aload_n (n := 2) (pc' := 536) (by decide +kernel) rfl rfl ?_
  refine gv_aload_n (n := 0) (pc' := 537) (by decide +kernel) rfl rfl ?_
  refine gv_iload (n := 4) (pc' := 539) (by decide +kernel) rfl rfl ?_
  refine gv_iconst (n := 1) (v := 1) (pc' := 540) (by decide +kernel) (by decide) rfl ?_
  refine gv_iadd (pc' := 541) (by decide +kernel) rfl ?_
  refine lc_sld (pc' := 542) h2 r1 (by decide +kernel) rfl ?_
  refine gv_cvi (w' := false) (pc' := 545) (h3) md_M_peek vd_M_peek (Or.inl ml_12_121) (by decide +kernel) (by decide) rfl rfl rfl (Nat.le_of_ble_eq_true rfl) (Nat.le_of_ble_eq_true rfl) (Nat.le_add_left 1 _) rfl (fun z => by cases z) (by decide) rfl ?_
  refine gv_istore (n := 6) (pc' := 547) (by decide +kernel) (by decide) rfl ?_
  refine gv_aload_n (n := 2) (pc' := 548) (by decide +kernel) rfl rfl ?_
  refine gv_cvi (w' := _) (pc' := 551) (c_M_thrown _) md_M_thrown vd_M_thrown (Or.inl ml_12_85) (by decide +kernel) (by decide) rfl rfl rfl (Nat.le_of_ble_eq_true rfl) (Nat.le_of_ble_eq_true rfl) (Nat.le_add_left 1 _) rfl (fun z => ⟨rfl, z⟩) (by decide) rfl ?_
  refine gv_iload (n := 5) (pc' := 553) (by decide +kernel) rfl rfl ?_
  refine gv_icmp_eq (off := 5) (tgt := 558) (pc' := 556) (by decide +kernel) (by decide) rfl (fun _ => ?_) (fun z => by first | exact absurd z h4 | exact absurd h4 z)
  refine gv_iload (n := 5) (pc' := 560) (by decide +kernel) rfl rfl ?_
  refine gv_if_ne (off := 15) (tgt := 575) (pc' := 563) (by decide +kernel) (by decide) rfl (fun h560 => ?_) (fun h560 => ?_)
  · refine gv_goto (off := 616) (tgt := 1191) (by decide +kernel) (by decide) ?_
    refine gv_less (lc_forget (ls := [some (.ref 900), some (.ref 0), some (.ref 41), some (.ref 66), some (.int x)])) ?_
    exact he _ h6
  · refine gv_aload_n (n := 3) (pc' := 564) (by decide +kernel) rfl rfl ?_
    refine gv_iconst (n := 0) (v := 0) (pc' := 565) (by decide +kernel) (by decide) rfl ?_
    refine gj_lald (0) (pc' := 566) (by decide +kernel) rfl lc_in0 rfl rfl ?_
    refine gv_iload (n := 6) (pc' := 568) (by decide +kernel) rfl rfl ?_
    refine gv_i2l (pc' := 569) (by decide +kernel) rfl ?_
    refine gv_lcmp (pc' := 570) (by decide +kernel) rfl ?_
    refine gv_if_eq (off := 5) (tgt := 575) (pc' := 573) (by decide +kernel) (by decide) rfl (fun _ => ?_) (fun z => by first | exact absurd z (lc_cmp0 (h5 h560)) | exact absurd (lc_cmp0 (h5 h560)) z)
    refine gv_goto (off := 616) (tgt := 1191) (by decide +kernel) (by decide) ?_
    refine gv_less (lc_forget (ls := [some (.ref 900), some (.ref 0), some (.ref 41), some (.ref 66), some (.int x)])) ?_
    exact he _ h6
set_option maxRecDepth 20000 in
theorem lb_run {X : List Int32} {x a : Int32} {σ : gS} {k : Nat} {P : gS → Prop} {Q : gQ → gS → Prop} (hX : σ.2.2.2 = X) (r1 : lc_rd X (x + 1) a) (h : lc_h m_L_run m_M_run [.int a] X σ P) (he : ∀ σ2, P σ2 → gv_V m_L_law (k + 1) false 1191 (lc_lo x) [] σ2 Q) : gv_V m_L_law (k + 2) false 578 (lc_lo x) [] σ Q := by
  obtain ⟨v, b9, σ1, σ2, h1, h2, h3, h4, h5, h6⟩ := h
  refine gv_aload_n (n := 1) (pc' := 579) (by decide +kernel) rfl rfl ?_
  refine gv_aload_n (n := 0) (pc' := 580) (by decide +kernel) rfl rfl ?_
  refine gv_iload (n := 4) (pc' := 582) (by decide +kernel) rfl rfl ?_
  refine gv_iconst (n := 1) (v := 1) (pc' := 583) (by decide +kernel) (by decide) rfl ?_
  refine gv_iadd (pc' := 584) (by decide +kernel) rfl ?_
  refine lc_sld (pc' := 585) hX r1 (by decide +kernel) rfl ?_
  refine gv_aload_n (n := 3) (pc' := 586) (by decide +kernel) rfl rfl ?_
  refine gv_callS (k' := k + 1) (w' := false) (gv_mkS (by decide) md_L_run (Or.inl ml_12_122) sd_L_run) h1 (by decide +kernel) rfl (Nat.le_of_ble_eq_true rfl) (Nat.le_of_ble_eq_true rfl) (Nat.le_add_left 1 _) rfl (fun z => by cases z) (by decide) (pc' := 589) rfl (fun n σ' z => by cases z.1) (fun v' σ' z => ?_)
  obtain ⟨z1, rfl⟩ := z
  cases z1
  refine gv_istore (n := 5) (pc' := 591) (by decide +kernel) (by decide) rfl ?_
  refine gv_aload_n (n := 2) (pc' := 592) (by decide +kernel) rfl rfl ?_
  refine gv_aload_n (n := 0) (pc' := 593) (by decide +kernel) rfl rfl ?_
  refine gv_iload (n := 4) (pc' := 595) (by decide +kernel) rfl rfl ?_
  refine gv_iconst (n := 1) (v := 1) (pc' := 596) (by decide +kernel) (by decide) rfl ?_
  refine gv_iadd (pc' := 597) (by decide +kernel) rfl ?_
  refine lc_sld (pc' := 598) h2 r1 (by decide +kernel) rfl ?_
  refine gv_cvi (w' := false) (pc' := 601) (h3) md_M_run vd_M_run (Or.inl ml_12_124) (by decide +kernel) (by decide) rfl rfl rfl (Nat.le_of_ble_eq_true rfl) (Nat.le_of_ble_eq_true rfl) (Nat.le_add_left 1 _) rfl (fun z => by cases z) (by decide) rfl ?_
  refine gv_istore (n := 6) (pc' := 603) (by decide +kernel) (by decide) rfl ?_
  refine gv_aload_n (n := 2) (pc' := 604) (by decide +kernel) rfl rfl ?_
  refine gv_cvi (w' := _) (pc' := 607) (c_M_thrown _) md_M_thrown vd_M_thrown (Or.inl ml_12_85) (by decide +kernel) (by decide) rfl rfl rfl (Nat.le_of_ble_eq_true rfl) (Nat.le_of_ble_eq_true rfl) (Nat.le_add_left 1 _) rfl (fun z => ⟨rfl, z⟩) (by decide) rfl ?_
  refine gv_iload (n := 5) (pc' := 609) (by decide +kernel) rfl rfl ?_
  refine gv_icmp_eq (off := 5) (tgt := 614) (pc' := 612) (by decide +kernel) (by decide) rfl (fun _ => ?_) (fun z => by first | exact absurd z h4 | exact absurd h4 z)
  refine gv_iload (n := 5) (pc' := 616) (by decide +kernel) rfl rfl ?_
  refine gv_if_ne (off := 15) (tgt := 631) (pc' := 619) (by decide +kernel) (by decide) rfl (fun h616 => ?_) (fun h616 => ?_)
  · refine gv_goto (off := 560) (tgt := 1191) (by decide +kernel) (by decide) ?_
    refine gv_less (lc_forget (ls := [some (.ref 900), some (.ref 0), some (.ref 41), some (.ref 66), some (.int x)])) ?_
    exact he _ h6
  · refine gv_aload_n (n := 3) (pc' := 620) (by decide +kernel) rfl rfl ?_
    refine gv_iconst (n := 0) (v := 0) (pc' := 621) (by decide +kernel) (by decide) rfl ?_
    refine gj_lald (0) (pc' := 622) (by decide +kernel) rfl lc_in0 rfl rfl ?_
    refine gv_iload (n := 6) (pc' := 624) (by decide +kernel) rfl rfl ?_
    refine gv_i2l (pc' := 625) (by decide +kernel) rfl ?_
    refine gv_lcmp (pc' := 626) (by decide +kernel) rfl ?_
    refine gv_if_eq (off := 5) (tgt := 631) (pc' := 629) (by decide +kernel) (by decide) rfl (fun _ => ?_) (fun z => by first | exact absurd z (lc_cmp0 (h5 h616)) | exact absurd (lc_cmp0 (h5 h616)) z)
    refine gv_goto (off := 560) (tgt := 1191) (by decide +kernel) (by decide) ?_
    refine gv_less (lc_forget (ls := [some (.ref 900), some (.ref 0), some (.ref 41), some (.ref 66), some (.int x)])) ?_
    exact he _ h6
