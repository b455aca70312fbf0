theorem lc_in0 : vp_in 0 1 := by unfold vp_in; decide
theorem gv_keep {μ : gM} {k k' pc : Nat} {w : Bool} {ls : List (Option Value)} {st : List Value} {σ : gS} {Q : gQ → gS → Prop} (hk : k ≤ k') (h : gv_V μ k w pc ls st σ Q) : gv_V μ k' w pc ls st σ Q := by
  intro p l e R s m args below meth c D cA ad Z hC hE H locs cells slots sl hw0 hc hs hX hP hS hl
  exact h p l e R s m args below meth c D cA ad Z hC hE H locs cells slots sl hw0 (by omega) (by omega) hX hP hS hl
set_option maxRecDepth 20000 in
theorem hr_again (i j : Int32) (r : Int32) {σ σ1 : gS} (h : gv_K m_G_again [.ref 0, .int i, .int j] σ (gv_is (.inl (some (.int r))) σ1)) : gv_K m_L_again [.ref 0, .int i, .int j, .ref 66] σ (gv_is (.inl (some (.int 0))) (gs_L σ1 66 0 r.toInt64)) := by
  refine gv_aload_n (n := 3) (pc' := 1) (by decide +kernel) rfl rfl ?_
  refine gv_iconst (n := 0) (v := 0) (pc' := 2) (by decide +kernel) (by decide) rfl ?_
  refine gv_aload_n (n := 0) (pc' := 3) (by decide +kernel) rfl rfl ?_
  refine gv_iload_n (n := 1) (pc' := 4) (by decide +kernel) rfl rfl ?_
  refine gv_iload_n (n := 2) (pc' := 5) (by decide +kernel) rfl rfl ?_
  refine gv_callC (k' := 1) (w' := false) (gv_mkV (by decide) md_G_again (Or.inl ml_12_7) vd_G_again) h (by decide +kernel) rfl rfl rfl (Nat.le_of_ble_eq_true rfl) (Nat.le_of_ble_eq_true rfl) (by decide) rfl (fun z => by cases z) rfl rfl (by decide) (pc' := 8) rfl (fun n σ' z => by cases z.1) (fun v σ' z => ?_)
  obtain ⟨z1, rfl⟩ := z
  cases z1
  refine gv_i2l (pc' := 9) (by decide +kernel) rfl ?_
  refine gj_last (0) (pc' := 10) (by decide +kernel) rfl lc_in0 rfl rfl ?_
  refine gv_goto (off := 7) (tgt := 17) (by decide +kernel) (by decide) ?_
  refine gv_iconst (n := 0) (v := 0) (pc' := 18) (by decide +kernel) (by decide) rfl ?_
  exact gv_iret .int (by decide +kernel) rfl rfl (by decide) (by decide) (gv_isr _ _)
theorem hc_again_3 : gv_ct m_L_again 5 3 13 1 := ⟨[], 0, 10, 13, [], rfl, (fun y hy => by cases hy), ⟨by decide, by decide⟩, by decide, ⟨"java/lang/IllegalArgumentException", gv_i2 231 rfl rfl, gv_i2 238 rfl rfl⟩, 4, 2, 1, by decide, (Or.inr ⟨rfl, by decide +kernel⟩), by decide +kernel, by decide, by decide +kernel⟩
set_option maxRecDepth 20000 in
theorem ht_again_3 (i j : Int32) {σ σ1 : gS} (h : gv_K m_G_again [.ref 0, .int i, .int j] σ (gv_is (.inr 3) σ1)) : gv_K m_L_again [.ref 0, .int i, .int j, .ref 66] σ (gv_is (.inl (some (.int 1))) σ1) := by
  refine gv_aload_n (n := 3) (pc' := 1) (by decide +kernel) rfl rfl ?_
  refine gv_iconst (n := 0) (v := 0) (pc' := 2) (by decide +kernel) (by decide) rfl ?_
  refine gv_aload_n (n := 0) (pc' := 3) (by decide +kernel) rfl rfl ?_
  refine gv_iload_n (n := 1) (pc' := 4) (by decide +kernel) rfl rfl ?_
  refine gv_iload_n (n := 2) (pc' := 5) (by decide +kernel) rfl rfl ?_
  refine gv_callC (k' := 1) (w' := false) (gv_mkV (by decide) md_G_again (Or.inl ml_12_7) vd_G_again) h (by decide +kernel) rfl rfl rfl (Nat.le_of_ble_eq_true rfl) (Nat.le_of_ble_eq_true rfl) (by decide) rfl (fun z => by cases z) rfl rfl (by decide) (pc' := 8) rfl (fun n σ' z => ?_) (fun v σ' z => by cases z.1)
  obtain ⟨z1, rfl⟩ := z
  cases z1
  exact ⟨13, 1, hc_again_3, gv_isr _ _⟩
set_option maxRecDepth 20000 in
theorem hr_decoded (i j : Int32) (r : Int32) {σ σ1 : gS} (h : gv_K m_G_decoded [.ref 0, .int i, .int j] σ (gv_is (.inl (some (.int r))) σ1)) : gv_K m_L_decoded [.ref 0, .int i, .int j, .ref 66] σ (gv_is (.inl (some (.int 0))) (gs_L σ1 66 0 r.toInt64)) := by
  refine gv_aload_n (n := 3) (pc' := 1) (by decide +kernel) rfl rfl ?_
  refine gv_iconst (n := 0) (v := 0) (pc' := 2) (by decide +kernel) (by decide) rfl ?_
  refine gv_aload_n (n := 0) (pc' := 3) (by decide +kernel) rfl rfl ?_
  refine gv_iload_n (n := 1) (pc' := 4) (by decide +kernel) rfl rfl ?_
  refine gv_iload_n (n := 2) (pc' := 5) (by decide +kernel) rfl rfl ?_
  refine gv_callC (k' := 1) (w' := false) (gv_mkV (by decide) md_G_decoded (Or.inl ml_12_15) vd_G_decoded) h (by decide +kernel) rfl rfl rfl (Nat.le_of_ble_eq_true rfl) (Nat.le_of_ble_eq_true rfl) (by decide) rfl (fun z => by cases z) rfl rfl (by decide) (pc' := 8) rfl (fun n σ' z => by cases z.1) (fun v σ' z => ?_)
  obtain ⟨z1, rfl⟩ := z
  cases z1
  refine gv_i2l (pc' := 9) (by decide +kernel) rfl ?_
  refine gj_last (0) (pc' := 10) (by decide +kernel) rfl lc_in0 rfl rfl ?_
  refine gv_goto (off := 15) (tgt := 25) (by decide +kernel) (by decide) ?_
  refine gv_iconst (n := 0) (v := 0) (pc' := 26) (by decide +kernel) (by decide) rfl ?_
  exact gv_iret .int (by decide +kernel) rfl rfl (by decide) (by decide) (gv_isr _ _)
theorem hc_decoded_1 : gv_ct m_L_decoded 5 1 13 1 := ⟨[], 0, 10, 18, [(0, 10, 17, 20), (0, 10, 21, 13)], rfl, (fun y hy => by cases hy), ⟨by decide, by decide⟩, by decide, ⟨"java/lang/IllegalStateException", gv_i3 65 rfl rfl, gv_i3 77 rfl rfl⟩, 4, 2, 1, by decide, (Or.inr ⟨rfl, by decide +kernel⟩), by decide +kernel, by decide, by decide +kernel⟩
set_option maxRecDepth 20000 in
theorem ht_decoded_1 (i j : Int32) {σ σ1 : gS} (h : gv_K m_G_decoded [.ref 0, .int i, .int j] σ (gv_is (.inr 1) σ1)) : gv_K m_L_decoded [.ref 0, .int i, .int j, .ref 66] σ (gv_is (.inl (some (.int 1))) σ1) := by
  refine gv_aload_n (n := 3) (pc' := 1) (by decide +kernel) rfl rfl ?_
  refine gv_iconst (n := 0) (v := 0) (pc' := 2) (by decide +kernel) (by decide) rfl ?_
  refine gv_aload_n (n := 0) (pc' := 3) (by decide +kernel) rfl rfl ?_
  refine gv_iload_n (n := 1) (pc' := 4) (by decide +kernel) rfl rfl ?_
  refine gv_iload_n (n := 2) (pc' := 5) (by decide +kernel) rfl rfl ?_
  refine gv_callC (k' := 1) (w' := false) (gv_mkV (by decide) md_G_decoded (Or.inl ml_12_15) vd_G_decoded) h (by decide +kernel) rfl rfl rfl (Nat.le_of_ble_eq_true rfl) (Nat.le_of_ble_eq_true rfl) (by decide) rfl (fun z => by cases z) rfl rfl (by decide) (pc' := 8) rfl (fun n σ' z => ?_) (fun v σ' z => by cases z.1)
  obtain ⟨z1, rfl⟩ := z
  cases z1
  exact ⟨13, 1, hc_decoded_1, gv_isr _ _⟩
theorem hc_decoded_2 : gv_ct m_L_decoded 5 2 17 2 := ⟨[(0, 10, 13, 18)], 0, 10, 20, [(0, 10, 21, 13)], rfl, (List.forall_mem_cons.mpr ⟨⟨⟨by decide, by decide⟩, by decide, "java/lang/IllegalStateException", gv_i3 65 rfl rfl, gv_inn 2 rfl⟩, (fun y hy => by cases hy)⟩), ⟨by decide, by decide⟩, by decide, ⟨"java/lang/IndexOutOfBoundsException", gv_i3 66 rfl rfl, gv_i3 96 rfl rfl⟩, 4, 2, 2, by decide, (Or.inr ⟨rfl, by decide +kernel⟩), by decide +kernel, by decide, by decide +kernel⟩
set_option maxRecDepth 20000 in
theorem ht_decoded_2 (i j : Int32) {σ σ1 : gS} (h : gv_K m_G_decoded [.ref 0, .int i, .int j] σ (gv_is (.inr 2) σ1)) : gv_K m_L_decoded [.ref 0, .int i, .int j, .ref 66] σ (gv_is (.inl (some (.int 2))) σ1) := by
  refine gv_aload_n (n := 3) (pc' := 1) (by decide +kernel) rfl rfl ?_
  refine gv_iconst (n := 0) (v := 0) (pc' := 2) (by decide +kernel) (by decide) rfl ?_
  refine gv_aload_n (n := 0) (pc' := 3) (by decide +kernel) rfl rfl ?_
  refine gv_iload_n (n := 1) (pc' := 4) (by decide +kernel) rfl rfl ?_
  refine gv_iload_n (n := 2) (pc' := 5) (by decide +kernel) rfl rfl ?_
  refine gv_callC (k' := 1) (w' := false) (gv_mkV (by decide) md_G_decoded (Or.inl ml_12_15) vd_G_decoded) h (by decide +kernel) rfl rfl rfl (Nat.le_of_ble_eq_true rfl) (Nat.le_of_ble_eq_true rfl) (by decide) rfl (fun z => by cases z) rfl rfl (by decide) (pc' := 8) rfl (fun n σ' z => ?_) (fun v σ' z => by cases z.1)
  obtain ⟨z1, rfl⟩ := z
  cases z1
  exact ⟨17, 2, hc_decoded_2, gv_isr _ _⟩
theorem hc_decoded_3 : gv_ct m_L_decoded 5 3 21 3 := ⟨[(0, 10, 13, 18), (0, 10, 17, 20)], 0, 10, 13, [], rfl, (List.forall_mem_cons.mpr ⟨⟨⟨by decide, by decide⟩, by decide, "java/lang/IllegalStateException", gv_i3 65 rfl rfl, gv_inn 4 rfl⟩, (List.forall_mem_cons.mpr ⟨⟨⟨by decide, by decide⟩, by decide, "java/lang/IndexOutOfBoundsException", gv_i3 66 rfl rfl, gv_inn 5 rfl⟩, (fun y hy => by cases hy)⟩)⟩), ⟨by decide, by decide⟩, by decide, ⟨"java/lang/IllegalArgumentException", gv_i2 231 rfl rfl, gv_i2 238 rfl rfl⟩, 4, 2, 3, by decide, (Or.inr ⟨rfl, by decide +kernel⟩), by decide +kernel, by decide, by decide +kernel⟩
set_option maxRecDepth 20000 in
theorem ht_decoded_3 (i j : Int32) {σ σ1 : gS} (h : gv_K m_G_decoded [.ref 0, .int i, .int j] σ (gv_is (.inr 3) σ1)) : gv_K m_L_decoded [.ref 0, .int i, .int j, .ref 66] σ (gv_is (.inl (some (.int 3))) σ1) := by
  refine gv_aload_n (n := 3) (pc' := 1) (by decide +kernel) rfl rfl ?_
  refine gv_iconst (n := 0) (v := 0) (pc' := 2) (by decide +kernel) (by decide) rfl ?_
  refine gv_aload_n (n := 0) (pc' := 3) (by decide +kernel) rfl rfl ?_
  refine gv_iload_n (n := 1) (pc' := 4) (by decide +kernel) rfl rfl ?_
  refine gv_iload_n (n := 2) (pc' := 5) (by decide +kernel) rfl rfl ?_
  refine gv_callC (k' := 1) (w' := false) (gv_mkV (by decide) md_G_decoded (Or.inl ml_12_15) vd_G_decoded) h (by decide +kernel) rfl rfl rfl (Nat.le_of_ble_eq_true rfl) (Nat.le_of_ble_eq_true rfl) (by decide) rfl (fun z => by cases z) rfl rfl (by decide) (pc' := 8) rfl (fun n σ' z => ?_) (fun v σ' z => by cases z.1)
  obtain ⟨z1, rfl⟩ := z
  cases z1
  exact ⟨21, 3, hc_decoded_3, gv_isr _ _⟩
set_option maxRecDepth 20000 in
theorem hr_set (i j : Int32) {σ σ1 : gS} (h : gv_K m_G_set [.ref 0, .int i, .int j] σ (gv_is (.inl none) σ1)) : gv_K m_L_set [.ref 0, .int i, .int j] σ (gv_is (.inl (some (.int 0))) σ1) := by
  refine gv_aload_n (n := 0) (pc' := 1) (by decide +kernel) rfl rfl ?_
  refine gv_iload_n (n := 1) (pc' := 2) (by decide +kernel) rfl rfl ?_
  refine gv_iload_n (n := 2) (pc' := 3) (by decide +kernel) rfl rfl ?_
  refine gv_callC (k' := 1) (w' := false) (gv_mkV (by decide) md_G_set (Or.inl ml_12_22) vd_G_set) h (by decide +kernel) rfl rfl rfl (Nat.le_of_ble_eq_true rfl) (Nat.le_of_ble_eq_true rfl) (by decide) rfl (fun z => by cases z) rfl rfl (by decide) (pc' := 6) rfl (fun n σ' z => by cases z.1) (fun v σ' z => ?_)
  obtain ⟨z1, rfl⟩ := z
  cases z1
  refine gv_goto (off := 9) (tgt := 15) (by decide +kernel) (by decide) ?_
  refine gv_iconst (n := 0) (v := 0) (pc' := 16) (by decide +kernel) (by decide) rfl ?_
  exact gv_iret .int (by decide +kernel) rfl rfl (by decide) (by decide) (gv_isr _ _)
theorem hc_set_1 : gv_ct m_L_set 3 1 9 1 := ⟨[], 0, 6, 18, [(0, 6, 12, 13)], rfl, (fun y hy => by cases hy), ⟨by decide, by decide⟩, by decide, ⟨"java/lang/IllegalStateException", gv_i3 65 rfl rfl, gv_i3 77 rfl rfl⟩, 3, 1, 1, by decide, (Or.inl ⟨3, rfl, rfl, by decide +kernel⟩), by decide +kernel, by decide, by decide +kernel⟩
set_option maxRecDepth 20000 in
theorem ht_set_1 (i j : Int32) {σ σ1 : gS} (h : gv_K m_G_set [.ref 0, .int i, .int j] σ (gv_is (.inr 1) σ1)) : gv_K m_L_set [.ref 0, .int i, .int j] σ (gv_is (.inl (some (.int 1))) σ1) := by
  refine gv_aload_n (n := 0) (pc' := 1) (by decide +kernel) rfl rfl ?_
  refine gv_iload_n (n := 1) (pc' := 2) (by decide +kernel) rfl rfl ?_
  refine gv_iload_n (n := 2) (pc' := 3) (by decide +kernel) rfl rfl ?_
  refine gv_callC (k' := 1) (w' := false) (gv_mkV (by decide) md_G_set (Or.inl ml_12_22) vd_G_set) h (by decide +kernel) rfl rfl rfl (Nat.le_of_ble_eq_true rfl) (Nat.le_of_ble_eq_true rfl) (by decide) rfl (fun z => by cases z) rfl rfl (by decide) (pc' := 6) rfl (fun n σ' z => ?_) (fun v σ' z => by cases z.1)
  obtain ⟨z1, rfl⟩ := z
  cases z1
  exact ⟨9, 1, hc_set_1, gv_isr _ _⟩
theorem hc_set_3 : gv_ct m_L_set 3 3 12 2 := ⟨[(0, 6, 9, 18)], 0, 6, 13, [], rfl, (List.forall_mem_cons.mpr ⟨⟨⟨by decide, by decide⟩, by decide, "java/lang/IllegalStateException", gv_i3 65 rfl rfl, gv_inn 4 rfl⟩, (fun y hy => by cases hy)⟩), ⟨by decide, by decide⟩, by decide, ⟨"java/lang/IllegalArgumentException", gv_i2 231 rfl rfl, gv_i2 238 rfl rfl⟩, 3, 1, 2, by decide, (Or.inl ⟨3, rfl, rfl, by decide +kernel⟩), by decide +kernel, by decide, by decide +kernel⟩
set_option maxRecDepth 20000 in
theorem ht_set_3 (i j : Int32) {σ σ1 : gS} (h : gv_K m_G_set [.ref 0, .int i, .int j] σ (gv_is (.inr 3) σ1)) : gv_K m_L_set [.ref 0, .int i, .int j] σ (gv_is (.inl (some (.int 2))) σ1) := by
  refine gv_aload_n (n := 0) (pc' := 1) (by decide +kernel) rfl rfl ?_
  refine gv_iload_n (n := 1) (pc' := 2) (by decide +kernel) rfl rfl ?_
  refine gv_iload_n (n := 2) (pc' := 3) (by decide +kernel) rfl rfl ?_
  refine gv_callC (k' := 1) (w' := false) (gv_mkV (by decide) md_G_set (Or.inl ml_12_22) vd_G_set) h (by decide +kernel) rfl rfl rfl (Nat.le_of_ble_eq_true rfl) (Nat.le_of_ble_eq_true rfl) (by decide) rfl (fun z => by cases z) rfl rfl (by decide) (pc' := 6) rfl (fun n σ' z => ?_) (fun v σ' z => by cases z.1)
  obtain ⟨z1, rfl⟩ := z
  cases z1
  exact ⟨12, 2, hc_set_3, gv_isr _ _⟩
set_option maxRecDepth 20000 in
theorem hr_register (i : Int32) (r : Int32) {σ σ1 : gS} (h : gv_K m_G_register [.ref 0, .int i] σ (gv_is (.inl (some (.int r))) σ1)) : gv_K m_L_register [.ref 0, .int i, .ref 66] σ (gv_is (.inl (some (.int 0))) (gs_L σ1 66 0 r.toInt64)) := by
  refine gv_aload_n (n := 2) (pc' := 1) (by decide +kernel) rfl rfl ?_
  refine gv_iconst (n := 0) (v := 0) (pc' := 2) (by decide +kernel) (by decide) rfl ?_
  refine gv_aload_n (n := 0) (pc' := 3) (by decide +kernel) rfl rfl ?_
  refine gv_iload_n (n := 1) (pc' := 4) (by decide +kernel) rfl rfl ?_
  refine gv_callC (k' := 1) (w' := false) (gv_mkV (by decide) md_G_register (Or.inl ml_12_26) vd_G_register) h (by decide +kernel) rfl rfl rfl (Nat.le_of_ble_eq_true rfl) (Nat.le_of_ble_eq_true rfl) (by decide) rfl (fun z => by cases z) rfl rfl (by decide) (pc' := 7) rfl (fun n σ' z => by cases z.1) (fun v σ' z => ?_)
  obtain ⟨z1, rfl⟩ := z
  cases z1
  refine gv_i2l (pc' := 8) (by decide +kernel) rfl ?_
  refine gj_last (0) (pc' := 9) (by decide +kernel) rfl lc_in0 rfl rfl ?_
  refine gv_goto (off := 9) (tgt := 18) (by decide +kernel) (by decide) ?_
  refine gv_iconst (n := 0) (v := 0) (pc' := 19) (by decide +kernel) (by decide) rfl ?_
  exact gv_iret .int (by decide +kernel) rfl rfl (by decide) (by decide) (gv_isr _ _)
theorem hc_register_1 : gv_ct m_L_register 4 1 12 1 := ⟨[], 0, 9, 18, [(0, 9, 15, 13)], rfl, (fun y hy => by cases hy), ⟨by decide, by decide⟩, by decide, ⟨"java/lang/IllegalStateException", gv_i3 65 rfl rfl, gv_i3 77 rfl rfl⟩, 3, 1, 1, by decide, (Or.inl ⟨3, rfl, rfl, by decide +kernel⟩), by decide +kernel, by decide, by decide +kernel⟩
set_option maxRecDepth 20000 in
theorem ht_register_1 (i : Int32) {σ σ1 : gS} (h : gv_K m_G_register [.ref 0, .int i] σ (gv_is (.inr 1) σ1)) : gv_K m_L_register [.ref 0, .int i, .ref 66] σ (gv_is (.inl (some (.int 1))) σ1) := by
  refine gv_aload_n (n := 2) (pc' := 1) (by decide +kernel) rfl rfl ?_
  refine gv_iconst (n := 0) (v := 0) (pc' := 2) (by decide +kernel) (by decide) rfl ?_
  refine gv_aload_n (n := 0) (pc' := 3) (by decide +kernel) rfl rfl ?_
  refine gv_iload_n (n := 1) (pc' := 4) (by decide +kernel) rfl rfl ?_
  refine gv_callC (k' := 1) (w' := false) (gv_mkV (by decide) md_G_register (Or.inl ml_12_26) vd_G_register) h (by decide +kernel) rfl rfl rfl (Nat.le_of_ble_eq_true rfl) (Nat.le_of_ble_eq_true rfl) (by decide) rfl (fun z => by cases z) rfl rfl (by decide) (pc' := 7) rfl (fun n σ' z => ?_) (fun v σ' z => by cases z.1)
  obtain ⟨z1, rfl⟩ := z
  cases z1
  exact ⟨12, 1, hc_register_1, gv_isr _ _⟩
theorem hc_register_3 : gv_ct m_L_register 4 3 15 2 := ⟨[(0, 9, 12, 18)], 0, 9, 13, [], rfl, (List.forall_mem_cons.mpr ⟨⟨⟨by decide, by decide⟩, by decide, "java/lang/IllegalStateException", gv_i3 65 rfl rfl, gv_inn 4 rfl⟩, (fun y hy => by cases hy)⟩), ⟨by decide, by decide⟩, by decide, ⟨"java/lang/IllegalArgumentException", gv_i2 231 rfl rfl, gv_i2 238 rfl rfl⟩, 3, 1, 2, by decide, (Or.inl ⟨3, rfl, rfl, by decide +kernel⟩), by decide +kernel, by decide, by decide +kernel⟩
set_option maxRecDepth 20000 in
theorem ht_register_3 (i : Int32) {σ σ1 : gS} (h : gv_K m_G_register [.ref 0, .int i] σ (gv_is (.inr 3) σ1)) : gv_K m_L_register [.ref 0, .int i, .ref 66] σ (gv_is (.inl (some (.int 2))) σ1) := by
  refine gv_aload_n (n := 2) (pc' := 1) (by decide +kernel) rfl rfl ?_
  refine gv_iconst (n := 0) (v := 0) (pc' := 2) (by decide +kernel) (by decide) rfl ?_
  refine gv_aload_n (n := 0) (pc' := 3) (by decide +kernel) rfl rfl ?_
  refine gv_iload_n (n := 1) (pc' := 4) (by decide +kernel) rfl rfl ?_
  refine gv_callC (k' := 1) (w' := false) (gv_mkV (by decide) md_G_register (Or.inl ml_12_26) vd_G_register) h (by decide +kernel) rfl rfl rfl (Nat.le_of_ble_eq_true rfl) (Nat.le_of_ble_eq_true rfl) (by decide) rfl (fun z => by cases z) rfl rfl (by decide) (pc' := 7) rfl (fun n σ' z => ?_) (fun v σ' z => by cases z.1)
  obtain ⟨z1, rfl⟩ := z
  cases z1
  exact ⟨15, 2, hc_register_3, gv_isr _ _⟩
set_option maxRecDepth 20000 in
theorem hr_poke (i j : Int32) {σ σ1 : gS} (h : gv_K m_G_poke [.ref 0, .int i, .int j] σ (gv_is (.inl none) σ1)) : gv_K m_L_poke [.ref 0, .int i, .int j] σ (gv_is (.inl (some (.int 0))) σ1) := by
  refine gv_aload_n (n := 0) (pc' := 1) (by decide +kernel) rfl rfl ?_
  refine gv_iload_n (n := 1) (pc' := 2) (by decide +kernel) rfl rfl ?_
  refine gv_iload_n (n := 2) (pc' := 3) (by decide +kernel) rfl rfl ?_
  refine gv_callC (k' := 1) (w' := false) (gv_mkV (by decide) md_G_poke (Or.inl ml_12_30) vd_G_poke) h (by decide +kernel) rfl rfl rfl (Nat.le_of_ble_eq_true rfl) (Nat.le_of_ble_eq_true rfl) (by decide) rfl (fun z => by cases z) rfl rfl (by decide) (pc' := 6) rfl (fun n σ' z => by cases z.1) (fun v σ' z => ?_)
  obtain ⟨z1, rfl⟩ := z
  cases z1
  refine gv_goto (off := 6) (tgt := 12) (by decide +kernel) (by decide) ?_
  refine gv_iconst (n := 0) (v := 0) (pc' := 13) (by decide +kernel) (by decide) rfl ?_
  exact gv_iret .int (by decide +kernel) rfl rfl (by decide) (by decide) (gv_isr _ _)
theorem hc_poke_1 : gv_ct m_L_poke 3 1 9 1 := ⟨[], 0, 6, 18, [], rfl, (fun y hy => by cases hy), ⟨by decide, by decide⟩, by decide, ⟨"java/lang/IllegalStateException", gv_i3 65 rfl rfl, gv_i3 77 rfl rfl⟩, 3, 1, 1, by decide, (Or.inl ⟨3, rfl, rfl, by decide +kernel⟩), by decide +kernel, by decide, by decide +kernel⟩
set_option maxRecDepth 20000 in
theorem ht_poke_1 (i j : Int32) {σ σ1 : gS} (h : gv_K m_G_poke [.ref 0, .int i, .int j] σ (gv_is (.inr 1) σ1)) : gv_K m_L_poke [.ref 0, .int i, .int j] σ (gv_is (.inl (some (.int 1))) σ1) := by
  refine gv_aload_n (n := 0) (pc' := 1) (by decide +kernel) rfl rfl ?_
  refine gv_iload_n (n := 1) (pc' := 2) (by decide +kernel) rfl rfl ?_
  refine gv_iload_n (n := 2) (pc' := 3) (by decide +kernel) rfl rfl ?_
  refine gv_callC (k' := 1) (w' := false) (gv_mkV (by decide) md_G_poke (Or.inl ml_12_30) vd_G_poke) h (by decide +kernel) rfl rfl rfl (Nat.le_of_ble_eq_true rfl) (Nat.le_of_ble_eq_true rfl) (by decide) rfl (fun z => by cases z) rfl rfl (by decide) (pc' := 6) rfl (fun n σ' z => ?_) (fun v σ' z => by cases z.1)
  obtain ⟨z1, rfl⟩ := z
  cases z1
  exact ⟨9, 1, hc_poke_1, gv_isr _ _⟩
set_option maxRecDepth 20000 in
theorem hr_peek (i : Int32) (r : Int32) {σ σ1 : gS} (h : gv_K m_G_peek [.ref 0, .int i] σ (gv_is (.inl (some (.int r))) σ1)) : gv_K m_L_peek [.ref 0, .int i, .ref 66] σ (gv_is (.inl (some (.int 0))) (gs_L σ1 66 0 r.toInt64)) := by
  refine gv_aload_n (n := 2) (pc' := 1) (by decide +kernel) rfl rfl ?_
  refine gv_iconst (n := 0) (v := 0) (pc' := 2) (by decide +kernel) (by decide) rfl ?_
  refine gv_aload_n (n := 0) (pc' := 3) (by decide +kernel) rfl rfl ?_
  refine gv_iload_n (n := 1) (pc' := 4) (by decide +kernel) rfl rfl ?_
  refine gv_callC (k' := 1) (w' := false) (gv_mkV (by decide) md_G_peek (Or.inl ml_12_33) vd_G_peek) h (by decide +kernel) rfl rfl rfl (Nat.le_of_ble_eq_true rfl) (Nat.le_of_ble_eq_true rfl) (by decide) rfl (fun z => by cases z) rfl rfl (by decide) (pc' := 7) rfl (fun n σ' z => by cases z.1) (fun v σ' z => ?_)
  obtain ⟨z1, rfl⟩ := z
  cases z1
  refine gv_i2l (pc' := 8) (by decide +kernel) rfl ?_
  refine gj_last (0) (pc' := 9) (by decide +kernel) rfl lc_in0 rfl rfl ?_
  refine gv_goto (off := 6) (tgt := 15) (by decide +kernel) (by decide) ?_
  refine gv_iconst (n := 0) (v := 0) (pc' := 16) (by decide +kernel) (by decide) rfl ?_
  exact gv_iret .int (by decide +kernel) rfl rfl (by decide) (by decide) (gv_isr _ _)
theorem hc_peek_1 : gv_ct m_L_peek 4 1 12 1 := ⟨[], 0, 9, 18, [], rfl, (fun y hy => by cases hy), ⟨by decide, by decide⟩, by decide, ⟨"java/lang/IllegalStateException", gv_i3 65 rfl rfl, gv_i3 77 rfl rfl⟩, 3, 1, 1, by decide, (Or.inl ⟨3, rfl, rfl, by decide +kernel⟩), by decide +kernel, by decide, by decide +kernel⟩
set_option maxRecDepth 20000 in
theorem ht_peek_1 (i : Int32) {σ σ1 : gS} (h : gv_K m_G_peek [.ref 0, .int i] σ (gv_is (.inr 1) σ1)) : gv_K m_L_peek [.ref 0, .int i, .ref 66] σ (gv_is (.inl (some (.int 1))) σ1) := by
  refine gv_aload_n (n := 2) (pc' := 1) (by decide +kernel) rfl rfl ?_
  refine gv_iconst (n := 0) (v := 0) (pc' := 2) (by decide +kernel) (by decide) rfl ?_
  refine gv_aload_n (n := 0) (pc' := 3) (by decide +kernel) rfl rfl ?_
  refine gv_iload_n (n := 1) (pc' := 4) (by decide +kernel) rfl rfl ?_
  refine gv_callC (k' := 1) (w' := false) (gv_mkV (by decide) md_G_peek (Or.inl ml_12_33) vd_G_peek) h (by decide +kernel) rfl rfl rfl (Nat.le_of_ble_eq_true rfl) (Nat.le_of_ble_eq_true rfl) (by decide) rfl (fun z => by cases z) rfl rfl (by decide) (pc' := 7) rfl (fun n σ' z => ?_) (fun v σ' z => by cases z.1)
  obtain ⟨z1, rfl⟩ := z
  cases z1
  exact ⟨12, 1, hc_peek_1, gv_isr _ _⟩
set_option maxRecDepth 20000 in
theorem hr_run (i : Int32) (r : Int32) {σ σ1 : gS} (h : gv_K m_G_run [.ref 0, .int i] σ (gv_is (.inl (some (.int r))) σ1)) : gv_K m_L_run [.ref 0, .int i, .ref 66] σ (gv_is (.inl (some (.int 0))) (gs_L σ1 66 0 r.toInt64)) := by
  refine gv_aload_n (n := 2) (pc' := 1) (by decide +kernel) rfl rfl ?_
  refine gv_iconst (n := 0) (v := 0) (pc' := 2) (by decide +kernel) (by decide) rfl ?_
  refine gv_aload_n (n := 0) (pc' := 3) (by decide +kernel) rfl rfl ?_
  refine gv_iload_n (n := 1) (pc' := 4) (by decide +kernel) rfl rfl ?_
  refine gv_callC (k' := 1) (w' := false) (gv_mkV (by decide) md_G_run (Or.inl ml_12_36) vd_G_run) h (by decide +kernel) rfl rfl rfl (Nat.le_of_ble_eq_true rfl) (Nat.le_of_ble_eq_true rfl) (by decide) rfl (fun z => by cases z) rfl rfl (by decide) (pc' := 7) rfl (fun n σ' z => by cases z.1) (fun v σ' z => ?_)
  obtain ⟨z1, rfl⟩ := z
  cases z1
  refine gv_i2l (pc' := 8) (by decide +kernel) rfl ?_
  refine gj_last (0) (pc' := 9) (by decide +kernel) rfl lc_in0 rfl rfl ?_
  refine gv_goto (off := 9) (tgt := 18) (by decide +kernel) (by decide) ?_
  refine gv_iconst (n := 0) (v := 0) (pc' := 19) (by decide +kernel) (by decide) rfl ?_
  exact gv_iret .int (by decide +kernel) rfl rfl (by decide) (by decide) (gv_isr _ _)
theorem hc_run_1 : gv_ct m_L_run 4 1 12 1 := ⟨[], 0, 9, 18, [(0, 9, 15, 13)], rfl, (fun y hy => by cases hy), ⟨by decide, by decide⟩, by decide, ⟨"java/lang/IllegalStateException", gv_i3 65 rfl rfl, gv_i3 77 rfl rfl⟩, 3, 1, 1, by decide, (Or.inl ⟨3, rfl, rfl, by decide +kernel⟩), by decide +kernel, by decide, by decide +kernel⟩
set_option maxRecDepth 20000 in
theorem ht_run_1 (i : Int32) {σ σ1 : gS} (h : gv_K m_G_run [.ref 0, .int i] σ (gv_is (.inr 1) σ1)) : gv_K m_L_run [.ref 0, .int i, .ref 66] σ (gv_is (.inl (some (.int 1))) σ1) := by
  refine gv_aload_n (n := 2) (pc' := 1) (by decide +kernel) rfl rfl ?_
  refine gv_iconst (n := 0) (v := 0) (pc' := 2) (by decide +kernel) (by decide) rfl ?_
  refine gv_aload_n (n := 0) (pc' := 3) (by decide +kernel) rfl rfl ?_
  refine gv_iload_n (n := 1) (pc' := 4) (by decide +kernel) rfl rfl ?_
  refine gv_callC (k' := 1) (w' := false) (gv_mkV (by decide) md_G_run (Or.inl ml_12_36) vd_G_run) h (by decide +kernel) rfl rfl rfl (Nat.le_of_ble_eq_true rfl) (Nat.le_of_ble_eq_true rfl) (by decide) rfl (fun z => by cases z) rfl rfl (by decide) (pc' := 7) rfl (fun n σ' z => ?_) (fun v σ' z => by cases z.1)
  obtain ⟨z1, rfl⟩ := z
  cases z1
  exact ⟨12, 1, hc_run_1, gv_isr _ _⟩
theorem hc_run_3 : gv_ct m_L_run 4 3 15 2 := ⟨[(0, 9, 12, 18)], 0, 9, 13, [], rfl, (List.forall_mem_cons.mpr ⟨⟨⟨by decide, by decide⟩, by decide, "java/lang/IllegalStateException", gv_i3 65 rfl rfl, gv_inn 4 rfl⟩, (fun y hy => by cases hy)⟩), ⟨by decide, by decide⟩, by decide, ⟨"java/lang/IllegalArgumentException", gv_i2 231 rfl rfl, gv_i2 238 rfl rfl⟩, 3, 1, 2, by decide, (Or.inl ⟨3, rfl, rfl, by decide +kernel⟩), by decide +kernel, by decide, by decide +kernel⟩
set_option maxRecDepth 20000 in
theorem ht_run_3 (i : Int32) {σ σ1 : gS} (h : gv_K m_G_run [.ref 0, .int i] σ (gv_is (.inr 3) σ1)) : gv_K m_L_run [.ref 0, .int i, .ref 66] σ (gv_is (.inl (some (.int 2))) σ1) := by
  refine gv_aload_n (n := 2) (pc' := 1) (by decide +kernel) rfl rfl ?_
  refine gv_iconst (n := 0) (v := 0) (pc' := 2) (by decide +kernel) (by decide) rfl ?_
  refine gv_aload_n (n := 0) (pc' := 3) (by decide +kernel) rfl rfl ?_
  refine gv_iload_n (n := 1) (pc' := 4) (by decide +kernel) rfl rfl ?_
  refine gv_callC (k' := 1) (w' := false) (gv_mkV (by decide) md_G_run (Or.inl ml_12_36) vd_G_run) h (by decide +kernel) rfl rfl rfl (Nat.le_of_ble_eq_true rfl) (Nat.le_of_ble_eq_true rfl) (by decide) rfl (fun z => by cases z) rfl rfl (by decide) (pc' := 7) rfl (fun n σ' z => ?_) (fun v σ' z => by cases z.1)
  obtain ⟨z1, rfl⟩ := z
  cases z1
  exact ⟨15, 2, hc_run_3, gv_isr _ _⟩
set_option maxRecDepth 20000 in
theorem hr_order (i : Int32) (r : Int32) {σ σ1 : gS} (h : gv_K m_G_order [.ref 0, .int i] σ (gv_is (.inl (some (.int r))) σ1)) : gv_K m_L_order [.ref 0, .int i, .ref 66] σ (gv_is (.inl (some (.int 0))) (gs_L σ1 66 0 r.toInt64)) := by
  refine gv_aload_n (n := 2) (pc' := 1) (by decide +kernel) rfl rfl ?_
  refine gv_iconst (n := 0) (v := 0) (pc' := 2) (by decide +kernel) (by decide) rfl ?_
  refine gv_aload_n (n := 0) (pc' := 3) (by decide +kernel) rfl rfl ?_
  refine gv_iload_n (n := 1) (pc' := 4) (by decide +kernel) rfl rfl ?_
  refine gv_callC (k' := 1) (w' := false) (gv_mkV (by decide) md_G_order (Or.inl ml_12_39) vd_G_order) h (by decide +kernel) rfl rfl rfl (Nat.le_of_ble_eq_true rfl) (Nat.le_of_ble_eq_true rfl) (by decide) rfl (fun z => by cases z) rfl rfl (by decide) (pc' := 7) rfl (fun n σ' z => by cases z.1) (fun v σ' z => ?_)
  obtain ⟨z1, rfl⟩ := z
  cases z1
  refine gv_i2l (pc' := 8) (by decide +kernel) rfl ?_
  refine gj_last (0) (pc' := 9) (by decide +kernel) rfl lc_in0 rfl rfl ?_
  refine gv_goto (off := 9) (tgt := 18) (by decide +kernel) (by decide) ?_
  refine gv_iconst (n := 0) (v := 0) (pc' := 19) (by decide +kernel) (by decide) rfl ?_
  exact gv_iret .int (by decide +kernel) rfl rfl (by decide) (by decide) (gv_isr _ _)
theorem hc_order_1 : gv_ct m_L_order 4 1 12 1 := ⟨[], 0, 9, 18, [(0, 9, 15, 13)], rfl, (fun y hy => by cases hy), ⟨by decide, by decide⟩, by decide, ⟨"java/lang/IllegalStateException", gv_i3 65 rfl rfl, gv_i3 77 rfl rfl⟩, 3, 1, 1, by decide, (Or.inl ⟨3, rfl, rfl, by decide +kernel⟩), by decide +kernel, by decide, by decide +kernel⟩
set_option maxRecDepth 20000 in
theorem ht_order_1 (i : Int32) {σ σ1 : gS} (h : gv_K m_G_order [.ref 0, .int i] σ (gv_is (.inr 1) σ1)) : gv_K m_L_order [.ref 0, .int i, .ref 66] σ (gv_is (.inl (some (.int 1))) σ1) := by
  refine gv_aload_n (n := 2) (pc' := 1) (by decide +kernel) rfl rfl ?_
  refine gv_iconst (n := 0) (v := 0) (pc' := 2) (by decide +kernel) (by decide) rfl ?_
  refine gv_aload_n (n := 0) (pc' := 3) (by decide +kernel) rfl rfl ?_
  refine gv_iload_n (n := 1) (pc' := 4) (by decide +kernel) rfl rfl ?_
  refine gv_callC (k' := 1) (w' := false) (gv_mkV (by decide) md_G_order (Or.inl ml_12_39) vd_G_order) h (by decide +kernel) rfl rfl rfl (Nat.le_of_ble_eq_true rfl) (Nat.le_of_ble_eq_true rfl) (by decide) rfl (fun z => by cases z) rfl rfl (by decide) (pc' := 7) rfl (fun n σ' z => ?_) (fun v σ' z => by cases z.1)
  obtain ⟨z1, rfl⟩ := z
  cases z1
  exact ⟨12, 1, hc_order_1, gv_isr _ _⟩
theorem hc_order_3 : gv_ct m_L_order 4 3 15 2 := ⟨[(0, 9, 12, 18)], 0, 9, 13, [], rfl, (List.forall_mem_cons.mpr ⟨⟨⟨by decide, by decide⟩, by decide, "java/lang/IllegalStateException", gv_i3 65 rfl rfl, gv_inn 4 rfl⟩, (fun y hy => by cases hy)⟩), ⟨by decide, by decide⟩, by decide, ⟨"java/lang/IllegalArgumentException", gv_i2 231 rfl rfl, gv_i2 238 rfl rfl⟩, 3, 1, 2, by decide, (Or.inl ⟨3, rfl, rfl, by decide +kernel⟩), by decide +kernel, by decide, by decide +kernel⟩
set_option maxRecDepth 20000 in
theorem ht_order_3 (i : Int32) {σ σ1 : gS} (h : gv_K m_G_order [.ref 0, .int i] σ (gv_is (.inr 3) σ1)) : gv_K m_L_order [.ref 0, .int i, .ref 66] σ (gv_is (.inl (some (.int 2))) σ1) := by
  refine gv_aload_n (n := 2) (pc' := 1) (by decide +kernel) rfl rfl ?_
  refine gv_iconst (n := 0) (v := 0) (pc' := 2) (by decide +kernel) (by decide) rfl ?_
  refine gv_aload_n (n := 0) (pc' := 3) (by decide +kernel) rfl rfl ?_
  refine gv_iload_n (n := 1) (pc' := 4) (by decide +kernel) rfl rfl ?_
  refine gv_callC (k' := 1) (w' := false) (gv_mkV (by decide) md_G_order (Or.inl ml_12_39) vd_G_order) h (by decide +kernel) rfl rfl rfl (Nat.le_of_ble_eq_true rfl) (Nat.le_of_ble_eq_true rfl) (by decide) rfl (fun z => by cases z) rfl rfl (by decide) (pc' := 7) rfl (fun n σ' z => ?_) (fun v σ' z => by cases z.1)
  obtain ⟨z1, rfl⟩ := z
  cases z1
  exact ⟨15, 2, hc_order_3, gv_isr _ _⟩
set_option maxRecDepth 20000 in
theorem hr_window (i : Int32) (r : Int32) {σ σ1 : gS} (h : gv_K m_G_window [.ref 0, .int i] σ (gv_is (.inl (some (.int r))) σ1)) : gv_K m_L_window [.ref 0, .int i, .ref 66] σ (gv_is (.inl (some (.int 0))) (gs_L σ1 66 0 r.toInt64)) := by
  refine gv_aload_n (n := 2) (pc' := 1) (by decide +kernel) rfl rfl ?_
  refine gv_iconst (n := 0) (v := 0) (pc' := 2) (by decide +kernel) (by decide) rfl ?_
  refine gv_aload_n (n := 0) (pc' := 3) (by decide +kernel) rfl rfl ?_
  refine gv_iload_n (n := 1) (pc' := 4) (by decide +kernel) rfl rfl ?_
  refine gv_callC (k' := 1) (w' := false) (gv_mkV (by decide) md_G_window (Or.inl ml_12_42) vd_G_window) h (by decide +kernel) rfl rfl rfl (Nat.le_of_ble_eq_true rfl) (Nat.le_of_ble_eq_true rfl) (by decide) rfl (fun z => by cases z) rfl rfl (by decide) (pc' := 7) rfl (fun n σ' z => by cases z.1) (fun v σ' z => ?_)
  obtain ⟨z1, rfl⟩ := z
  cases z1
  refine gv_i2l (pc' := 8) (by decide +kernel) rfl ?_
  refine gj_last (0) (pc' := 9) (by decide +kernel) rfl lc_in0 rfl rfl ?_
  refine gv_goto (off := 6) (tgt := 15) (by decide +kernel) (by decide) ?_
  refine gv_iconst (n := 0) (v := 0) (pc' := 16) (by decide +kernel) (by decide) rfl ?_
  exact gv_iret .int (by decide +kernel) rfl rfl (by decide) (by decide) (gv_isr _ _)
theorem hc_window_3 : gv_ct m_L_window 4 3 12 1 := ⟨[], 0, 9, 13, [], rfl, (fun y hy => by cases hy), ⟨by decide, by decide⟩, by decide, ⟨"java/lang/IllegalArgumentException", gv_i2 231 rfl rfl, gv_i2 238 rfl rfl⟩, 3, 1, 1, by decide, (Or.inl ⟨3, rfl, rfl, by decide +kernel⟩), by decide +kernel, by decide, by decide +kernel⟩
set_option maxRecDepth 20000 in
theorem ht_window_3 (i : Int32) {σ σ1 : gS} (h : gv_K m_G_window [.ref 0, .int i] σ (gv_is (.inr 3) σ1)) : gv_K m_L_window [.ref 0, .int i, .ref 66] σ (gv_is (.inl (some (.int 1))) σ1) := by
  refine gv_aload_n (n := 2) (pc' := 1) (by decide +kernel) rfl rfl ?_
  refine gv_iconst (n := 0) (v := 0) (pc' := 2) (by decide +kernel) (by decide) rfl ?_
  refine gv_aload_n (n := 0) (pc' := 3) (by decide +kernel) rfl rfl ?_
  refine gv_iload_n (n := 1) (pc' := 4) (by decide +kernel) rfl rfl ?_
  refine gv_callC (k' := 1) (w' := false) (gv_mkV (by decide) md_G_window (Or.inl ml_12_42) vd_G_window) h (by decide +kernel) rfl rfl rfl (Nat.le_of_ble_eq_true rfl) (Nat.le_of_ble_eq_true rfl) (by decide) rfl (fun z => by cases z) rfl rfl (by decide) (pc' := 7) rfl (fun n σ' z => ?_) (fun v σ' z => by cases z.1)
  obtain ⟨z1, rfl⟩ := z
  cases z1
  exact ⟨12, 1, hc_window_3, gv_isr _ _⟩
set_option maxRecDepth 20000 in
theorem hr_state (i : Int32) (r : Int32) {σ σ1 : gS} (h : gv_K m_G_state [.ref 0, .int i] σ (gv_is (.inl (some (.int r))) σ1)) : gv_K m_L_state [.ref 0, .int i, .ref 66] σ (gv_is (.inl (some (.int 0))) (gs_L σ1 66 0 r.toInt64)) := by
  refine gv_aload_n (n := 2) (pc' := 1) (by decide +kernel) rfl rfl ?_
  refine gv_iconst (n := 0) (v := 0) (pc' := 2) (by decide +kernel) (by decide) rfl ?_
  refine gv_aload_n (n := 0) (pc' := 3) (by decide +kernel) rfl rfl ?_
  refine gv_iload_n (n := 1) (pc' := 4) (by decide +kernel) rfl rfl ?_
  refine gv_callC (k' := 1) (w' := false) (gv_mkV (by decide) md_G_state (Or.inl ml_12_45) vd_G_state) h (by decide +kernel) rfl rfl rfl (Nat.le_of_ble_eq_true rfl) (Nat.le_of_ble_eq_true rfl) (by decide) rfl (fun z => by cases z) rfl rfl (by decide) (pc' := 7) rfl (fun n σ' z => by cases z.1) (fun v σ' z => ?_)
  obtain ⟨z1, rfl⟩ := z
  cases z1
  refine gv_i2l (pc' := 8) (by decide +kernel) rfl ?_
  refine gj_last (0) (pc' := 9) (by decide +kernel) rfl lc_in0 rfl rfl ?_
  refine gv_goto (off := 9) (tgt := 18) (by decide +kernel) (by decide) ?_
  refine gv_iconst (n := 0) (v := 0) (pc' := 19) (by decide +kernel) (by decide) rfl ?_
  exact gv_iret .int (by decide +kernel) rfl rfl (by decide) (by decide) (gv_isr _ _)
theorem hc_state_1 : gv_ct m_L_state 4 1 12 1 := ⟨[], 0, 9, 18, [(0, 9, 15, 13)], rfl, (fun y hy => by cases hy), ⟨by decide, by decide⟩, by decide, ⟨"java/lang/IllegalStateException", gv_i3 65 rfl rfl, gv_i3 77 rfl rfl⟩, 3, 1, 1, by decide, (Or.inl ⟨3, rfl, rfl, by decide +kernel⟩), by decide +kernel, by decide, by decide +kernel⟩
set_option maxRecDepth 20000 in
theorem ht_state_1 (i : Int32) {σ σ1 : gS} (h : gv_K m_G_state [.ref 0, .int i] σ (gv_is (.inr 1) σ1)) : gv_K m_L_state [.ref 0, .int i, .ref 66] σ (gv_is (.inl (some (.int 1))) σ1) := by
  refine gv_aload_n (n := 2) (pc' := 1) (by decide +kernel) rfl rfl ?_
  refine gv_iconst (n := 0) (v := 0) (pc' := 2) (by decide +kernel) (by decide) rfl ?_
  refine gv_aload_n (n := 0) (pc' := 3) (by decide +kernel) rfl rfl ?_
  refine gv_iload_n (n := 1) (pc' := 4) (by decide +kernel) rfl rfl ?_
  refine gv_callC (k' := 1) (w' := false) (gv_mkV (by decide) md_G_state (Or.inl ml_12_45) vd_G_state) h (by decide +kernel) rfl rfl rfl (Nat.le_of_ble_eq_true rfl) (Nat.le_of_ble_eq_true rfl) (by decide) rfl (fun z => by cases z) rfl rfl (by decide) (pc' := 7) rfl (fun n σ' z => ?_) (fun v σ' z => by cases z.1)
  obtain ⟨z1, rfl⟩ := z
  cases z1
  exact ⟨12, 1, hc_state_1, gv_isr _ _⟩
theorem hc_state_3 : gv_ct m_L_state 4 3 15 2 := ⟨[(0, 9, 12, 18)], 0, 9, 13, [], rfl, (List.forall_mem_cons.mpr ⟨⟨⟨by decide, by decide⟩, by decide, "java/lang/IllegalStateException", gv_i3 65 rfl rfl, gv_inn 4 rfl⟩, (fun y hy => by cases hy)⟩), ⟨by decide, by decide⟩, by decide, ⟨"java/lang/IllegalArgumentException", gv_i2 231 rfl rfl, gv_i2 238 rfl rfl⟩, 3, 1, 2, by decide, (Or.inl ⟨3, rfl, rfl, by decide +kernel⟩), by decide +kernel, by decide, by decide +kernel⟩
set_option maxRecDepth 20000 in
theorem ht_state_3 (i : Int32) {σ σ1 : gS} (h : gv_K m_G_state [.ref 0, .int i] σ (gv_is (.inr 3) σ1)) : gv_K m_L_state [.ref 0, .int i, .ref 66] σ (gv_is (.inl (some (.int 2))) σ1) := by
  refine gv_aload_n (n := 2) (pc' := 1) (by decide +kernel) rfl rfl ?_
  refine gv_iconst (n := 0) (v := 0) (pc' := 2) (by decide +kernel) (by decide) rfl ?_
  refine gv_aload_n (n := 0) (pc' := 3) (by decide +kernel) rfl rfl ?_
  refine gv_iload_n (n := 1) (pc' := 4) (by decide +kernel) rfl rfl ?_
  refine gv_callC (k' := 1) (w' := false) (gv_mkV (by decide) md_G_state (Or.inl ml_12_45) vd_G_state) h (by decide +kernel) rfl rfl rfl (Nat.le_of_ble_eq_true rfl) (Nat.le_of_ble_eq_true rfl) (by decide) rfl (fun z => by cases z) rfl rfl (by decide) (pc' := 7) rfl (fun n σ' z => ?_) (fun v σ' z => by cases z.1)
  obtain ⟨z1, rfl⟩ := z
  cases z1
  exact ⟨15, 2, hc_state_3, gv_isr _ _⟩
set_option maxRecDepth 20000 in
theorem hr_forget (r : Int32) {σ σ1 : gS} (h : gv_K m_G_forget [.ref 0] σ (gv_is (.inl (some (.int r))) σ1)) : gv_K m_L_forget [.ref 0, .ref 66] σ (gv_is (.inl (some (.int 0))) (gs_L σ1 66 0 r.toInt64)) := by
  refine gv_aload_n (n := 1) (pc' := 1) (by decide +kernel) rfl rfl ?_
  refine gv_iconst (n := 0) (v := 0) (pc' := 2) (by decide +kernel) (by decide) rfl ?_
  refine gv_aload_n (n := 0) (pc' := 3) (by decide +kernel) rfl rfl ?_
  refine gv_callC (k' := 1) (w' := false) (gv_mkV (by decide) md_G_forget (Or.inl ml_12_48) vd_G_forget) h (by decide +kernel) rfl rfl rfl (Nat.le_of_ble_eq_true rfl) (Nat.le_of_ble_eq_true rfl) (by decide) rfl (fun z => by cases z) rfl rfl (by decide) (pc' := 6) rfl (fun n σ' z => by cases z.1) (fun v σ' z => ?_)
  obtain ⟨z1, rfl⟩ := z
  cases z1
  refine gv_i2l (pc' := 7) (by decide +kernel) rfl ?_
  refine gj_last (0) (pc' := 8) (by decide +kernel) rfl lc_in0 rfl rfl ?_
  refine gv_goto (off := 6) (tgt := 14) (by decide +kernel) (by decide) ?_
  refine gv_iconst (n := 0) (v := 0) (pc' := 15) (by decide +kernel) (by decide) rfl ?_
  exact gv_iret .int (by decide +kernel) rfl rfl (by decide) (by decide) (gv_isr _ _)
theorem hc_forget_1 : gv_ct m_L_forget 3 1 11 1 := ⟨[], 0, 8, 18, [], rfl, (fun y hy => by cases hy), ⟨by decide, by decide⟩, by decide, ⟨"java/lang/IllegalStateException", gv_i3 65 rfl rfl, gv_i3 77 rfl rfl⟩, 2, 1, 1, by decide, (Or.inl ⟨2, rfl, rfl, by decide +kernel⟩), by decide +kernel, by decide, by decide +kernel⟩
set_option maxRecDepth 20000 in
theorem ht_forget_1 {σ σ1 : gS} (h : gv_K m_G_forget [.ref 0] σ (gv_is (.inr 1) σ1)) : gv_K m_L_forget [.ref 0, .ref 66] σ (gv_is (.inl (some (.int 1))) σ1) := by
  refine gv_aload_n (n := 1) (pc' := 1) (by decide +kernel) rfl rfl ?_
  refine gv_iconst (n := 0) (v := 0) (pc' := 2) (by decide +kernel) (by decide) rfl ?_
  refine gv_aload_n (n := 0) (pc' := 3) (by decide +kernel) rfl rfl ?_
  refine gv_callC (k' := 1) (w' := false) (gv_mkV (by decide) md_G_forget (Or.inl ml_12_48) vd_G_forget) h (by decide +kernel) rfl rfl rfl (Nat.le_of_ble_eq_true rfl) (Nat.le_of_ble_eq_true rfl) (by decide) rfl (fun z => by cases z) rfl rfl (by decide) (pc' := 6) rfl (fun n σ' z => ?_) (fun v σ' z => by cases z.1)
  obtain ⟨z1, rfl⟩ := z
  cases z1
  exact ⟨11, 1, hc_forget_1, gv_isr _ _⟩
set_option maxRecDepth 20000 in
theorem hr_check (r : Int32) {σ σ1 : gS} (h : gv_K m_G_check [.ref 0] σ (gv_is (.inl (some (.int r))) σ1)) : gv_K m_L_check [.ref 0, .ref 66] σ (gv_is (.inl (some (.int 0))) (gs_L σ1 66 0 r.toInt64)) := by
  refine gv_aload_n (n := 1) (pc' := 1) (by decide +kernel) rfl rfl ?_
  refine gv_iconst (n := 0) (v := 0) (pc' := 2) (by decide +kernel) (by decide) rfl ?_
  refine gv_aload_n (n := 0) (pc' := 3) (by decide +kernel) rfl rfl ?_
  refine gv_callC (k' := 1) (w' := false) (gv_mkV (by decide) md_G_check (Or.inl ml_12_52) vd_G_check) h (by decide +kernel) rfl rfl rfl (Nat.le_of_ble_eq_true rfl) (Nat.le_of_ble_eq_true rfl) (by decide) rfl (fun z => by cases z) rfl rfl (by decide) (pc' := 6) rfl (fun n σ' z => by cases z.1) (fun v σ' z => ?_)
  obtain ⟨z1, rfl⟩ := z
  cases z1
  refine gv_i2l (pc' := 7) (by decide +kernel) rfl ?_
  refine gj_last (0) (pc' := 8) (by decide +kernel) rfl lc_in0 rfl rfl ?_
  refine gv_goto (off := 6) (tgt := 14) (by decide +kernel) (by decide) ?_
  refine gv_iconst (n := 0) (v := 0) (pc' := 15) (by decide +kernel) (by decide) rfl ?_
  exact gv_iret .int (by decide +kernel) rfl rfl (by decide) (by decide) (gv_isr _ _)
theorem hc_check_1 : gv_ct m_L_check 3 1 11 1 := ⟨[], 0, 8, 18, [], rfl, (fun y hy => by cases hy), ⟨by decide, by decide⟩, by decide, ⟨"java/lang/IllegalStateException", gv_i3 65 rfl rfl, gv_i3 77 rfl rfl⟩, 2, 1, 1, by decide, (Or.inl ⟨2, rfl, rfl, by decide +kernel⟩), by decide +kernel, by decide, by decide +kernel⟩
set_option maxRecDepth 20000 in
theorem ht_check_1 {σ σ1 : gS} (h : gv_K m_G_check [.ref 0] σ (gv_is (.inr 1) σ1)) : gv_K m_L_check [.ref 0, .ref 66] σ (gv_is (.inl (some (.int 1))) σ1) := by
  refine gv_aload_n (n := 1) (pc' := 1) (by decide +kernel) rfl rfl ?_
  refine gv_iconst (n := 0) (v := 0) (pc' := 2) (by decide +kernel) (by decide) rfl ?_
  refine gv_aload_n (n := 0) (pc' := 3) (by decide +kernel) rfl rfl ?_
  refine gv_callC (k' := 1) (w' := false) (gv_mkV (by decide) md_G_check (Or.inl ml_12_52) vd_G_check) h (by decide +kernel) rfl rfl rfl (Nat.le_of_ble_eq_true rfl) (Nat.le_of_ble_eq_true rfl) (by decide) rfl (fun z => by cases z) rfl rfl (by decide) (pc' := 6) rfl (fun n σ' z => ?_) (fun v σ' z => by cases z.1)
  obtain ⟨z1, rfl⟩ := z
  cases z1
  exact ⟨11, 1, hc_check_1, gv_isr _ _⟩
set_option maxRecDepth 20000 in
theorem hr_reaches (i j : Int32) (r : Int32) {σ σ1 : gS} (h : gv_K m_G_reaches [.ref 0, .int i, .int j] σ (gv_is (.inl (some (.int r))) σ1)) : gv_K m_L_reaches [.ref 0, .int i, .int j, .ref 66] σ (gv_is (.inl (some (.int 0))) (gs_L σ1 66 0 (if r = 0 then 0 else 1))) := by
  refine gv_aload_n (n := 3) (pc' := 1) (by decide +kernel) rfl rfl ?_
  refine gv_iconst (n := 0) (v := 0) (pc' := 2) (by decide +kernel) (by decide) rfl ?_
  refine gv_aload_n (n := 0) (pc' := 3) (by decide +kernel) rfl rfl ?_
  refine gv_iload_n (n := 1) (pc' := 4) (by decide +kernel) rfl rfl ?_
  refine gv_iload_n (n := 2) (pc' := 5) (by decide +kernel) rfl rfl ?_
  refine gv_callC (k' := 1) (w' := false) (gv_mkV (by decide) md_G_reaches (Or.inl ml_12_55) vd_G_reaches) h (by decide +kernel) rfl rfl rfl (Nat.le_of_ble_eq_true rfl) (Nat.le_of_ble_eq_true rfl) (by decide) rfl (fun z => by cases z) rfl rfl (by decide) (pc' := 8) rfl (fun n σ' z => by cases z.1) (fun v σ' z => ?_)
  obtain ⟨z1, rfl⟩ := z
  cases z1
  refine gv_if_eq (off := 7) (tgt := 15) (pc' := 11) (by decide +kernel) (by decide) rfl (fun h8 => ?_) (fun h8 => ?_)
  · refine gv_lconst (n := 0) (v := 0) (pc' := 16) (by decide +kernel) (by decide) rfl ?_
    refine gj_last (0) (pc' := 17) (by decide +kernel) rfl lc_in0 rfl rfl ?_
    refine gv_goto (off := 11) (tgt := 28) (by decide +kernel) (by decide) ?_
    refine gv_iconst (n := 0) (v := 0) (pc' := 29) (by decide +kernel) (by decide) rfl ?_
    exact gv_iret .int (by decide +kernel) rfl rfl (by decide) (by decide) (gv_isv rfl (by rw [if_pos h8]))
  · refine gv_lconst (n := 1) (v := 1) (pc' := 12) (by decide +kernel) (by decide) rfl ?_
    refine gv_goto (off := 4) (tgt := 16) (by decide +kernel) (by decide) ?_
    refine gj_last (0) (pc' := 17) (by decide +kernel) rfl lc_in0 rfl rfl ?_
    refine gv_goto (off := 11) (tgt := 28) (by decide +kernel) (by decide) ?_
    refine gv_iconst (n := 0) (v := 0) (pc' := 29) (by decide +kernel) (by decide) rfl ?_
    exact gv_iret .int (by decide +kernel) rfl rfl (by decide) (by decide) (gv_isv rfl (by rw [if_neg h8]))
theorem hc_reaches_1 : gv_ct m_L_reaches 5 1 20 1 := ⟨[], 0, 17, 18, [(0, 17, 24, 20)], rfl, (fun y hy => by cases hy), ⟨by decide, by decide⟩, by decide, ⟨"java/lang/IllegalStateException", gv_i3 65 rfl rfl, gv_i3 77 rfl rfl⟩, 4, 2, 1, by decide, (Or.inr ⟨rfl, by decide +kernel⟩), by decide +kernel, by decide, by decide +kernel⟩
set_option maxRecDepth 20000 in
theorem ht_reaches_1 (i j : Int32) {σ σ1 : gS} (h : gv_K m_G_reaches [.ref 0, .int i, .int j] σ (gv_is (.inr 1) σ1)) : gv_K m_L_reaches [.ref 0, .int i, .int j, .ref 66] σ (gv_is (.inl (some (.int 1))) σ1) := by
  refine gv_aload_n (n := 3) (pc' := 1) (by decide +kernel) rfl rfl ?_
  refine gv_iconst (n := 0) (v := 0) (pc' := 2) (by decide +kernel) (by decide) rfl ?_
  refine gv_aload_n (n := 0) (pc' := 3) (by decide +kernel) rfl rfl ?_
  refine gv_iload_n (n := 1) (pc' := 4) (by decide +kernel) rfl rfl ?_
  refine gv_iload_n (n := 2) (pc' := 5) (by decide +kernel) rfl rfl ?_
  refine gv_callC (k' := 1) (w' := false) (gv_mkV (by decide) md_G_reaches (Or.inl ml_12_55) vd_G_reaches) h (by decide +kernel) rfl rfl rfl (Nat.le_of_ble_eq_true rfl) (Nat.le_of_ble_eq_true rfl) (by decide) rfl (fun z => by cases z) rfl rfl (by decide) (pc' := 8) rfl (fun n σ' z => ?_) (fun v σ' z => by cases z.1)
  obtain ⟨z1, rfl⟩ := z
  cases z1
  exact ⟨20, 1, hc_reaches_1, gv_isr _ _⟩
theorem hc_reaches_2 : gv_ct m_L_reaches 5 2 24 2 := ⟨[(0, 17, 20, 18)], 0, 17, 20, [], rfl, (List.forall_mem_cons.mpr ⟨⟨⟨by decide, by decide⟩, by decide, "java/lang/IllegalStateException", gv_i3 65 rfl rfl, gv_inn 2 rfl⟩, (fun y hy => by cases hy)⟩), ⟨by decide, by decide⟩, by decide, ⟨"java/lang/IndexOutOfBoundsException", gv_i3 66 rfl rfl, gv_i3 96 rfl rfl⟩, 4, 2, 2, by decide, (Or.inr ⟨rfl, by decide +kernel⟩), by decide +kernel, by decide, by decide +kernel⟩
set_option maxRecDepth 20000 in
theorem ht_reaches_2 (i j : Int32) {σ σ1 : gS} (h : gv_K m_G_reaches [.ref 0, .int i, .int j] σ (gv_is (.inr 2) σ1)) : gv_K m_L_reaches [.ref 0, .int i, .int j, .ref 66] σ (gv_is (.inl (some (.int 2))) σ1) := by
  refine gv_aload_n (n := 3) (pc' := 1) (by decide +kernel) rfl rfl ?_
  refine gv_iconst (n := 0) (v := 0) (pc' := 2) (by decide +kernel) (by decide) rfl ?_
  refine gv_aload_n (n := 0) (pc' := 3) (by decide +kernel) rfl rfl ?_
  refine gv_iload_n (n := 1) (pc' := 4) (by decide +kernel) rfl rfl ?_
  refine gv_iload_n (n := 2) (pc' := 5) (by decide +kernel) rfl rfl ?_
  refine gv_callC (k' := 1) (w' := false) (gv_mkV (by decide) md_G_reaches (Or.inl ml_12_55) vd_G_reaches) h (by decide +kernel) rfl rfl rfl (Nat.le_of_ble_eq_true rfl) (Nat.le_of_ble_eq_true rfl) (by decide) rfl (fun z => by cases z) rfl rfl (by decide) (pc' := 8) rfl (fun n σ' z => ?_) (fun v σ' z => by cases z.1)
  obtain ⟨z1, rfl⟩ := z
  cases z1
  exact ⟨24, 2, hc_reaches_2, gv_isr _ _⟩
set_option maxRecDepth 20000 in
theorem hr_mark (i : Int32) (r : Int32) {σ σ1 : gS} (h : gv_K m_G_mark [.ref 0, .int i] σ (gv_is (.inl (some (.int r))) σ1)) : gv_K m_L_mark [.ref 0, .int i, .ref 66] σ (gv_is (.inl (some (.int 0))) (gs_L σ1 66 0 r.toInt64)) := by
  refine gv_aload_n (n := 2) (pc' := 1) (by decide +kernel) rfl rfl ?_
  refine gv_iconst (n := 0) (v := 0) (pc' := 2) (by decide +kernel) (by decide) rfl ?_
  refine gv_aload_n (n := 0) (pc' := 3) (by decide +kernel) rfl rfl ?_
  refine gv_iload_n (n := 1) (pc' := 4) (by decide +kernel) rfl rfl ?_
  refine gv_callC (k' := 1) (w' := false) (gv_mkV (by decide) md_G_mark (Or.inl ml_12_59) vd_G_mark) h (by decide +kernel) rfl rfl rfl (Nat.le_of_ble_eq_true rfl) (Nat.le_of_ble_eq_true rfl) (by decide) rfl (fun z => by cases z) rfl rfl (by decide) (pc' := 7) rfl (fun n σ' z => by cases z.1) (fun v σ' z => ?_)
  obtain ⟨z1, rfl⟩ := z
  cases z1
  refine gv_i2l (pc' := 8) (by decide +kernel) rfl ?_
  refine gj_last (0) (pc' := 9) (by decide +kernel) rfl lc_in0 rfl rfl ?_
  refine gv_goto (off := 9) (tgt := 18) (by decide +kernel) (by decide) ?_
  refine gv_iconst (n := 0) (v := 0) (pc' := 19) (by decide +kernel) (by decide) rfl ?_
  exact gv_iret .int (by decide +kernel) rfl rfl (by decide) (by decide) (gv_isr _ _)
theorem hc_mark_1 : gv_ct m_L_mark 4 1 12 1 := ⟨[], 0, 9, 18, [(0, 9, 15, 20)], rfl, (fun y hy => by cases hy), ⟨by decide, by decide⟩, by decide, ⟨"java/lang/IllegalStateException", gv_i3 65 rfl rfl, gv_i3 77 rfl rfl⟩, 3, 1, 1, by decide, (Or.inl ⟨3, rfl, rfl, by decide +kernel⟩), by decide +kernel, by decide, by decide +kernel⟩
set_option maxRecDepth 20000 in
theorem ht_mark_1 (i : Int32) {σ σ1 : gS} (h : gv_K m_G_mark [.ref 0, .int i] σ (gv_is (.inr 1) σ1)) : gv_K m_L_mark [.ref 0, .int i, .ref 66] σ (gv_is (.inl (some (.int 1))) σ1) := by
  refine gv_aload_n (n := 2) (pc' := 1) (by decide +kernel) rfl rfl ?_
  refine gv_iconst (n := 0) (v := 0) (pc' := 2) (by decide +kernel) (by decide) rfl ?_
  refine gv_aload_n (n := 0) (pc' := 3) (by decide +kernel) rfl rfl ?_
  refine gv_iload_n (n := 1) (pc' := 4) (by decide +kernel) rfl rfl ?_
  refine gv_callC (k' := 1) (w' := false) (gv_mkV (by decide) md_G_mark (Or.inl ml_12_59) vd_G_mark) h (by decide +kernel) rfl rfl rfl (Nat.le_of_ble_eq_true rfl) (Nat.le_of_ble_eq_true rfl) (by decide) rfl (fun z => by cases z) rfl rfl (by decide) (pc' := 7) rfl (fun n σ' z => ?_) (fun v σ' z => by cases z.1)
  obtain ⟨z1, rfl⟩ := z
  cases z1
  exact ⟨12, 1, hc_mark_1, gv_isr _ _⟩
theorem hc_mark_2 : gv_ct m_L_mark 4 2 15 2 := ⟨[(0, 9, 12, 18)], 0, 9, 20, [], rfl, (List.forall_mem_cons.mpr ⟨⟨⟨by decide, by decide⟩, by decide, "java/lang/IllegalStateException", gv_i3 65 rfl rfl, gv_inn 2 rfl⟩, (fun y hy => by cases hy)⟩), ⟨by decide, by decide⟩, by decide, ⟨"java/lang/IndexOutOfBoundsException", gv_i3 66 rfl rfl, gv_i3 96 rfl rfl⟩, 3, 1, 2, by decide, (Or.inl ⟨3, rfl, rfl, by decide +kernel⟩), by decide +kernel, by decide, by decide +kernel⟩
set_option maxRecDepth 20000 in
theorem ht_mark_2 (i : Int32) {σ σ1 : gS} (h : gv_K m_G_mark [.ref 0, .int i] σ (gv_is (.inr 2) σ1)) : gv_K m_L_mark [.ref 0, .int i, .ref 66] σ (gv_is (.inl (some (.int 2))) σ1) := by
  refine gv_aload_n (n := 2) (pc' := 1) (by decide +kernel) rfl rfl ?_
  refine gv_iconst (n := 0) (v := 0) (pc' := 2) (by decide +kernel) (by decide) rfl ?_
  refine gv_aload_n (n := 0) (pc' := 3) (by decide +kernel) rfl rfl ?_
  refine gv_iload_n (n := 1) (pc' := 4) (by decide +kernel) rfl rfl ?_
  refine gv_callC (k' := 1) (w' := false) (gv_mkV (by decide) md_G_mark (Or.inl ml_12_59) vd_G_mark) h (by decide +kernel) rfl rfl rfl (Nat.le_of_ble_eq_true rfl) (Nat.le_of_ble_eq_true rfl) (by decide) rfl (fun z => by cases z) rfl rfl (by decide) (pc' := 7) rfl (fun n σ' z => ?_) (fun v σ' z => by cases z.1)
  obtain ⟨z1, rfl⟩ := z
  cases z1
  exact ⟨15, 2, hc_mark_2, gv_isr _ _⟩
set_option maxRecDepth 20000 in
theorem hr_cut (r : Int32) {σ σ1 : gS} (h : gv_K m_G_cut [.ref 0] σ (gv_is (.inl (some (.int r))) σ1)) : gv_K m_L_cut [.ref 0, .ref 66] σ (gv_is (.inl (some (.int 0))) (gs_L σ1 66 0 r.toInt64)) := by
  refine gv_aload_n (n := 1) (pc' := 1) (by decide +kernel) rfl rfl ?_
  refine gv_iconst (n := 0) (v := 0) (pc' := 2) (by decide +kernel) (by decide) rfl ?_
  refine gv_aload_n (n := 0) (pc' := 3) (by decide +kernel) rfl rfl ?_
  refine gv_callC (k' := 1) (w' := false) (gv_mkV (by decide) md_G_cut (Or.inl ml_12_62) vd_G_cut) h (by decide +kernel) rfl rfl rfl (Nat.le_of_ble_eq_true rfl) (Nat.le_of_ble_eq_true rfl) (by decide) rfl (fun z => by cases z) rfl rfl (by decide) (pc' := 6) rfl (fun n σ' z => by cases z.1) (fun v σ' z => ?_)
  obtain ⟨z1, rfl⟩ := z
  cases z1
  refine gv_i2l (pc' := 7) (by decide +kernel) rfl ?_
  refine gj_last (0) (pc' := 8) (by decide +kernel) rfl lc_in0 rfl rfl ?_
  refine gv_goto (off := 6) (tgt := 14) (by decide +kernel) (by decide) ?_
  refine gv_iconst (n := 0) (v := 0) (pc' := 15) (by decide +kernel) (by decide) rfl ?_
  exact gv_iret .int (by decide +kernel) rfl rfl (by decide) (by decide) (gv_isr _ _)
theorem hc_cut_1 : gv_ct m_L_cut 3 1 11 1 := ⟨[], 0, 8, 18, [], rfl, (fun y hy => by cases hy), ⟨by decide, by decide⟩, by decide, ⟨"java/lang/IllegalStateException", gv_i3 65 rfl rfl, gv_i3 77 rfl rfl⟩, 2, 1, 1, by decide, (Or.inl ⟨2, rfl, rfl, by decide +kernel⟩), by decide +kernel, by decide, by decide +kernel⟩
set_option maxRecDepth 20000 in
theorem ht_cut_1 {σ σ1 : gS} (h : gv_K m_G_cut [.ref 0] σ (gv_is (.inr 1) σ1)) : gv_K m_L_cut [.ref 0, .ref 66] σ (gv_is (.inl (some (.int 1))) σ1) := by
  refine gv_aload_n (n := 1) (pc' := 1) (by decide +kernel) rfl rfl ?_
  refine gv_iconst (n := 0) (v := 0) (pc' := 2) (by decide +kernel) (by decide) rfl ?_
  refine gv_aload_n (n := 0) (pc' := 3) (by decide +kernel) rfl rfl ?_
  refine gv_callC (k' := 1) (w' := false) (gv_mkV (by decide) md_G_cut (Or.inl ml_12_62) vd_G_cut) h (by decide +kernel) rfl rfl rfl (Nat.le_of_ble_eq_true rfl) (Nat.le_of_ble_eq_true rfl) (by decide) rfl (fun z => by cases z) rfl rfl (by decide) (pc' := 6) rfl (fun n σ' z => ?_) (fun v σ' z => by cases z.1)
  obtain ⟨z1, rfl⟩ := z
  cases z1
  exact ⟨11, 1, hc_cut_1, gv_isr _ _⟩
set_option maxRecDepth 20000 in
theorem hr_rewrite (r : Int32) {σ σ1 : gS} (h : gv_K m_G_rewrite [.ref 0] σ (gv_is (.inl (some (.int r))) σ1)) : gv_K m_L_rewrite [.ref 0, .ref 66] σ (gv_is (.inl (some (.int 0))) (gs_L σ1 66 0 r.toInt64)) := by
  refine gv_aload_n (n := 1) (pc' := 1) (by decide +kernel) rfl rfl ?_
  refine gv_iconst (n := 0) (v := 0) (pc' := 2) (by decide +kernel) (by decide) rfl ?_
  refine gv_aload_n (n := 0) (pc' := 3) (by decide +kernel) rfl rfl ?_
  refine gv_callC (k' := 1) (w' := false) (gv_mkV (by decide) md_G_rewrite (Or.inl ml_12_65) vd_G_rewrite) h (by decide +kernel) rfl rfl rfl (Nat.le_of_ble_eq_true rfl) (Nat.le_of_ble_eq_true rfl) (by decide) rfl (fun z => by cases z) rfl rfl (by decide) (pc' := 6) rfl (fun n σ' z => by cases z.1) (fun v σ' z => ?_)
  obtain ⟨z1, rfl⟩ := z
  cases z1
  refine gv_i2l (pc' := 7) (by decide +kernel) rfl ?_
  refine gj_last (0) (pc' := 8) (by decide +kernel) rfl lc_in0 rfl rfl ?_
  refine gv_goto (off := 6) (tgt := 14) (by decide +kernel) (by decide) ?_
  refine gv_iconst (n := 0) (v := 0) (pc' := 15) (by decide +kernel) (by decide) rfl ?_
  exact gv_iret .int (by decide +kernel) rfl rfl (by decide) (by decide) (gv_isr _ _)
theorem hc_rewrite_1 : gv_ct m_L_rewrite 3 1 11 1 := ⟨[], 0, 8, 18, [], rfl, (fun y hy => by cases hy), ⟨by decide, by decide⟩, by decide, ⟨"java/lang/IllegalStateException", gv_i3 65 rfl rfl, gv_i3 77 rfl rfl⟩, 2, 1, 1, by decide, (Or.inl ⟨2, rfl, rfl, by decide +kernel⟩), by decide +kernel, by decide, by decide +kernel⟩
set_option maxRecDepth 20000 in
theorem ht_rewrite_1 {σ σ1 : gS} (h : gv_K m_G_rewrite [.ref 0] σ (gv_is (.inr 1) σ1)) : gv_K m_L_rewrite [.ref 0, .ref 66] σ (gv_is (.inl (some (.int 1))) σ1) := by
  refine gv_aload_n (n := 1) (pc' := 1) (by decide +kernel) rfl rfl ?_
  refine gv_iconst (n := 0) (v := 0) (pc' := 2) (by decide +kernel) (by decide) rfl ?_
  refine gv_aload_n (n := 0) (pc' := 3) (by decide +kernel) rfl rfl ?_
  refine gv_callC (k' := 1) (w' := false) (gv_mkV (by decide) md_G_rewrite (Or.inl ml_12_65) vd_G_rewrite) h (by decide +kernel) rfl rfl rfl (Nat.le_of_ble_eq_true rfl) (Nat.le_of_ble_eq_true rfl) (by decide) rfl (fun z => by cases z) rfl rfl (by decide) (pc' := 6) rfl (fun n σ' z => ?_) (fun v σ' z => by cases z.1)
  obtain ⟨z1, rfl⟩ := z
  cases z1
  exact ⟨11, 1, hc_rewrite_1, gv_isr _ _⟩
set_option maxRecDepth 20000 in
theorem hr_home (i : Int32) (r : Int32) {σ σ1 : gS} (h : gv_K m_G_home [.ref 0, .int i] σ (gv_is (.inl (some (.int r))) σ1)) : gv_K m_L_home [.ref 0, .int i, .ref 66] σ (gv_is (.inl (some (.int 0))) (gs_L σ1 66 0 r.toInt64)) := by
  refine gv_aload_n (n := 2) (pc' := 1) (by decide +kernel) rfl rfl ?_
  refine gv_iconst (n := 0) (v := 0) (pc' := 2) (by decide +kernel) (by decide) rfl ?_
  refine gv_aload_n (n := 0) (pc' := 3) (by decide +kernel) rfl rfl ?_
  refine gv_iload_n (n := 1) (pc' := 4) (by decide +kernel) rfl rfl ?_
  refine gv_callC (k' := 1) (w' := false) (gv_mkV (by decide) md_G_home (Or.inl ml_12_68) vd_G_home) h (by decide +kernel) rfl rfl rfl (Nat.le_of_ble_eq_true rfl) (Nat.le_of_ble_eq_true rfl) (by decide) rfl (fun z => by cases z) rfl rfl (by decide) (pc' := 7) rfl (fun n σ' z => by cases z.1) (fun v σ' z => ?_)
  obtain ⟨z1, rfl⟩ := z
  cases z1
  refine gv_i2l (pc' := 8) (by decide +kernel) rfl ?_
  refine gj_last (0) (pc' := 9) (by decide +kernel) rfl lc_in0 rfl rfl ?_
  refine gv_goto (off := 6) (tgt := 15) (by decide +kernel) (by decide) ?_
  refine gv_iconst (n := 0) (v := 0) (pc' := 16) (by decide +kernel) (by decide) rfl ?_
  exact gv_iret .int (by decide +kernel) rfl rfl (by decide) (by decide) (gv_isr _ _)
theorem hc_home_2 : gv_ct m_L_home 4 2 12 1 := ⟨[], 0, 9, 20, [], rfl, (fun y hy => by cases hy), ⟨by decide, by decide⟩, by decide, ⟨"java/lang/IndexOutOfBoundsException", gv_i3 66 rfl rfl, gv_i3 96 rfl rfl⟩, 3, 1, 1, by decide, (Or.inl ⟨3, rfl, rfl, by decide +kernel⟩), by decide +kernel, by decide, by decide +kernel⟩
set_option maxRecDepth 20000 in
theorem ht_home_2 (i : Int32) {σ σ1 : gS} (h : gv_K m_G_home [.ref 0, .int i] σ (gv_is (.inr 2) σ1)) : gv_K m_L_home [.ref 0, .int i, .ref 66] σ (gv_is (.inl (some (.int 1))) σ1) := by
  refine gv_aload_n (n := 2) (pc' := 1) (by decide +kernel) rfl rfl ?_
  refine gv_iconst (n := 0) (v := 0) (pc' := 2) (by decide +kernel) (by decide) rfl ?_
  refine gv_aload_n (n := 0) (pc' := 3) (by decide +kernel) rfl rfl ?_
  refine gv_iload_n (n := 1) (pc' := 4) (by decide +kernel) rfl rfl ?_
  refine gv_callC (k' := 1) (w' := false) (gv_mkV (by decide) md_G_home (Or.inl ml_12_68) vd_G_home) h (by decide +kernel) rfl rfl rfl (Nat.le_of_ble_eq_true rfl) (Nat.le_of_ble_eq_true rfl) (by decide) rfl (fun z => by cases z) rfl rfl (by decide) (pc' := 7) rfl (fun n σ' z => ?_) (fun v σ' z => by cases z.1)
  obtain ⟨z1, rfl⟩ := z
  cases z1
  exact ⟨12, 1, hc_home_2, gv_isr _ _⟩
