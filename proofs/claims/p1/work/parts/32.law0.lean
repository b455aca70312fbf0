theorem lc_cmp0 {x y : Int64} (h : x = y) : lg_cmp x y = 0 := by subst h; simp [lg_cmp]
def lc_rd (X : List Int32) (x a : Int32) : Prop := vp_in x X.length ∧ X.getD x.toNatClampNeg 0 = a
theorem lc_sld {μ : gM} {k pc pc' : Nat} {w : Bool} {ls : List (Option Value)} {st : List Value} {σ : gS} {Q : gQ → gS → Prop} {X : List Int32} {x a : Int32} (hX : σ.2.2.2 = X) (hx : lc_rd X x a) (hd : decode μ.cc pc = .ok (.iaload, 1)) (hp : pc + 1 = pc')
    (h : gv_V μ k w pc' ls (.int a :: st) σ Q) : gv_V μ k w pc ls (.int x :: .ref 900 :: st) σ Q := by
  subst hX
  obtain ⟨h1, rfl⟩ := hx
  exact gv_sld _ hd h1 rfl hp h
def lc_lo (x : Int32) : List (Option Value) := [some (.ref 900), some (.ref 0), some (.ref 41), some (.ref 66), some (.int x), none, none]
def lc_i (μ1 μ2 : gM) (As : List Value) (X : List Int32) (σ : gS) (P : gS → Prop) : Prop := ∃ (r : Int32) (σ1 σ2 : gS), gv_K μ1 (.ref 0 :: As) σ (gv_is (.inl (some (.int r))) σ1) ∧ σ1.2.2.2 = X ∧ gv_K μ2 (.ref 41 :: As) σ1 (gv_is (.inl (some (.int r))) σ2) ∧ P σ2
def lc_l (μ1 μ2 : gM) (As : List Value) (X : List Int32) (σ : gS) (P : gS → Prop) : Prop := ∃ (r : Int64) (σ1 σ2 : gS), gv_K μ1 (.ref 0 :: As) σ (gv_is (.inl (some (.long r))) σ1) ∧ σ1.2.2.2 = X ∧ gv_K μ2 (.ref 41 :: As) σ1 (gv_is (.inl (some (.long r))) σ2) ∧ P σ2
def lc_h (μ1 μ2 : gM) (As : List Value) (X : List Int32) (σ : gS) (P : gS → Prop) : Prop := ∃ (v b : Int32) (σ1 σ2 : gS), gv_K μ1 (.ref 0 :: (As ++ [.ref 66])) σ (gv_is (.inl (some (.int v))) σ1) ∧ σ1.2.2.2 = X ∧ gv_K μ2 (.ref 41 :: As) σ1 (gv_is (.inl (some (.int b))) σ2) ∧ gI σ2 41 0 = v ∧ (v = 0 → gL σ2 66 0 = b.toInt64) ∧ P σ2
def lc_z (μ1 μ2 : gM) (As : List Value) (X : List Int32) (σ : gS) (P : gS → Prop) : Prop := ∃ (v b : Int32) (σ1 σ2 : gS), gv_K μ1 (.ref 0 :: (As ++ [.ref 66])) σ (gv_is (.inl (some (.int v))) σ1) ∧ σ1.2.2.2 = X ∧ gv_K μ2 (.ref 41 :: As) σ1 (gv_is (.inl (some (.int b))) σ2) ∧ gI σ2 41 0 = v ∧ (v = 0 → gL σ2 66 0 = if b = 0 then 0 else 1) ∧ P σ2
def lc_v (μ1 μ2 : gM) (As : List Value) (X : List Int32) (σ : gS) (P : gS → Prop) : Prop := ∃ (v : Int32) (σ1 σ2 : gS), gv_K μ1 (.ref 0 :: As) σ (gv_is (.inl (some (.int v))) σ1) ∧ σ1.2.2.2 = X ∧ gv_K μ2 (.ref 41 :: As) σ1 (gv_is (.inl none) σ2) ∧ gI σ2 41 0 = v ∧ P σ2
theorem lc_forget {ls : List (Option Value)} {y z : Option Value} (i : Nat) (v : Value) (h : (ls ++ [none, none])[i]? = some (some v)) : (ls ++ [y, z])[i]? = some (some v) := by
  by_cases hi : i < ls.length
  · rw [List.getElem?_append_left hi] at h ⊢; exact h
  · rw [List.getElem?_append_right (by omega)] at h
    match hj : i - ls.length, h with
    | 0, h => simp at h
    | 1, h => simp at h
    | j + 2, h => simp at h
set_option maxRecDepth 20000 in
theorem lb_word {X : List Int32} {x a : Int32} {σ : gS} {k : Nat} {P : gS → Prop} {Q : gQ → gS → Prop} (hX : σ.2.2.2 = X) (r1 : lc_rd X (x + 1) a) (h : lc_i m_G_word m_M_word [.int a] X σ P) (he : ∀ σ2, P σ2 → gv_V m_L_law (k + 1) false 1191 (lc_lo x) [] σ2 Q) : gv_V m_L_law (k + 2) false 144 (lc_lo x) [] σ Q := by
  obtain ⟨r, σ1, σ2, h1, h2, h3, h6⟩ := h
  refine gv_aload_n (n := 1) (pc' := 145) (by decide +kernel) rfl rfl ?_
  refine gv_aload_n (n := 0) (pc' := 146) (by decide +kernel) rfl rfl ?_
  refine gv_iload (n := 4) (pc' := 148) (by decide +kernel) rfl rfl ?_
  refine gv_iconst (n := 1) (v := 1) (pc' := 149) (by decide +kernel) (by decide) rfl ?_
  refine gv_iadd (pc' := 150) (by decide +kernel) rfl ?_
  refine lc_sld (pc' := 151) hX r1 (by decide +kernel) rfl ?_
  refine gv_cvi (w' := false) (pc' := 154) (h1) md_G_word vd_G_word (Or.inl ml_12_75) (by decide +kernel) (by decide) rfl rfl rfl (Nat.le_of_ble_eq_true rfl) (Nat.le_of_ble_eq_true rfl) (Nat.le_add_left 1 _) rfl (fun z => by cases z) (by decide) rfl ?_
  refine gv_aload_n (n := 2) (pc' := 155) (by decide +kernel) rfl rfl ?_
  refine gv_aload_n (n := 0) (pc' := 156) (by decide +kernel) rfl rfl ?_
  refine gv_iload (n := 4) (pc' := 158) (by decide +kernel) rfl rfl ?_
  refine gv_iconst (n := 1) (v := 1) (pc' := 159) (by decide +kernel) (by decide) rfl ?_
  refine gv_iadd (pc' := 160) (by decide +kernel) rfl ?_
  refine lc_sld (pc' := 161) h2 r1 (by decide +kernel) rfl ?_
  refine gv_cvi (w' := false) (pc' := 164) (h3) md_M_word vd_M_word (Or.inl ml_12_78) (by decide +kernel) (by decide) rfl rfl rfl (Nat.le_of_ble_eq_true rfl) (Nat.le_of_ble_eq_true rfl) (Nat.le_add_left 1 _) rfl (fun z => by cases z) (by decide) rfl ?_
  refine gv_icmp_eq (off := 1027) (tgt := 1191) (pc' := 167) (by decide +kernel) (by decide) rfl (fun _ => ?_) (fun z => by first | exact absurd z rfl | exact absurd rfl z)
  exact gv_keep (Nat.le_succ _) (he _ h6)
set_option maxRecDepth 20000 in
theorem lb_again {X : List Int32} {x a b : Int32} {σ : gS} {k : Nat} {P : gS → Prop} {Q : gQ → gS → Prop} (hX : σ.2.2.2 = X) (r1 : lc_rd X (x + 1) a) (r2 : lc_rd X (x + 2) b) (h : lc_h m_L_again m_M_again [.int a, .int b] X σ P) (he : ∀ σ2, P σ2 → gv_V m_L_law (k + 1) false 1191 (lc_lo x) [] σ2 Q) : gv_V m_L_law (k + 2) false 169 (lc_lo x) [] σ Q := by
  obtain ⟨v, b9, σ1, σ2, h1, h2, h3, h4, h5, h6⟩ := h
  refine gv_aload_n (n := 1) (pc' := 170) (by decide +kernel) rfl rfl ?_
  refine gv_aload_n (n := 0) (pc' := 171) (by decide +kernel) rfl rfl ?_
  refine gv_iload (n := 4) (pc' := 173) (by decide +kernel) rfl rfl ?_
  refine gv_iconst (n := 1) (v := 1) (pc' := 174) (by decide +kernel) (by decide) rfl ?_
  refine gv_iadd (pc' := 175) (by decide +kernel) rfl ?_
  refine lc_sld (pc' := 176) hX r1 (by decide +kernel) rfl ?_
  refine gv_aload_n (n := 0) (pc' := 177) (by decide +kernel) rfl rfl ?_
  refine gv_iload (n := 4) (pc' := 179) (by decide +kernel) rfl rfl ?_
  refine gv_iconst (n := 2) (v := 2) (pc' := 180) (by decide +kernel) (by decide) rfl ?_
  refine gv_iadd (pc' := 181) (by decide +kernel) rfl ?_
  refine lc_sld (pc' := 182) hX r2 (by decide +kernel) rfl ?_
  refine gv_aload_n (n := 3) (pc' := 183) (by decide +kernel) rfl rfl ?_
  refine gv_callS (k' := k + 1) (w' := false) (gv_mkS (by decide) md_L_again (Or.inl ml_12_79) sd_L_again) h1 (by decide +kernel) rfl (Nat.le_of_ble_eq_true rfl) (Nat.le_of_ble_eq_true rfl) (Nat.le_add_left 1 _) rfl (fun z => by cases z) (by decide) (pc' := 186) rfl (fun n σ' z => by cases z.1) (fun v' σ' z => ?_)
  obtain ⟨z1, rfl⟩ := z
  cases z1
  refine gv_istore (n := 5) (pc' := 188) (by decide +kernel) (by decide) rfl ?_
  refine gv_aload_n (n := 2) (pc' := 189) (by decide +kernel) rfl rfl ?_
  refine gv_aload_n (n := 0) (pc' := 190) (by decide +kernel) rfl rfl ?_
  refine gv_iload (n := 4) (pc' := 192) (by decide +kernel) rfl rfl ?_
  refine gv_iconst (n := 1) (v := 1) (pc' := 193) (by decide +kernel) (by decide) rfl ?_
  refine gv_iadd (pc' := 194) (by decide +kernel) rfl ?_
  refine lc_sld (pc' := 195) h2 r1 (by decide +kernel) rfl ?_
  refine gv_aload_n (n := 0) (pc' := 196) (by decide +kernel) rfl rfl ?_
  refine gv_iload (n := 4) (pc' := 198) (by decide +kernel) rfl rfl ?_
  refine gv_iconst (n := 2) (v := 2) (pc' := 199) (by decide +kernel) (by decide) rfl ?_
  refine gv_iadd (pc' := 200) (by decide +kernel) rfl ?_
  refine lc_sld (pc' := 201) h2 r2 (by decide +kernel) rfl ?_
  refine gv_cvi (w' := false) (pc' := 204) (h3) md_M_again vd_M_again (Or.inl ml_12_84) (by decide +kernel) (by decide) rfl rfl rfl (Nat.le_of_ble_eq_true rfl) (Nat.le_of_ble_eq_true rfl) (Nat.le_add_left 1 _) rfl (fun z => by cases z) (by decide) rfl ?_
  refine gv_istore (n := 6) (pc' := 206) (by decide +kernel) (by decide) rfl ?_
  refine gv_aload_n (n := 2) (pc' := 207) (by decide +kernel) rfl rfl ?_
  refine gv_cvi (w' := _) (pc' := 210) (c_M_thrown _) md_M_thrown vd_M_thrown (Or.inl ml_12_85) (by decide +kernel) (by decide) rfl rfl rfl (Nat.le_of_ble_eq_true rfl) (Nat.le_of_ble_eq_true rfl) (Nat.le_add_left 1 _) rfl (fun z => ⟨rfl, z⟩) (by decide) rfl ?_
  refine gv_iload (n := 5) (pc' := 212) (by decide +kernel) rfl rfl ?_
  refine gv_icmp_eq (off := 5) (tgt := 217) (pc' := 215) (by decide +kernel) (by decide) rfl (fun _ => ?_) (fun z => by first | exact absurd z h4 | exact absurd h4 z)
  refine gv_iload (n := 5) (pc' := 219) (by decide +kernel) rfl rfl ?_
  refine gv_if_ne (off := 15) (tgt := 234) (pc' := 222) (by decide +kernel) (by decide) rfl (fun h219 => ?_) (fun h219 => ?_)
  · refine gv_goto (off := 957) (tgt := 1191) (by decide +kernel) (by decide) ?_
    refine gv_less (lc_forget (ls := [some (.ref 900), some (.ref 0), some (.ref 41), some (.ref 66), some (.int x)])) ?_
    exact he _ h6
  · refine gv_aload_n (n := 3) (pc' := 223) (by decide +kernel) rfl rfl ?_
    refine gv_iconst (n := 0) (v := 0) (pc' := 224) (by decide +kernel) (by decide) rfl ?_
    refine gj_lald (0) (pc' := 225) (by decide +kernel) rfl lc_in0 rfl rfl ?_
    refine gv_iload (n := 6) (pc' := 227) (by decide +kernel) rfl rfl ?_
    refine gv_i2l (pc' := 228) (by decide +kernel) rfl ?_
    refine gv_lcmp (pc' := 229) (by decide +kernel) rfl ?_
    refine gv_if_eq (off := 5) (tgt := 234) (pc' := 232) (by decide +kernel) (by decide) rfl (fun _ => ?_) (fun z => by first | exact absurd z (lc_cmp0 (h5 h219)) | exact absurd (lc_cmp0 (h5 h219)) z)
    refine gv_goto (off := 957) (tgt := 1191) (by decide +kernel) (by decide) ?_
    refine gv_less (lc_forget (ls := [some (.ref 900), some (.ref 0), some (.ref 41), some (.ref 66), some (.int x)])) ?_
    exact he _ h6
set_option maxRecDepth 20000 in
theorem lb_clear {X : List Int32} {x : Int32} {σ : gS} {k : Nat} {P : gS → Prop} {Q : gQ → gS → Prop} (hX : σ.2.2.2 = X) (h : lc_i m_G_clear m_M_clear [] X σ P) (he : ∀ σ2, P σ2 → gv_V m_L_law (k + 1) false 1191 (lc_lo x) [] σ2 Q) : gv_V m_L_law (k + 2) false 237 (lc_lo x) [] σ Q := by
  obtain ⟨r, σ1, σ2, h1, h2, h3, h6⟩ := h
  refine gv_aload_n (n := 1) (pc' := 238) (by decide +kernel) rfl rfl ?_
  refine gv_cvi (w' := false) (pc' := 241) (h1) md_G_clear vd_G_clear (Or.inl ml_12_88) (by decide +kernel) (by decide) rfl rfl rfl (Nat.le_of_ble_eq_true rfl) (Nat.le_of_ble_eq_true rfl) (Nat.le_add_left 1 _) rfl (fun z => by cases z) (by decide) rfl ?_
  refine gv_aload_n (n := 2) (pc' := 242) (by decide +kernel) rfl rfl ?_
  refine gv_cvi (w' := false) (pc' := 245) (h3) md_M_clear vd_M_clear (Or.inl ml_12_91) (by decide +kernel) (by decide) rfl rfl rfl (Nat.le_of_ble_eq_true rfl) (Nat.le_of_ble_eq_true rfl) (Nat.le_add_left 1 _) rfl (fun z => by cases z) (by decide) rfl ?_
  refine gv_icmp_eq (off := 946) (tgt := 1191) (pc' := 248) (by decide +kernel) (by decide) rfl (fun _ => ?_) (fun z => by first | exact absurd z rfl | exact absurd rfl z)
  exact gv_keep (Nat.le_succ _) (he _ h6)
set_option maxRecDepth 20000 in
theorem lb_wordAt {X : List Int32} {x a : Int32} {σ : gS} {k : Nat} {P : gS → Prop} {Q : gQ → gS → Prop} (hX : σ.2.2.2 = X) (r1 : lc_rd X (x + 1) a) (h : lc_l m_G_wordAt m_M_wordAt [.int a] X σ P) (he : ∀ σ2, P σ2 → gv_V m_L_law (k + 1) false 1191 (lc_lo x) [] σ2 Q) : gv_V m_L_law (k + 2) false 250 (lc_lo x) [] σ Q := by
  obtain ⟨r, σ1, σ2, h1, h2, h3, h6⟩ := h
  refine gv_aload_n (n := 1) (pc' := 251) (by decide +kernel) rfl rfl ?_
  refine gv_aload_n (n := 0) (pc' := 252) (by decide +kernel) rfl rfl ?_
  refine gv_iload (n := 4) (pc' := 254) (by decide +kernel) rfl rfl ?_
  refine gv_iconst (n := 1) (v := 1) (pc' := 255) (by decide +kernel) (by decide) rfl ?_
  refine gv_iadd (pc' := 256) (by decide +kernel) rfl ?_
  refine lc_sld (pc' := 257) hX r1 (by decide +kernel) rfl ?_
  refine gv_cvl (w' := _) (pc' := 260) (h1) md_G_wordAt vd_G_wordAt (Or.inl ml_12_92) (by decide +kernel) (by decide) rfl rfl rfl (Nat.le_of_ble_eq_true rfl) (Nat.le_of_ble_eq_true rfl) (Nat.le_add_left 1 _) rfl (fun z => ⟨rfl, z⟩) (by decide) rfl ?_
  refine gv_aload_n (n := 2) (pc' := 261) (by decide +kernel) rfl rfl ?_
  refine gv_aload_n (n := 0) (pc' := 262) (by decide +kernel) rfl rfl ?_
  refine gv_iload (n := 4) (pc' := 264) (by decide +kernel) rfl rfl ?_
  refine gv_iconst (n := 1) (v := 1) (pc' := 265) (by decide +kernel) (by decide) rfl ?_
  refine gv_iadd (pc' := 266) (by decide +kernel) rfl ?_
  refine lc_sld (pc' := 267) h2 r1 (by decide +kernel) rfl ?_
  refine gv_cvl (w' := false) (pc' := 270) (h3) md_M_wordAt vd_M_wordAt (Or.inl ml_12_96) (by decide +kernel) (by decide) rfl rfl rfl (Nat.le_of_ble_eq_true rfl) (Nat.le_of_ble_eq_true rfl) (Nat.le_add_left 1 _) rfl (fun z => by cases z) (by decide) rfl ?_
  refine gv_lcmp (pc' := 271) (by decide +kernel) rfl ?_
  refine gv_if_eq (off := 920) (tgt := 1191) (pc' := 274) (by decide +kernel) (by decide) rfl (fun _ => ?_) (fun z => by first | exact absurd z (lc_cmp0 rfl) | exact absurd (lc_cmp0 rfl) z)
  exact gv_keep (Nat.le_succ _) (he _ h6)
set_option maxRecDepth 20000 in
theorem lb_load {X : List Int32} {x : Int32} {σ : gS} {k : Nat} {P : gS → Prop} {Q : gQ → gS → Prop} (hX : σ.2.2.2 = X) (h : lc_i m_G_load m_M_load [] X σ P) (he : ∀ σ2, P σ2 → gv_V m_L_law (k + 1) false 1191 (lc_lo x) [] σ2 Q) : gv_V m_L_law (k + 2) false 276 (lc_lo x) [] σ Q := by
  obtain ⟨r, σ1, σ2, h1, h2, h3, h6⟩ := h
  refine gv_aload_n (n := 1) (pc' := 277) (by decide +kernel) rfl rfl ?_
  refine gv_cvi (w' := false) (pc' := 280) (h1) md_G_load vd_G_load (Or.inl ml_12_97) (by decide +kernel) (by decide) rfl rfl rfl (Nat.le_of_ble_eq_true rfl) (Nat.le_of_ble_eq_true rfl) (Nat.le_add_left 1 _) rfl (fun z => by cases z) (by decide) rfl ?_
  refine gv_aload_n (n := 2) (pc' := 281) (by decide +kernel) rfl rfl ?_
  refine gv_cvi (w' := false) (pc' := 284) (h3) md_M_load vd_M_load (Or.inl ml_12_100) (by decide +kernel) (by decide) rfl rfl rfl (Nat.le_of_ble_eq_true rfl) (Nat.le_of_ble_eq_true rfl) (Nat.le_add_left 1 _) rfl (fun z => by cases z) (by decide) rfl ?_
  refine gv_icmp_eq (off := 907) (tgt := 1191) (pc' := 287) (by decide +kernel) (by decide) rfl (fun _ => ?_) (fun z => by first | exact absurd z rfl | exact absurd rfl z)
  exact gv_keep (Nat.le_succ _) (he _ h6)
set_option maxRecDepth 20000 in
theorem lb_faultAt {X : List Int32} {x : Int32} {σ : gS} {k : Nat} {P : gS → Prop} {Q : gQ → gS → Prop} (hX : σ.2.2.2 = X) (h : lc_i m_G_faultAt m_M_faultAt [] X σ P) (he : ∀ σ2, P σ2 → gv_V m_L_law (k + 1) false 1191 (lc_lo x) [] σ2 Q) : gv_V m_L_law (k + 2) false 289 (lc_lo x) [] σ Q := by
  obtain ⟨r, σ1, σ2, h1, h2, h3, h6⟩ := h
  refine gv_aload_n (n := 1) (pc' := 290) (by decide +kernel) rfl rfl ?_
  refine gv_cvi (w' := _) (pc' := 293) (h1) md_G_faultAt vd_G_faultAt (Or.inl ml_12_101) (by decide +kernel) (by decide) rfl rfl rfl (Nat.le_of_ble_eq_true rfl) (Nat.le_of_ble_eq_true rfl) (Nat.le_add_left 1 _) rfl (fun z => ⟨rfl, z⟩) (by decide) rfl ?_
  refine gv_aload_n (n := 2) (pc' := 294) (by decide +kernel) rfl rfl ?_
  refine gv_cvi (w' := false) (pc' := 297) (h3) md_M_faultAt vd_M_faultAt (Or.inl ml_12_104) (by decide +kernel) (by decide) rfl rfl rfl (Nat.le_of_ble_eq_true rfl) (Nat.le_of_ble_eq_true rfl) (Nat.le_add_left 1 _) rfl (fun z => by cases z) (by decide) rfl ?_
  refine gv_icmp_eq (off := 894) (tgt := 1191) (pc' := 300) (by decide +kernel) (by decide) rfl (fun _ => ?_) (fun z => by first | exact absurd z rfl | exact absurd rfl z)
  exact gv_keep (Nat.le_succ _) (he _ h6)
