theorem na_31 {n v l : Nat} {σ : gS} (h2 : gI σ 2 7 = nI n) (hn : n ≤ 1040) (hv : v < 1040) (hg : ∀ q, q < 1088 → lb (gL σ 31) q = true → q < n) (hl : l ≤ n) : ∃ r, R_Reach_nextAmong_31 (nI v) (nI l) σ = some (.inl (some (.int (nI r)))) ∧ l ≤ r ∧ r ≤ n ∧ (∀ q, l ≤ q → q < r → ¬ (lbt (gL σ 22) v q = true ∧ lb (gL σ 31) q = true)) ∧ (r < n → lbt (gL σ 22) v r = true ∧ lb (gL σ 31) r = true) := by
  unfold R_Reach_nextAmong_31
  rw [gd_j1, gd_j1]
  refine na_r hn hv hg (fun ag p hp => ?_) hl
  unfold B_Reach_nextAmong_31_3
  rw [h2]
  by_cases c : n ≤ p
  · rw [if_pos ((gi_le (by omega) (by omega)).mpr c), if_pos ((gi_le (by omega) (by omega)).mpr c)]
  · rw [if_neg (fun z => c ((gi_le (by omega) (by omega)).mp z)), if_neg (fun z => c ((gi_le (by omega) (by omega)).mp z)), l6 (by omega), l63 (by omega), m17, nI_add, gd_gI (gi_in (show 17 * v + p / 64 < 17680 by omega) (by omega)), gd_gI (gi_in (show p / 64 < 17 by omega) (by omega)), gi_cl (show 17 * v + p / 64 ≤ 100000 by omega), gi_cl (show p / 64 ≤ 100000 by omega)]
theorem na_32 {n v l : Nat} {σ : gS} (h2 : gI σ 2 7 = nI n) (hn : n ≤ 1040) (hv : v < 1040) (hg : ∀ q, q < 1088 → lb (gL σ 32) q = true → q < n) (hl : l ≤ n) : ∃ r, R_Reach_nextAmong_32 (nI v) (nI l) σ = some (.inl (some (.int (nI r)))) ∧ l ≤ r ∧ r ≤ n ∧ (∀ q, l ≤ q → q < r → ¬ (lbt (gL σ 22) v q = true ∧ lb (gL σ 32) q = true)) ∧ (r < n → lbt (gL σ 22) v r = true ∧ lb (gL σ 32) r = true) := by
  unfold R_Reach_nextAmong_32
  rw [gd_j1, gd_j1]
  refine na_r hn hv hg (fun ag p hp => ?_) hl
  unfold B_Reach_nextAmong_32_3
  rw [h2]
  by_cases c : n ≤ p
  · rw [if_pos ((gi_le (by omega) (by omega)).mpr c), if_pos ((gi_le (by omega) (by omega)).mpr c)]
  · rw [if_neg (fun z => c ((gi_le (by omega) (by omega)).mp z)), if_neg (fun z => c ((gi_le (by omega) (by omega)).mp z)), l6 (by omega), l63 (by omega), m17, nI_add, gd_gI (gi_in (show 17 * v + p / 64 < 17680 by omega) (by omega)), gd_gI (gi_in (show p / 64 < 17 by omega) (by omega)), gi_cl (show 17 * v + p / 64 ≤ 100000 by omega), gi_cl (show p / 64 ≤ 100000 by omega)]
theorem na_37 {n v l : Nat} {σ : gS} (h2 : gI σ 2 7 = nI n) (hn : n ≤ 1040) (hv : v < 1040) (hg : ∀ q, q < 1088 → lb (gL σ 37) q = true → q < n) (hl : l ≤ n) : ∃ r, R_Reach_nextAmong_37 (nI v) (nI l) σ = some (.inl (some (.int (nI r)))) ∧ l ≤ r ∧ r ≤ n ∧ (∀ q, l ≤ q → q < r → ¬ (lbt (gL σ 22) v q = true ∧ lb (gL σ 37) q = true)) ∧ (r < n → lbt (gL σ 22) v r = true ∧ lb (gL σ 37) r = true) := by
  unfold R_Reach_nextAmong_37
  rw [gd_j1, gd_j1]
  refine na_r hn hv hg (fun ag p hp => ?_) hl
  unfold B_Reach_nextAmong_37_3
  rw [h2]
  by_cases c : n ≤ p
  · rw [if_pos ((gi_le (by omega) (by omega)).mpr c), if_pos ((gi_le (by omega) (by omega)).mpr c)]
  · rw [if_neg (fun z => c ((gi_le (by omega) (by omega)).mp z)), if_neg (fun z => c ((gi_le (by omega) (by omega)).mp z)), l6 (by omega), l63 (by omega), m17, nI_add, gd_gI (gi_in (show 17 * v + p / 64 < 17680 by omega) (by omega)), gd_gI (gi_in (show p / 64 < 17 by omega) (by omega)), gi_cl (show 17 * v + p / 64 ≤ 100000 by omega), gi_cl (show p / 64 ≤ 100000 by omega)]
noncomputable def mk (G T X C : Prop) : Int32 := nI (sp_i G + 2 * sp_i T + 4 * sp_i X + 8 * sp_i C)
theorem sp_i01 (P : Prop) : sp_i P = 0 ∨ sp_i P = 1 := by
  by_cases h : P
  · exact Or.inr (sp_it h)
  · exact Or.inl (sp_if h)
theorem mk_c {G T X C G' T' X' C' : Prop} (a : G ↔ G') (b : T ↔ T') (c : X ↔ X') (d : C ↔ C') : mk G T X C = mk G' T' X' C' := by rw [propext a, propext b, propext c, propext d]
theorem mk_1 {G T X C : Prop} : mk G T X C &&& (1 : Int32) = 0 ↔ ¬ G := by
  have h : mk G T X C &&& (1 : Int32) = nI (sp_i G) := by
    unfold mk
    rcases sp_i01 G with a | a <;> rcases sp_i01 T with b | b <;> rcases sp_i01 X with c | c <;> rcases sp_i01 C with d | d <;> rw [a, b, c, d] <;> decide
  rw [h]
  exact sp_o0
theorem mk_4 {G T X C : Prop} : mk G T X C &&& (4 : Int32) = 0 ↔ ¬ X := by
  have h : mk G T X C &&& (4 : Int32) = nI (4 * sp_i X) := by
    unfold mk
    rcases sp_i01 G with a | a <;> rcases sp_i01 T with b | b <;> rcases sp_i01 X with c | c <;> rcases sp_i01 C with d | d <;> rw [a, b, c, d] <;> decide
  rw [h]
  by_cases c : X
  · rw [sp_it c]; exact ⟨fun z => absurd z (by decide), fun z => absurd c z⟩
  · rw [sp_if c]; exact ⟨fun _ => c, fun _ => rfl⟩
theorem mk_8 {G T X C : Prop} : mk G T X C &&& (8 : Int32) = 0 ↔ ¬ C := by
  have h : mk G T X C &&& (8 : Int32) = nI (8 * sp_i C) := by
    unfold mk
    rcases sp_i01 G with a | a <;> rcases sp_i01 T with b | b <;> rcases sp_i01 X with c | c <;> rcases sp_i01 C with d | d <;> rw [a, b, c, d] <;> decide
  rw [h]
  by_cases c : C
  · rw [sp_it c]; exact ⟨fun z => absurd z (by decide), fun z => absurd c z⟩
  · rw [sp_if c]; exact ⟨fun _ => c, fun _ => rfl⟩
theorem mk_o1 {G T X C : Prop} : mk G T X C ||| (1 : Int32) = mk True T X C := by
  unfold mk
  rw [sp_it trivial]
  rcases sp_i01 G with a | a <;> rcases sp_i01 T with b | b <;> rcases sp_i01 X with c | c <;> rcases sp_i01 C with d | d <;> rw [a, b, c, d] <;> decide
theorem mk_o2 {G T X C : Prop} : mk G T X C ||| (2 : Int32) = mk G True X C := by
  unfold mk
  rw [sp_it trivial]
  rcases sp_i01 G with a | a <;> rcases sp_i01 T with b | b <;> rcases sp_i01 X with c | c <;> rcases sp_i01 C with d | d <;> rw [a, b, c, d] <;> decide
theorem mk_o4 {G T X C : Prop} : mk G T X C ||| (4 : Int32) = mk G T True C := by
  unfold mk
  rw [sp_it trivial]
  rcases sp_i01 G with a | a <;> rcases sp_i01 T with b | b <;> rcases sp_i01 X with c | c <;> rcases sp_i01 C with d | d <;> rw [a, b, c, d] <;> decide
theorem mk_o8 {G T X C : Prop} : mk G T X C ||| (8 : Int32) = mk G T X True := by
  unfold mk
  rw [sp_it trivial]
  rcases sp_i01 G with a | a <;> rcases sp_i01 T with b | b <;> rcases sp_i01 X with c | c <;> rcases sp_i01 C with d | d <;> rw [a, b, c, d] <;> decide
theorem mk_0 : mk False False False False = 0 := by
  unfold mk
  rw [sp_if (fun z => z)]; rfl
def sp_hd (W : Nat → Int32) (q : Nat) : Prop := (sp_k W q = 0 ∨ sp_k W q = 1) ∧ ¬ sp_r W q = 0
def sp_lk (W : Nat → Int32) (q : Nat) : Prop := sp_k W q = 3 ∨ sp_k W q = 4 ∨ sp_k W q = 5 ∨ f_M_isDivision (W q) = 1
theorem cl_hd {n p : Nat} {σ : gS} (hD : rD n σ) (hp : p < n) : R_Listing_handsOn (nI p) σ = some (.inl (some (.int (sp_o (sp_hd (gA σ 42) p))))) := by
  have hn := hD.2.1
  unfold R_Listing_handsOn
  rw [gd_j1]
  simp only [gd_gI (gi_in (show p < 1040 by omega) (by omega : 1040 ≤ 100000)), gi_cl (show p ≤ 100000 by omega), (hD.2.2.2 p hp).1, (hD.2.2.2 p hp).2.2.1]
  have tree : (sp_k (gA σ 42) p = 0 ∨ sp_k (gA σ 42) p = 1) → (if sp_r (gA σ 42) p = 0 then (some (.inl (some (.int 0))) : gP) else some (.inl (some (.int 1)))) = some (.inl (some (.int (sp_o (sp_hd (gA σ 42) p))))) := by
    intro hk
    by_cases c : sp_r (gA σ 42) p = 0
    · rw [if_pos c, sp_of (fun z => z.2 c)]
    · rw [if_neg c, sp_ot ⟨hk, c⟩]
  by_cases c0 : sp_k (gA σ 42) p = 0
  · rw [if_pos c0]; exact tree (Or.inl c0)
  · rw [if_neg c0]
    by_cases c1 : sp_k (gA σ 42) p = 1
    · rw [if_pos c1]; exact tree (Or.inr c1)
    · rw [if_neg c1, sp_of (fun z => z.1.elim c0 c1)]
theorem isd_e (w : Int32) : (if f_M_kindOf w = 0 ∧ f_M_g w = 1 ∧ 4 ≤ f_M_f w then (1 : Int32) else 0) = f_M_isDivision w := by
  unfold f_M_isDivision
  obtain ⟨k, hk, e⟩ := sp_fl w
  have hf : f_M_f w ≤ 3 ↔ ¬ 4 ≤ f_M_f w := by
    rw [e]
    exact (by decide : ∀ k, k ≤ 7 → (nI k ≤ 3 ↔ ¬ (4 : Int32) ≤ nI k)) k hk
  by_cases c0 : f_M_kindOf w = 0
  · rw [if_pos c0]
    by_cases c1 : f_M_g w = 1
    · rw [if_pos c1]
      by_cases c2 : 4 ≤ f_M_f w
      · rw [if_pos ⟨c0, c1, c2⟩, if_neg (fun z => hf.mp z c2)]
      · rw [if_neg (fun z => c2 z.2.2), if_pos (hf.mpr c2)]
    · rw [if_neg c1, if_neg (fun z => c1 z.2.1)]
  · rw [if_neg c0, if_neg (fun z => c0 z.1)]
theorem cl_isd {n p : Nat} {σ : gS} {W : Nat → Int32} (hW : gA σ 42 = W) (hD : rD n σ) (hp : p < n) : R_Listing_isDivision (nI p) σ = some (.inl (some (.int (f_M_isDivision (W p))))) := by
  rw [st_isd hW hD hp]
  exact congrArg (fun x => (some (.inl (some (.int x))) : gP)) (isd_e (W p))
theorem pr_41 {n : Nat} {σ : gS} {W : Nat → Int32} (hW : gA σ 42 = W) (hD : rD n σ) (h1 : ∀ q, q < 1088 → lb (gL σ 31) q = false) (h2 : ∀ q, q < 1088 → lb (gL σ 32) q = false) :
    ∃ s, gd_lp (fun _ _ => none) B_Taint_prepare_41 gd_N 0 σ = some (.inl none, s) ∧ (∀ p, p < n → gA s 30 p = 0) ∧ (∀ q, q < 1088 → (lb (gL s 31) q = true ↔ q < n ∧ sp_hd W q)) ∧ (∀ q, q < 1088 → (lb (gL s 32) q = true ↔ q < n ∧ sp_lk W q)) ∧ gd_fm ([], [30], [31, 32]) σ s := by
  have hn := hD.2.1
  refine gd_it2 (I := fun m i s => ∃ j, j ≤ n ∧ m = n - j ∧ i = nI j ∧ (∀ p, p < j → gA s 30 p = 0) ∧ (∀ q, q < 1088 → (lb (gL s 31) q = true ↔ q < j ∧ sp_hd W q)) ∧ (∀ q, q < 1088 → (lb (gL s 32) q = true ↔ q < j ∧ sp_lk W q)) ∧ gd_fm ([], [30], [31, 32]) σ s) (E := fun (r : gR) => ∃ s, r = some (.inl none, s) ∧ (∀ p, p < n → gA s 30 p = 0) ∧ (∀ q, q < 1088 → (lb (gL s 31) q = true ↔ q < n ∧ sp_hd W q)) ∧ (∀ q, q < 1088 → (lb (gL s 32) q = true ↔ q < n ∧ sp_lk W q)) ∧ gd_fm ([], [30], [31, 32]) σ s) ?_ gd_N n 0 σ ⟨0, by omega, rfl, rfl, fun p hp => absurd hp (Nat.not_lt_zero p), fun q hq => ?_, fun q hq => ?_, gd_fm0 _ _⟩ (gd_Nlt (by omega))
  · rintro m i s ag ⟨j, hj, rfl, rfl, h30, h31, h32, fr⟩
    have w1 : gA s 42 = W := (fm_A fr rfl).trans hW
    have hD1 : rD n s := rD_sm hD (fm_sm fr rfl)
    unfold B_Taint_prepare_41
    rw [hD1.1]
    by_cases hjn : j = n
    · subst hjn
      rw [if_pos ((gi_le (by omega) (by omega)).mpr (Nat.le_refl _))]
      exact Or.inr ⟨s, rfl, h30, h31, h32, fr⟩
    · have hjn' : j < n := by omega
      rw [if_neg (fun z => by have := (gi_le (by omega) (by omega)).mp z; omega)]
      refine Or.inl ?_
      have hD2 : rD n (gs_A s 30 j (vp_nar .boolean 0)) := hD1
      have r14 := cl_hd hD2 hjn'
      have rdv := cl_isd w1 hD1 hjn'
      simp only [gd_gI (gi_in (show j < 1040 by omega) (by omega : 1040 ≤ 100000)), gi_cl (show j ≤ 100000 by omega), (hD1.2.2.2 j hjn').1, l6 (show j ≤ 100000 by omega), l63 (show j ≤ 100000 by omega), gd_gI (gi_in (show j / 64 < 17 by omega) (by omega : 17 ≤ 100000)), gi_cl (show j / 64 ≤ 100000 by omega), w1, nI_1, gd_s1, r14, rdv, gd_qi1, gd_t1]
      have fin : ∀ (v : Int32), ((v = 0) ↔ ¬ sp_lk W j) → ∃ a' b' m', m' < n - j ∧ (∃ j, j ≤ n ∧ m' = n - j ∧ a' = nI j ∧ (∀ p, p < j → gA b' 30 p = 0) ∧ (∀ q, q < 1088 → (lb (gL b' 31) q = true ↔ q < j ∧ sp_hd W q)) ∧ (∀ q, q < 1088 → (lb (gL b' 32) q = true ↔ q < j ∧ sp_lk W q)) ∧ gd_fm ([], [30], [31, 32]) σ b') ∧ ag (nI (j + 1)) (gs_L (gs_L (gs_A s 30 j (vp_nar .boolean 0)) 31 (j / 64) (gL (gs_A s 30 j (vp_nar .boolean 0)) 31 (j / 64) ||| if sp_o (sp_hd (gA (gs_A s 30 j (vp_nar .boolean 0)) 42) j) = 0 then 0 else (1 : Int64) <<< (Int32.toInt64 (nI (j % 64)) &&& 63))) 32 (j / 64) (gL (gs_L (gs_A s 30 j (vp_nar .boolean 0)) 31 (j / 64) (gL (gs_A s 30 j (vp_nar .boolean 0)) 31 (j / 64) ||| if sp_o (sp_hd (gA (gs_A s 30 j (vp_nar .boolean 0)) 42) j) = 0 then 0 else (1 : Int64) <<< (Int32.toInt64 (nI (j % 64)) &&& 63))) 32 (j / 64) ||| if v = 0 then 0 else (1 : Int64) <<< (Int32.toInt64 (nI (j % 64)) &&& 63))) = ag a' b' := by
        intro v hv
        have key : ∀ (P : Prop) (c : Int64) (f : Nat → Int64) (q : Nat), q < 1088 → (P → c = (1 : Int64) <<< (Int32.toInt64 (nI (j % 64)) &&& 63)) → (¬ P → c = 0) → (lb (fun i => if i = j / 64 then f (j / 64) ||| c else f i) q = true ↔ lb f q = true ∨ (q = j ∧ P)) := by
          intro P c f q hq hP hN
          by_cases z : P
          · rw [hP z, l1_or (by omega) hq]
            by_cases e : q = j
            · rw [if_pos e]; exact ⟨fun _ => Or.inr ⟨e, z⟩, fun _ => rfl⟩
            · rw [if_neg e]; exact ⟨Or.inl, fun y => y.elim id (fun x => absurd x.1 e)⟩
          · rw [hN z]
            have : lb (fun i => if i = j / 64 then f (j / 64) ||| 0 else f i) q = lb f q := by
              unfold lb
              show bq (if q / 64 = j / 64 then _ else _) _ = _
              by_cases e : q / 64 = j / 64
              · rw [if_pos e, bq_or, bq_0, Bool.or_false, e]
              · rw [if_neg e]
            rw [this]
            exact ⟨Or.inl, fun y => y.elim id (fun x => absurd x.2 z)⟩
        have ord : ∀ (P : Nat → Prop) q, (q < j ∧ P q) ∨ (q = j ∧ P j) ↔ q < j + 1 ∧ P q := by
          intro P q
          constructor
          · rintro (⟨a, b⟩ | ⟨a, b⟩)
            · exact ⟨by omega, b⟩
            · rw [a]; exact ⟨by omega, b⟩
          · rintro ⟨a, b⟩
            by_cases e : q = j
            · exact Or.inr ⟨e, e ▸ b⟩
            · exact Or.inl ⟨by omega, b⟩
        refine ⟨nI (j + 1), _, n - (j + 1), by omega, ⟨j + 1, by omega, rfl, rfl, fun p hp => ?_, fun q hq => ?_, fun q hq => ?_, gd_fmL (gd_fmL (gd_fmA fr rfl) rfl) rfl⟩, rfl⟩
        · show (if p = j then vp_nar .boolean 0 else gA s 30 p) = 0
          by_cases e : p = j
          · rw [if_pos e]; rfl
          · rw [if_neg e]; exact h30 p (by omega)
        · rw [← ord, ← h31 q hq]
          refine key (sp_hd W j) _ (gL s 31) q hq (fun z => if_neg (fun y => sp_o0.mp y ?_)) (fun z => if_pos (sp_o0.mpr ?_))
          · show sp_hd (gA s 42) j
            rw [w1]; exact z
          · show ¬ sp_hd (gA s 42) j
            rw [w1]; exact z
        · rw [← ord, ← h32 q hq]
          exact key (sp_lk W j) _ (gL s 32) q hq (fun z => if_neg (fun y => hv.mp y z)) (fun z => if_pos (hv.mpr z))
      by_cases c3 : sp_k W j = 3
      · rw [gd_j1, if_pos c3]
        exact fin 1 ⟨fun z => absurd z (by decide), fun z => absurd (Or.inl c3) z⟩
      · rw [gd_j1, if_neg c3]
        by_cases c4 : sp_k W j = 4
        · rw [if_pos c4]
          exact fin 1 ⟨fun z => absurd z (by decide), fun z => absurd (Or.inr (Or.inl c4)) z⟩
        · rw [if_neg c4]
          by_cases c5 : sp_k W j = 5
          · rw [if_pos c5]
            exact fin 1 ⟨fun z => absurd z (by decide), fun z => absurd (Or.inr (Or.inr (Or.inl c5))) z⟩
          · rw [if_neg c5]
            rcases z_M_isDivision (W j) with d | d
            · rw [d, if_pos (rfl : (0 : Int32) = 0)]
              exact fin 0 ⟨fun _ z => z.elim c3 (fun z => z.elim c4 (fun z => z.elim c5 (fun z => absurd (d.symm.trans z) (by decide)))), fun _ => rfl⟩
            · rw [d, if_neg (show ¬ (1 : Int32) = 0 by decide)]
              exact fin 1 ⟨fun z => absurd z (by decide), fun z => absurd (Or.inr (Or.inr (Or.inr d))) z⟩
  · rw [h1 q hq]; exact ⟨fun z => (by cases z), fun z => absurd z.1 (Nat.not_lt_zero q)⟩
  · rw [h2 q hq]; exact ⟨fun z => (by cases z), fun z => absurd z.1 (Nat.not_lt_zero q)⟩
