theorem sp_i1 {P Q : Prop} (h : P ↔ Q) : sp_i P = sp_i Q := by rw [propext h]
theorem sp_n_out {P : Nat → Prop} {u : Nat} : ∀ {n : Nat}, n ≤ u → sp_n (fun x => P x ∨ x = u) n = sp_n P n
  | 0, _ => rfl
  | n + 1, h => by
    show sp_n (fun x => P x ∨ x = u) n + sp_i (P n ∨ n = u) = sp_n P n + sp_i (P n)
    rw [sp_n_out (by omega : n ≤ u), sp_i1 (show (P n ∨ n = u) ↔ P n from ⟨fun z => z.elim id (fun y => absurd y (by omega)), Or.inl⟩)]
theorem sp_n_add {P : Nat → Prop} {u : Nat} (hP : ¬ P u) : ∀ {n : Nat}, u < n → sp_n (fun x => P x ∨ x = u) n = sp_n P n + 1
  | 0, h => absurd h (Nat.not_lt_zero u)
  | n + 1, h => by
    show sp_n (fun x => P x ∨ x = u) n + sp_i (P n ∨ n = u) = sp_n P n + sp_i (P n) + 1
    by_cases e : n = u
    · subst e
      rw [sp_n_out (Nat.le_refl n), sp_it (P := (P n ∨ n = n)) (Or.inr rfl), sp_if hP]
    · rw [sp_n_add hP (by omega : u < n), sp_i1 (show (P n ∨ n = u) ↔ P n from ⟨fun z => z.elim id (fun y => absurd y e), Or.inl⟩)]
      omega
theorem sp_n_0 {P : Nat → Prop} : ∀ {n : Nat}, (∀ i, i < n → ¬ P i) → sp_n P n = 0
  | 0, _ => rfl
  | n + 1, h => by
    show sp_n P n + sp_i (P n) = 0
    rw [sp_n_0 (fun i hi => h i (by omega)), sp_if (h n (by omega))]
noncomputable def sp_o (P : Prop) : Int32 := nI (sp_i P)
theorem sp_ot {P : Prop} (h : P) : sp_o P = 1 := by unfold sp_o; rw [sp_it h]; rfl
theorem sp_of {P : Prop} (h : ¬ P) : sp_o P = 0 := by unfold sp_o; rw [sp_if h]; rfl
theorem sp_o0 {P : Prop} : sp_o P = 0 ↔ ¬ P := by
  by_cases h : P
  · rw [sp_ot h]; exact ⟨fun z => absurd z (by decide), fun z => absurd h z⟩
  · rw [sp_of h]; exact ⟨fun _ => h, fun _ => rfl⟩
theorem br_betrays {W : Nat → Int32} {u : Nat} {σ : gS} (r : Int32) (hW : gA σ 42 = W) (hu : u < 1040) : R_M_betrays (nI u) r σ = some (.inl (some (.int (sp_o (sp_B W u r))))) := by
  unfold R_M_betrays
  rw [br_kindN hu, gd_pi1, gd_j1, hW]
  simp only [gd_gI (gi_in hu (by omega : 1040 ≤ 100000)), gi_cl (show u ≤ 100000 by omega), gd_j1]
  have two : ∀ (v : Int32), (v = 0 ∨ v = 1) → ((v = 1) ↔ (sp_k W u = 5 ∨ f_M_isDivision (W u) = 1)) → (if sp_k W u = 3 then (if f_M_a (W u) = r then (some (.inl (some (.int 1))) : gP) else if v = 0 then some (.inl (some (.int 0))) else if f_M_b (W u) = r then some (.inl (some (.int 1))) else some (.inl (some (.int 0)))) else if sp_k W u = 4 then (if f_M_a (W u) = r then some (.inl (some (.int 1))) else if v = 0 then some (.inl (some (.int 0))) else if f_M_b (W u) = r then some (.inl (some (.int 1))) else some (.inl (some (.int 0)))) else if v = 0 then (if v = 0 then some (.inl (some (.int 0))) else if f_M_b (W u) = r then some (.inl (some (.int 1))) else some (.inl (some (.int 0)))) else (if f_M_a (W u) = r then some (.inl (some (.int 1))) else if v = 0 then some (.inl (some (.int 0))) else if f_M_b (W u) = r then some (.inl (some (.int 1))) else some (.inl (some (.int 0))))) = some (.inl (some (.int (sp_o (sp_B W u r))))) := by
    intro v hv hb
    have v01 : ¬ v = 0 ↔ v = 1 := by rcases hv with rfl | rfl <;> decide
    have yes : sp_B W u r → (some (.inl (some (.int 1))) : gP) = some (.inl (some (.int (sp_o (sp_B W u r))))) := fun z => by rw [sp_ot z]
    have no : ¬ sp_B W u r → (some (.inl (some (.int 0))) : gP) = some (.inl (some (.int (sp_o (sp_B W u r))))) := fun z => by rw [sp_of z]
    by_cases c3 : sp_k W u = 3 ∨ sp_k W u = 4
    · have tree : (if f_M_a (W u) = r then (some (.inl (some (.int 1))) : gP) else if v = 0 then some (.inl (some (.int 0))) else if f_M_b (W u) = r then some (.inl (some (.int 1))) else some (.inl (some (.int 0)))) = some (.inl (some (.int (sp_o (sp_B W u r))))) := by
        by_cases ca : f_M_a (W u) = r
        · rw [if_pos ca]; exact yes (Or.inl ⟨c3, ca⟩)
        · rw [if_neg ca]
          by_cases cv : v = 0
          · rw [if_pos cv]
            exact no (fun z => z.elim (fun y => ca y.2) (fun y => v01.mpr (hb.mpr y.1) cv))
          · rw [if_neg cv]
            by_cases cb : f_M_b (W u) = r
            · rw [if_pos cb]; exact yes (Or.inr ⟨hb.mp (v01.mp cv), Or.inr cb⟩)
            · rw [if_neg cb]; exact no (fun z => z.elim (fun y => ca y.2) (fun y => y.2.elim ca cb))
      by_cases c : sp_k W u = 3
      · rw [if_pos c]; exact tree
      · rw [if_neg c, if_pos (c3.resolve_left c)]; exact tree
    · rw [if_neg (fun z => c3 (Or.inl z)), if_neg (fun z => c3 (Or.inr z))]
      by_cases cv : v = 0
      · rw [if_pos cv, if_pos cv]
        exact no (fun z => z.elim (fun y => c3 y.1) (fun y => v01.mpr (hb.mpr y.1) cv))
      · rw [if_neg cv]
        by_cases ca : f_M_a (W u) = r
        · rw [if_pos ca]; exact yes (Or.inr ⟨hb.mp (v01.mp cv), Or.inl ca⟩)
        · rw [if_neg ca, if_neg cv]
          by_cases cb : f_M_b (W u) = r
          · rw [if_pos cb]; exact yes (Or.inr ⟨hb.mp (v01.mp cv), Or.inr cb⟩)
          · rw [if_neg cb]; exact no (fun z => z.elim (fun y => ca y.2) (fun y => y.2.elim ca cb))
  by_cases c5 : sp_k W u = 5
  · rw [if_pos c5]
    exact two 1 (Or.inr rfl) ⟨fun _ => Or.inl c5, fun _ => rfl⟩
  · rw [if_neg c5]
    rcases z_M_isDivision (W u) with d | d
    · rw [d, if_pos (rfl : (0 : Int32) = 0)]
      exact two 0 (Or.inl rfl) ⟨fun z => absurd z (by decide), fun z => z.elim (fun y => absurd y c5) (fun y => absurd (d.symm.trans y) (by decide))⟩
    · rw [d, if_neg (show ¬ (1 : Int32) = 0 by decide)]
      exact two 1 (Or.inr rfl) ⟨fun _ => Or.inr d, fun _ => rfl⟩
def xq (n : Nat) (σ : gS) (A B : Nat → Prop) : Prop := (∀ u, u < n → gA σ 54 u = sp_o (A u)) ∧ (∀ u, u < n → gA σ 55 u = sp_o (B u)) ∧ gI σ 41 27 = nI (sp_n A n)
theorem xq_c {n : Nat} {σ : gS} {A B A' B' : Nat → Prop} (h : xq n σ A B) (ha : ∀ u, u < n → (A u ↔ A' u)) (hb : ∀ u, u < n → (B u ↔ B' u)) : xq n σ A' B' :=
  ⟨fun u hu => by rw [h.1 u hu]; exact congrArg nI (sp_i1 (ha u hu)), fun u hu => by rw [h.2.1 u hu]; exact congrArg nI (sp_i1 (hb u hu)), by rw [h.2.2, sp_n_congr ha]⟩
def sp_y (W : Nat → Int32) (n v u : Nat) : Prop := sp_c W n v u ∧ sp_B W u (sp_r W v)
theorem ex_47 {W : Nat → Int32} {n v : Nat} {σ : gS} {A0 B0 : Nat → Prop} (κ : gS → gR) (hW : gA σ 42 = W) (hn : n ≤ 1040) (h2 : gI σ 41 2 = nI n) (h57 : ∀ v, v < n → ∀ q, q < n → (rbt (gA σ 57) v q = true ↔ sp_c W n v q)) (h53 : gA σ 53 v = nI (sp_i (sp_T W n v))) (hv : v < n) (hx : xq n σ A0 B0) :
    ∃ s, gd_lp (fun _ _ => none) (B_M_findExposed_47 κ (nI v)) gd_N 0 σ = κ s ∧ xq n s (fun u => A0 u ∨ sp_T W n v ∧ sp_y W n v u) (fun w => B0 w ∨ w = v ∧ sp_T W n v ∧ ∃ u, sp_y W n v u) ∧ gd_fm W_M_findExposed σ s := by
  refine gd_it2 (I := fun m i s => ∃ j, j ≤ n ∧ m = n - j ∧ i = nI j ∧ xq n s (fun u => A0 u ∨ u < j ∧ sp_T W n v ∧ sp_y W n v u) (fun w => B0 w ∨ w = v ∧ sp_T W n v ∧ ∃ u, u < j ∧ sp_y W n v u) ∧ gd_fm W_M_findExposed σ s) (E := fun (r : gR) => ∃ s, r = κ s ∧ xq n s (fun u => A0 u ∨ sp_T W n v ∧ sp_y W n v u) (fun w => B0 w ∨ w = v ∧ sp_T W n v ∧ ∃ u, sp_y W n v u) ∧ gd_fm W_M_findExposed σ s) ?_ gd_N n 0 σ ⟨0, by omega, rfl, rfl, xq_c hx (fun u _ => ⟨Or.inl, fun z => z.elim id (fun y => absurd y.1 (Nat.not_lt_zero u))⟩) (fun u _ => ⟨Or.inl, fun z => z.elim id (fun ⟨_, _, w, hw, _⟩ => absurd hw (Nat.not_lt_zero w))⟩), gd_fm0 _ _⟩ (gd_Nlt (by omega))
  rintro m i s ag ⟨j, hj, rfl, rfl, hq, fr⟩
  have w1 : gA s 42 = W := (fm_A fr rfl).trans hW
  have s1 : gI s 41 2 = nI n := (fm_I fr rfl).trans h2
  have g1 : gA s 57 = gA σ 57 := fm_A fr rfl
  have g3 : gA s 53 v = nI (sp_i (sp_T W n v)) := (congrFun (fm_A fr rfl) v).trans h53
  unfold B_M_findExposed_47
  rw [s1]
  by_cases hjn : j = n
  · subst hjn
    rw [if_pos ((gi_le (by omega) (by omega)).mpr (Nat.le_refl _))]
    exact Or.inr ⟨s, rfl, xq_c hq (fun u hu => ⟨fun z => z.imp id (fun y => y.2), fun z => z.imp id (fun y => ⟨hu, y⟩)⟩) (fun w _ => ⟨fun z => z.imp id (fun ⟨a, b, u, _, c⟩ => ⟨a, b, u, c⟩), fun z => z.imp id (fun ⟨a, b, u, c⟩ => ⟨a, b, u, sp_sl c.1.2.1, c⟩)⟩), fr⟩
  · rw [if_neg (fun z => by have := (gi_le (by omega) (by omega)).mp z; omega)]
    simp only [gd_gI (gi_in (show v < 1040 by omega) (by omega : 1040 ≤ 100000)), gi_cl (show v ≤ 100000 by omega), gd_gI (gi_in (show j < 1040 by omega) (by omega : 1040 ≤ 100000)), gi_cl (show j ≤ 100000 by omega), g3]
    by_cases cT : sp_T W n v
    · rw [sp_it cT, if_neg (show ¬ nI 1 = 0 by decide), hs_57 (by omega) (by omega), gd_qi1, gd_j1, br_result (by omega), gd_qi1, br_betrays _ w1 (by omega), gd_qi1, w1, g1]
      refine Or.inl ?_
      have skip : ¬ sp_y W n v j → ∃ a' b' m', m' < n - j ∧ (∃ j, j ≤ n ∧ m' = n - j ∧ a' = nI j ∧ xq n b' (fun u => A0 u ∨ u < j ∧ sp_T W n v ∧ sp_y W n v u) (fun w => B0 w ∨ w = v ∧ sp_T W n v ∧ ∃ u, u < j ∧ sp_y W n v u) ∧ gd_fm W_M_findExposed σ b') ∧ ag (nI j + 1) s = ag a' b' := by
        intro hc
        refine ⟨nI (j + 1), s, n - (j + 1), by omega, ⟨j + 1, by omega, rfl, rfl, xq_c hq (fun u hu => ?_) (fun w _ => ?_), fr⟩, by rw [nI_1]⟩
        · constructor
          · rintro (a | ⟨a, b⟩)
            · exact Or.inl a
            · exact Or.inr ⟨by omega, b⟩
          · rintro (a | ⟨a, b, c⟩)
            · exact Or.inl a
            · by_cases e : u = j
              · subst e; exact absurd c hc
              · exact Or.inr ⟨by omega, b, c⟩
        · constructor
          · rintro (a | ⟨a, b, u, c, d⟩)
            · exact Or.inl a
            · exact Or.inr ⟨a, b, u, by omega, d⟩
          · rintro (a | ⟨a, b, u, c, d⟩)
            · exact Or.inl a
            · by_cases e : u = j
              · subst e; exact absurd d hc
              · exact Or.inr ⟨a, b, u, by omega, d⟩
      by_cases cc : sp_c W n v j
      · rw [if_pos ((h57 v hv j (by omega)).mpr cc), if_neg (show ¬ (1 : Int32) = 0 by decide), if_neg cc.1]
        by_cases cb : sp_B W j (sp_r W v)
        · rw [sp_ot cb, if_neg (show ¬ (1 : Int32) = 0 by decide)]
          have hy : sp_y W n v j := ⟨cc, cb⟩
          simp only [gd_s1, gd_t1, gI_A]
          rw [show gA (gs_A s 55 v (vp_nar .boolean 1)) 54 j = gA s 54 j from rfl, hq.1 j (by omega), hq.2.2]
          refine ⟨nI (j + 1), _, n - (j + 1), by omega, ⟨j + 1, by omega, rfl, rfl, ⟨fun u hu => ?_, fun w hw => ?_, ?_⟩, gd_fmA (gd_fmI (gd_fmA fr rfl) rfl) rfl⟩, by rw [nI_1]⟩
          · show (if u = j then vp_nar .boolean 1 else gA s 54 u) = _
            by_cases e : u = j
            · subst e
              rw [if_pos rfl, sp_ot (P := (A0 u ∨ u < u + 1 ∧ sp_T W n v ∧ sp_y W n v u)) (Or.inr ⟨by omega, cT, hy⟩)]; rfl
            · rw [if_neg e, hq.1 u hu]
              refine congrArg nI (sp_i1 ⟨fun z => z.imp id (fun y => ⟨by omega, y.2⟩), fun z => z.imp id (fun y => ⟨by omega, y.2⟩)⟩)
          · show (if w = v then vp_nar .boolean 1 else gA s 55 w) = _
            by_cases e : w = v
            · rw [if_pos e, sp_ot (P := (B0 w ∨ w = v ∧ sp_T W n v ∧ ∃ u, u < j + 1 ∧ sp_y W n v u)) (Or.inr ⟨e, cT, j, by omega, hy⟩)]; rfl
            · rw [if_neg e, hq.2.1 w hw]
              exact congrArg nI (sp_i1 ⟨fun z => z.elim Or.inl (fun y => absurd y.1 e), fun z => z.elim Or.inl (fun y => absurd y.1 e)⟩)
          · show (if sp_o (A0 j ∨ j < j ∧ sp_T W n v ∧ sp_y W n v j) = 0 then _ else _) = _
            have ex : ∀ u, u < n → ((A0 u ∨ u < j + 1 ∧ sp_T W n v ∧ sp_y W n v u) ↔ ((A0 u ∨ u < j ∧ sp_T W n v ∧ sp_y W n v u) ∨ u = j)) := by
              intro u _
              constructor
              · rintro (a | ⟨a, b⟩)
                · exact Or.inl (Or.inl a)
                · by_cases e : u = j
                  · exact Or.inr e
                  · exact Or.inl (Or.inr ⟨by omega, b⟩)
              · rintro ((a | ⟨a, b⟩) | rfl)
                · exact Or.inl a
                · exact Or.inr ⟨by omega, b⟩
                · exact Or.inr ⟨by omega, cT, hy⟩
            rw [sp_n_congr ex]
            by_cases ca : A0 j ∨ j < j ∧ sp_T W n v ∧ sp_y W n v j
            · rw [if_neg (fun z => sp_o0.mp z ca)]
              refine congrArg nI (sp_n_congr fun u _ => ⟨Or.inl, fun z => z.elim id (fun y => by rw [y]; exact ca)⟩)
            · rw [if_pos (sp_o0.mpr ca), nI_1, sp_n_add ca (by omega)]
        · rw [sp_of cb, if_pos (rfl : (0 : Int32) = 0)]
          exact skip (fun z => cb z.2)
      · rw [if_neg (fun z => cc ((h57 v hv j (by omega)).mp z)), if_pos (rfl : (0 : Int32) = 0)]
        exact skip (fun z => cc z.1)
    · rw [sp_if cT, if_pos (show nI 0 = 0 from rfl)]
      exact Or.inr ⟨s, rfl, xq_c hq (fun u _ => ⟨fun z => z.imp id (fun y => y.2), fun z => z.elim Or.inl (fun y => absurd y.1 cT)⟩) (fun w _ => ⟨fun z => z.elim Or.inl (fun y => absurd y.2.1 cT), fun z => z.elim Or.inl (fun y => absurd y.2.1 cT)⟩), fr⟩
theorem ex_37 {W : Nat → Int32} {n : Nat} {σ : gS} (hW : gA σ 42 = W) (hn : n ≤ 1040) (h2 : gI σ 41 2 = nI n) (h57 : ∀ v, v < n → ∀ q, q < n → (rbt (gA σ 57) v q = true ↔ sp_c W n v q)) (h53 : ∀ v, v < n → gA σ 53 v = nI (sp_i (sp_T W n v))) (hx : xq n σ (fun _ => False) (fun _ => False)) :
    ∃ s, gd_lp (fun _ _ => none) B_M_findExposed_37 gd_N 0 σ = some (.inl none, s) ∧ xq n s (sp_X W n) (sp_e W n) := by
  refine gd_it2 (I := fun m i s => ∃ j, j ≤ n ∧ m = n - j ∧ i = nI j ∧ xq n s (fun u => ∃ v, v < j ∧ sp_T W n v ∧ sp_y W n v u) (fun w => w < j ∧ sp_T W n w ∧ ∃ u, sp_y W n w u) ∧ gd_fm W_M_findExposed σ s) (E := fun (r : gR) => ∃ s, r = some (.inl none, s) ∧ xq n s (sp_X W n) (sp_e W n)) ?_ gd_N n 0 σ ⟨0, by omega, rfl, rfl, xq_c hx (fun u _ => ⟨fun z => z.elim, fun ⟨v, h, _⟩ => absurd h (Nat.not_lt_zero v)⟩) (fun w _ => ⟨fun z => z.elim, fun ⟨h, _⟩ => absurd h (Nat.not_lt_zero w)⟩), gd_fm0 _ _⟩ (gd_Nlt (by omega))
  rintro m i s ag ⟨j, hj, rfl, rfl, hq, fr⟩
  have w1 : gA s 42 = W := (fm_A fr rfl).trans hW
  have s1 : gI s 41 2 = nI n := (fm_I fr rfl).trans h2
  have g1 : gA s 57 = gA σ 57 := fm_A fr rfl
  have g3 : gA s 53 = gA σ 53 := fm_A fr rfl
  unfold B_M_findExposed_37
  rw [s1]
  by_cases hjn : j = n
  · subst hjn
    rw [if_pos ((gi_le (by omega) (by omega)).mpr (Nat.le_refl _))]
    refine Or.inr ⟨s, rfl, xq_c hq (fun u _ => ?_) (fun w hw => ?_)⟩
    · exact ⟨fun ⟨v, _, a, b⟩ => ⟨v, a, b⟩, fun ⟨v, a, b⟩ => ⟨v, sp_Tl a, a, b⟩⟩
    · exact ⟨fun ⟨_, a, b⟩ => ⟨a, b⟩, fun ⟨a, b⟩ => ⟨hw, a, b⟩⟩
  · rw [if_neg (fun z => by have := (gi_le (by omega) (by omega)).mp z; omega)]
    obtain ⟨s', k1, k2, k3⟩ := ex_47 (v := j) (fun (s27 : gS) => ag (nI j + 1) s27) w1 hn s1 (by rw [g1]; exact h57) (by rw [g3]; exact h53 j (by omega)) (by omega) hq
    rw [gd_j1, k1, nI_1]
    refine Or.inl ⟨nI (j + 1), s', n - (j + 1), by omega, ⟨j + 1, by omega, rfl, rfl, xq_c k2 (fun u _ => ?_) (fun w _ => ?_), gd_fmT (gd_sbI rfl) fr k3⟩, rfl⟩
    · constructor
      · rintro (⟨v, a, b⟩ | b)
        · exact ⟨v, by omega, b⟩
        · exact ⟨j, by omega, b⟩
      · rintro ⟨v, a, b⟩
        by_cases e : v = j
        · subst e; exact Or.inr b
        · exact Or.inl ⟨v, by omega, b⟩
    · constructor
      · rintro (⟨a, b⟩ | ⟨rfl, b⟩)
        · exact ⟨by omega, b⟩
        · exact ⟨by omega, b⟩
      · rintro ⟨a, b⟩
        by_cases e : w = j
        · subst e; exact Or.inr ⟨rfl, b⟩
        · exact Or.inl ⟨by omega, b⟩
theorem ex_7 {n : Nat} {σ : gS} (κ : gS → gR) (hn : n ≤ 1040) (h2 : gI σ 41 2 = nI n) : ∃ s, gd_lp (fun _ _ => none) (B_M_findExposed_7 κ) gd_N 0 σ = κ s ∧ (∀ u, u < n → gA s 54 u = 0 ∧ gA s 55 u = 0) ∧ gd_fm ([], [54, 55], []) σ s := by
  refine gd_it2 (I := fun m i s => ∃ j, j ≤ n ∧ m = n - j ∧ i = nI j ∧ (∀ u, u < j → gA s 54 u = 0 ∧ gA s 55 u = 0) ∧ gd_fm ([], [54, 55], []) σ s) (E := fun (r : gR) => ∃ s, r = κ s ∧ (∀ u, u < n → gA s 54 u = 0 ∧ gA s 55 u = 0) ∧ gd_fm ([], [54, 55], []) σ s) ?_ gd_N n 0 σ ⟨0, by omega, rfl, rfl, fun u hu => absurd hu (Nat.not_lt_zero u), gd_fm0 _ _⟩ (gd_Nlt (by omega))
  rintro m i s ag ⟨j, hj, rfl, rfl, hq, fr⟩
  have s1 : gI s 41 2 = nI n := (fm_I fr rfl).trans h2
  unfold B_M_findExposed_7
  rw [s1]
  by_cases hjn : j = n
  · subst hjn
    rw [if_pos ((gi_le (by omega) (by omega)).mpr (Nat.le_refl _))]
    exact Or.inr ⟨s, rfl, hq, fr⟩
  · rw [if_neg (fun z => by have := (gi_le (by omega) (by omega)).mp z; omega)]
    simp only [gd_gI (gi_in (show j < 1040 by omega) (by omega : 1040 ≤ 100000)), gi_cl (show j ≤ 100000 by omega), gd_s1]
    refine Or.inl ⟨nI (j + 1), _, n - (j + 1), by omega, ⟨j + 1, by omega, rfl, rfl, fun u hu => ⟨?_, ?_⟩, gd_fmA (gd_fmA fr rfl) rfl⟩, by rw [nI_1]⟩
    · show (if u = j then vp_nar .boolean 0 else gA s 54 u) = 0
      by_cases e : u = j
      · rw [if_pos e]; rfl
      · rw [if_neg e]; exact (hq u (by omega)).1
    · show (if u = j then vp_nar .boolean 0 else gA s 55 u) = 0
      by_cases e : u = j
      · rw [if_pos e]; rfl
      · rw [if_neg e]; exact (hq u (by omega)).2
theorem ex_all {W : Nat → Int32} {n : Nat} {σ : gS} (hW : gA σ 42 = W) (hn : n ≤ 1040) (h2 : gI σ 41 2 = nI n) (h57 : ∀ v, v < n → ∀ q, q < n → (rbt (gA σ 57) v q = true ↔ sp_c W n v q)) (h53 : ∀ v, v < n → gA σ 53 v = nI (sp_i (sp_T W n v))) :
    ∃ s, F_M_findExposed σ = some (.inl none, s) ∧ xq n s (sp_X W n) (sp_e W n) := by
  unfold F_M_findExposed
  rw [gd_s1, gd_j1]
  obtain ⟨s, g1, g2, g3⟩ := ex_7 (σ := gs_I σ 41 27 0) (fun (s8 : gS) => gd_lp (fun _ _ => none) (B_M_findExposed_37) gd_N 0 s8) hn h2
  obtain ⟨s', k1, k2⟩ := ex_37 (σ := s) ((fm_A g3 rfl).trans hW) hn ((fm_I g3 rfl).trans h2) (by rw [fm_A g3 (p := 57) rfl]; exact h57) (by rw [fm_A g3 (p := 53) rfl]; exact h53) ⟨fun u hu => by rw [(g2 u hu).1, sp_of (fun z => z)], fun u hu => by rw [(g2 u hu).2, sp_of (fun z => z)], by rw [fm_I g3 (p := 41) (k := 27) rfl, sp_n_0 (fun i _ z => z)]; rfl⟩
  rw [g1, k1]
  exact ⟨s', rfl, k2⟩
