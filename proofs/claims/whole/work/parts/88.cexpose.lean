theorem isd_k {w : Int32} (h : f_M_isDivision w = 1) : f_M_kindOf w = 0 := by
  rw [← isd_e] at h
  by_cases c : f_M_kindOf w = 0 ∧ f_M_g w = 1 ∧ 4 ≤ f_M_f w
  · exact c.1
  · rw [if_neg c] at h; exact absurd h (by decide)
theorem cl_betrays {n u : Nat} {σ : gS} {W : Nat → Int32} (r : Int32) (hW : gA σ 42 = W) (hD : rD n σ) (hu : u < n) : R_Listing_betrays (nI u) r σ = some (.inl (some (.int (sp_o (sp_B W u r))))) := by
  have hn := hD.2.1
  unfold R_Listing_betrays
  rw [gd_j1]
  simp only [gd_gI (gi_in (show u < 1040 by omega) (by omega : 1040 ≤ 100000)), gi_cl (show u ≤ 100000 by omega), (hD.2.2.2 u hu).1, (hD.2.2.2 u hu).2.2.2.1, gd_j1, cl_uses r hD hu, gd_pi1, cl_isd hW hD hu, hW]
  have yes : sp_B W u r → (some (.inl (some (.int 1))) : gP) = some (.inl (some (.int (sp_o (sp_B W u r))))) := fun z => by rw [sp_ot z]
  have no : ¬ sp_B W u r → (some (.inl (some (.int 0))) : gP) = some (.inl (some (.int (sp_o (sp_B W u r))))) := fun z => by rw [sp_of z]
  have k34 : (sp_k W u = 3 ∨ sp_k W u = 4) → (if sp_a W u = r then (some (.inl (some (.int 1))) : gP) else some (.inl (some (.int 0)))) = some (.inl (some (.int (sp_o (sp_B W u r))))) := by
    intro c
    have ea : sp_a W u = f_M_a (W u) := by
      unfold sp_a
      rw [if_pos (c.elim (fun z => Or.inr (Or.inr (Or.inl z))) (fun z => Or.inr (Or.inr (Or.inr (Or.inl z)))))]
    rw [ea]
    by_cases ca : f_M_a (W u) = r
    · rw [if_pos ca]; exact yes (Or.inl ⟨c, ca⟩)
    · rw [if_neg ca]
      refine no (fun z => z.elim (fun y => ca y.2) (fun y => ?_))
      rcases y.1 with d | d
      · rcases c with c | c <;> exact absurd (c.symm.trans d) (by decide)
      · have d := isd_k d
        rcases c with c | c <;> exact absurd (c.symm.trans d) (by decide)
  have two : ¬ (sp_k W u = 3 ∨ sp_k W u = 4) → (sp_k W u = 5 ∨ f_M_isDivision (W u) = 1) → (if sp_o (sp_a W u = r ∨ sp_b W u = r) = 0 then (some (.inl (some (.int 0))) : gP) else some (.inl (some (.int 1)))) = some (.inl (some (.int (sp_o (sp_B W u r))))) := by
    intro c3 c
    have k : sp_k W u = 5 ∨ sp_k W u = 0 := c.imp id isd_k
    have ea : sp_a W u = f_M_a (W u) := by
      unfold sp_a
      rw [if_pos (k.elim (fun z => Or.inr (Or.inr (Or.inr (Or.inr z)))) Or.inl)]
    have eb : sp_b W u = f_M_b (W u) := by
      unfold sp_b
      rw [if_pos (k.elim (fun z => Or.inr (Or.inr z)) Or.inl)]
    rw [ea, eb]
    by_cases ca : f_M_a (W u) = r ∨ f_M_b (W u) = r
    · rw [sp_ot ca, if_neg (show ¬ (1 : Int32) = 0 by decide)]; exact yes (Or.inr ⟨c, ca⟩)
    · rw [sp_of ca, if_pos (rfl : (0 : Int32) = 0)]
      exact no (fun z => z.elim (fun y => c3 y.1) (fun y => ca y.2))
  by_cases c3 : sp_k W u = 3
  · rw [if_pos c3]; exact k34 (Or.inl c3)
  · rw [if_neg c3]
    by_cases c4 : sp_k W u = 4
    · rw [if_pos c4]; exact k34 (Or.inr c4)
    · rw [if_neg c4]
      have c34 : ¬ (sp_k W u = 3 ∨ sp_k W u = 4) := fun z => z.elim c3 c4
      by_cases c5 : sp_k W u = 5
      · rw [if_pos c5]; exact two c34 (Or.inl c5)
      · rw [if_neg c5]
        rcases z_M_isDivision (W u) with d | d
        · rw [d, if_pos (rfl : (0 : Int32) = 0)]
          exact no (fun z => z.elim (fun y => c34 y.1) (fun y => y.1.elim c5 (fun x => absurd (d.symm.trans x) (by decide))))
        · rw [d, if_neg (show ¬ (1 : Int32) = 0 by decide)]; exact two c34 (Or.inr d)
theorem sp_Bl {W : Nat → Int32} {u : Nat} {r : Int32} (h : sp_B W u r) : sp_lk W u := by
  rcases h with ⟨a | a, _⟩ | ⟨a | a, _⟩
  · exact Or.inl a
  · exact Or.inr (Or.inl a)
  · exact Or.inr (Or.inr (Or.inl a))
  · exact Or.inr (Or.inr (Or.inr a))
def xm (W : Nat → Int32) (n : Nat) (σ : gS) (A B : Nat → Prop) : Prop := (∀ p, p < n → gA σ 27 p = mk (sp_g W n p) (sp_T W n p) (A p) False) ∧ (∀ p, p < n → gA σ 30 p = sp_o (B p)) ∧ gI σ 26 10 = nI (sp_n A n)
theorem xm_c {W : Nat → Int32} {n : Nat} {σ : gS} {A B A' B' : Nat → Prop} (h : xm W n σ A B) (ha : ∀ u, u < n → (A u ↔ A' u)) (hb : ∀ u, u < n → (B u ↔ B' u)) : xm W n σ A' B' :=
  ⟨fun u hu => by rw [h.1 u hu]; exact mk_c Iff.rfl Iff.rfl (ha u hu) Iff.rfl, fun u hu => by rw [h.2.1 u hu]; exact congrArg nI (sp_i1 (hb u hu)), by rw [h.2.2, sp_n_congr ha]⟩
theorem xm_add {W : Nat → Int32} {n u : Nat} {σ : gS} {A B : Nat → Prop} (hn : n ≤ 1040) (hu : u < n) (h : xm W n σ A B) : ∃ s, F_Taint_addExposed (nI u) σ = some (.inl none, s) ∧ xm W n s (fun x => A x ∨ x = u) B := by
  unfold F_Taint_addExposed
  simp only [gd_gI (gi_in (show u < 1040 by omega) (by omega : 1040 ≤ 100000)), gi_cl (show u ≤ 100000 by omega), h.1 u hu, gd_s1]
  by_cases c : A u
  · rw [if_neg (fun z => mk_4.mp z c)]
    exact ⟨σ, rfl, xm_c h (fun x _ => ⟨Or.inl, fun z => z.elim id (fun y => by rw [y]; exact c)⟩) (fun x _ => Iff.rfl)⟩
  · rw [if_pos (mk_4.mpr c)]
    refine ⟨_, rfl, fun p hp => ?_, h.2.1, ?_⟩
    · show (if p = u then mk (sp_g W n u) (sp_T W n u) (A u) False ||| (4 : Int32) else gA σ 27 p) = _
      by_cases e : p = u
      · rw [if_pos e, mk_o4, e]
        exact mk_c Iff.rfl Iff.rfl ⟨fun _ => Or.inr rfl, fun _ => trivial⟩ Iff.rfl
      · rw [if_neg e, h.1 p hp]
        exact mk_c Iff.rfl Iff.rfl ⟨Or.inl, fun z => z.resolve_right e⟩ Iff.rfl
    · show gI σ 26 10 + (1 : Int32) = _
      rw [h.2.2, nI_1, sp_n_add c hu]
theorem ep_14 {W : Nat → Int32} {n v r : Nat} {σ : gS} {A0 B0 : Nat → Prop} (hW : gA σ 42 = W) (hD : rD n σ) (hv : v < n) (hr : ∀ q, q < n → (lbt (gL σ 22) v q = true ↔ sp_c W n v q)) (hb : ∀ q, q < 1088 → (lb (gL σ 32) q = true ↔ q < n ∧ sp_lk W q)) (h : xm W n σ A0 B0) (r0 : r ≤ n) (r1 : ∀ q, q < r → ¬ (lbt (gL σ 22) v q = true ∧ lb (gL σ 32) q = true)) (r2 : r < n → lbt (gL σ 22) v r = true ∧ lb (gL σ 32) r = true) :
    ∃ s, gd_lp (fun _ _ => none) (B_Taint_expose_14 (nI v)) gd_N (nI r) σ = some (.inl none, s) ∧ xm W n s (fun u => A0 u ∨ sp_y W n v u) (fun w => B0 w ∨ w = v ∧ ∃ u, sp_y W n v u) := by
  have hn := hD.2.1
  refine gd_it2 (I := fun m i s => ∃ j, j ≤ n ∧ m = n - j ∧ i = nI j ∧ xm W n s (fun u => A0 u ∨ u < j ∧ sp_y W n v u) (fun w => B0 w ∨ w = v ∧ ∃ u, u < j ∧ sp_y W n v u) ∧ (j < n → sp_c W n v j) ∧ gd_fm W_Taint_expose σ s) (E := fun (r : gR) => ∃ s, r = some (.inl none, s) ∧ xm W n s (fun u => A0 u ∨ sp_y W n v u) (fun w => B0 w ∨ w = v ∧ ∃ u, sp_y W n v u)) ?_ gd_N (n - r) (nI r) σ ⟨r, r0, rfl, rfl, ?_, fun hrn => (hr r hrn).mp (r2 hrn).1, gd_fm0 _ _⟩ (gd_Nlt (by omega))
  · rintro m i s ag ⟨j, hj, rfl, rfl, hq, hj2, fr⟩
    have w1 : gA s 42 = W := (fm_A fr rfl).trans hW
    have hD1 : rD n s := rD_sm hD (fm_sm fr rfl)
    unfold B_Taint_expose_14
    rw [hD1.1]
    by_cases hjn : j = n
    · subst hjn
      rw [if_pos ((gi_le (by omega) (by omega)).mpr (Nat.le_refl _))]
      exact Or.inr ⟨s, rfl, xm_c hq (fun u hu => ⟨fun z => z.imp id (fun y => y.2), fun z => z.imp id (fun y => ⟨hu, y⟩)⟩) (fun w _ => ⟨fun z => z.imp id (fun ⟨a, u, _, c⟩ => ⟨a, u, c⟩), fun z => z.imp id (fun ⟨a, u, c⟩ => ⟨a, u, sp_sl c.1.2.1, c⟩)⟩)⟩
    · have hjn' : j < n := by omega
      have jc := hj2 hjn'
      rw [if_neg (fun z => by have := (gi_le (by omega) (by omega)).mp z; omega)]
      simp only [gd_gI (gi_in (show v < 1040 by omega) (by omega : 1040 ≤ 100000)), gi_cl (show v ≤ 100000 by omega), (hD1.2.2.2 v hv).2.2.1, w1, cl_betrays (sp_r W v) w1 hD1 hjn', gd_qi1, nI_1, gd_s1]
      rw [gd_j1]
      refine Or.inl ?_
      have tail : ∀ s2, xm W n s2 (fun u => A0 u ∨ u < j + 1 ∧ sp_y W n v u) (fun w => B0 w ∨ w = v ∧ ∃ u, u < j + 1 ∧ sp_y W n v u) → gd_fm W_Taint_expose σ s2 → ∃ a' b' m', m' < n - j ∧ (∃ j, j ≤ n ∧ m' = n - j ∧ a' = nI j ∧ xm W n b' (fun u => A0 u ∨ u < j ∧ sp_y W n v u) (fun w => B0 w ∨ w = v ∧ ∃ u, u < j ∧ sp_y W n v u) ∧ (j < n → sp_c W n v j) ∧ gd_fm W_Taint_expose σ b') ∧ (gd_qi (R_Reach_nextAmong_32 (nI v) (nI (j + 1)) s2) s2 fun r11 => ag r11 s2) = ag a' b' := by
        intro s2 x2 fr2
        have hD2 : rD n s2 := rD_sm hD (fm_sm fr2 rfl)
        have e22 : gL s2 22 = gL σ 22 := fm_L fr2 rfl
        have e32 : gL s2 32 = gL σ 32 := fm_L fr2 rfl
        obtain ⟨r', g1, g2, g3, g4, g5⟩ := na_32 (v := v) (l := j + 1) hD2.1 hn (by omega) (fun q hq' hb' => by rw [e32] at hb'; exact ((hb q hq').mp hb').1) (by omega)
        rw [g1, gd_qi1]
        have none : ∀ q, j + 1 ≤ q → q < r' → ¬ sp_y W n v q := by
          intro q h1 h2 hy
          refine g4 q h1 h2 ⟨?_, ?_⟩
          · rw [e22]; exact (hr q (by omega)).mpr hy.1
          · rw [e32]; exact (hb q (by omega)).mpr ⟨by omega, sp_Bl hy.2⟩
        have ex : ∀ u, (u < j + 1 ∧ sp_y W n v u) ↔ (u < r' ∧ sp_y W n v u) := fun u => ⟨fun z => ⟨by omega, z.2⟩, fun z => ⟨Classical.byContradiction fun y => none u (by omega) z.1 z.2, z.2⟩⟩
        refine ⟨nI r', s2, n - r', by omega, ⟨r', g3, rfl, rfl, xm_c x2 (fun u _ => by rw [ex u]) (fun w _ => ?_), fun hrn => ?_, fr2⟩, rfl⟩
        · exact ⟨fun z => z.imp id (fun ⟨a, u, c⟩ => ⟨a, u, (ex u).mp c⟩), fun z => z.imp id (fun ⟨a, u, c⟩ => ⟨a, u, (ex u).mpr c⟩)⟩
        · have := (g5 hrn).1
          rw [e22] at this
          exact (hr r' hrn).mp this
      by_cases cb : sp_B W j (sp_r W v)
      · have hy : sp_y W n v j := ⟨jc, cb⟩
        rw [sp_ot cb, if_neg (show ¬ (1 : Int32) = 0 by decide)]
        have x1 : xm W n (gs_A s 30 v (vp_nar .boolean 1)) (fun u => A0 u ∨ u < j ∧ sp_y W n v u) (fun w => B0 w ∨ w = v ∧ ∃ u, u < j + 1 ∧ sp_y W n v u) := by
          refine ⟨hq.1, fun w hw => ?_, hq.2.2⟩
          show (if w = v then vp_nar .boolean 1 else gA s 30 w) = _
          by_cases e : w = v
          · rw [if_pos e, sp_ot (P := (B0 w ∨ w = v ∧ ∃ u, u < j + 1 ∧ sp_y W n v u)) (Or.inr ⟨e, j, by omega, hy⟩)]; rfl
          · rw [if_neg e, hq.2.1 w hw]
            exact congrArg nI (sp_i1 ⟨fun z => z.elim Or.inl (fun y => absurd y.1 e), fun z => z.elim Or.inl (fun y => absurd y.1 e)⟩)
        obtain ⟨s', k1, k2⟩ := xm_add hn hjn' x1
        rw [k1, gd_01]
        refine tail s' (xm_c k2 (fun u _ => ?_) (fun w _ => Iff.rfl)) (gd_fmT (gd_sbI rfl) (gd_fmA fr rfl) (K_Taint_addExposed _ _ _ k1))
        constructor
        · rintro ((a | ⟨a, b⟩) | rfl)
          · exact Or.inl a
          · exact Or.inr ⟨by omega, b⟩
          · exact Or.inr ⟨by omega, hy⟩
        · rintro (a | ⟨a, b⟩)
          · exact Or.inl (Or.inl a)
          · by_cases e : u = j
            · exact Or.inr e
            · exact Or.inl (Or.inr ⟨by omega, b⟩)
      · have hy : ¬ sp_y W n v j := fun z => cb z.2
        have ex : ∀ u, (u < j ∧ sp_y W n v u) ↔ (u < j + 1 ∧ sp_y W n v u) := fun u => ⟨fun z => ⟨by omega, z.2⟩, fun z => ⟨Classical.byContradiction fun y => hy ((show u = j by omega) ▸ z.2), z.2⟩⟩
        rw [sp_of cb, if_pos (rfl : (0 : Int32) = 0)]
        exact tail s (xm_c hq (fun u _ => by rw [ex u]) (fun w _ => ⟨fun z => z.imp id (fun ⟨a, u, c⟩ => ⟨a, u, (ex u).mp c⟩), fun z => z.imp id (fun ⟨a, u, c⟩ => ⟨a, u, (ex u).mpr c⟩)⟩)) fr
  · have none : ∀ u, u < r → ¬ sp_y W n v u := fun u hu hy => r1 u hu ⟨(hr u (by omega)).mpr hy.1, (hb u (by omega)).mpr ⟨by omega, sp_Bl hy.2⟩⟩
    exact xm_c h (fun u _ => ⟨Or.inl, fun z => z.elim id (fun y => absurd y.2 (none u y.1))⟩) (fun w _ => ⟨Or.inl, fun z => z.elim id (fun ⟨_, u, a, b⟩ => absurd b (none u a))⟩)
theorem ep_all {W : Nat → Int32} {n v : Nat} {σ : gS} {A0 B0 : Nat → Prop} (hW : gA σ 42 = W) (hD : rD n σ) (hv : v < n) (hr : ∀ q, q < n → (lbt (gL σ 22) v q = true ↔ sp_c W n v q)) (hb : ∀ q, q < 1088 → (lb (gL σ 32) q = true ↔ q < n ∧ sp_lk W q)) (h : xm W n σ A0 B0) :
    ∃ s, F_Taint_expose (nI v) σ = some (.inl none, s) ∧ xm W n s (fun u => A0 u ∨ sp_y W n v u) (fun w => B0 w ∨ w = v ∧ ∃ u, sp_y W n v u) := by
  have hn := hD.2.1
  unfold F_Taint_expose
  obtain ⟨r, g1, g2, g3, g4, g5⟩ := na_32 (v := v) (l := 0) hD.1 hn (by omega) (fun q hq hb' => ((hb q hq).mp hb').1) (by omega)
  rw [show (0 : Int32) = nI 0 from rfl, g1, gd_qi1]
  exact ep_14 hW hD hv hr hb h g3 (fun q hq => g4 q (Nat.zero_le q) hq) g5
theorem sr_113 {W : Nat → Int32} {n : Nat} {σ : gS} {L : List Nat} (hW : gA σ 42 = W) (hD : rD n σ) (hq : qq 26 9 29 σ L) (hnd : L.Nodup) (hL : ∀ x, x ∈ L ↔ sp_T W n x) (hr : ∀ v ∈ L, ∀ q, q < n → (lbt (gL σ 22) v q = true ↔ sp_c W n v q)) (hb : ∀ q, q < 1088 → (lb (gL σ 32) q = true ↔ q < n ∧ sp_lk W q)) (h : xm W n σ (fun _ => False) (fun _ => False)) :
    ∃ s, gd_lp (fun _ _ => none) B_Taint_spread_113 gd_N 0 σ = some (.inl none, s) ∧ xm W n s (sp_X W n) (sp_e W n) ∧ gd_fm W_Taint_expose σ s := by
  have hn := hD.2.1
  have hlen : L.length ≤ n := bf_len hnd (fun x hx => sp_Tl ((hL x).mp hx))
  refine gd_it2 (I := fun m i s => ∃ j : Nat, j ≤ L.length ∧ m = L.length - j ∧ i = nI j ∧ xm W n s (fun u => ∃ i v : Nat, i < j ∧ L[i]? = some v ∧ sp_y W n v u) (fun w => (∃ i : Nat, i < j ∧ L[i]? = some w) ∧ ∃ u, sp_y W n w u) ∧ gd_fm W_Taint_expose σ s) (E := fun (r : gR) => ∃ s, r = some (.inl none, s) ∧ xm W n s (sp_X W n) (sp_e W n) ∧ gd_fm W_Taint_expose σ s) ?_ gd_N L.length 0 σ ⟨0, Nat.zero_le _, rfl, rfl, xm_c h (fun u _ => ⟨fun z => z.elim, fun ⟨i, v, a, _⟩ => absurd a (Nat.not_lt_zero i)⟩) (fun w _ => ⟨fun z => z.elim, fun ⟨⟨i, a, _⟩, _⟩ => absurd a (Nat.not_lt_zero i)⟩), gd_fm0 _ _⟩ (gd_Nlt (by omega))
  rintro m i s ag ⟨j, hj, rfl, rfl, hx, fr⟩
  have w1 : gA s 42 = W := (fm_A fr rfl).trans hW
  have hD1 : rD n s := rD_sm hD (fm_sm fr rfl)
  have e9 : gI s 26 9 = nI L.length := (fm_I fr rfl).trans hq.1
  unfold B_Taint_spread_113
  rw [e9]
  by_cases hjl : j = L.length
  · rw [if_pos ((gi_le (by omega) (by omega)).mpr (by omega))]
    refine Or.inr ⟨s, rfl, xm_c hx (fun u _ => ?_) (fun w _ => ?_), fr⟩
    · constructor
      · rintro ⟨i, v, _, a, b⟩; exact ⟨v, (hL v).mp (List.mem_of_getElem? a), b⟩
      · rintro ⟨v, a, b⟩
        obtain ⟨i, hi⟩ := List.mem_iff_getElem?.mp ((hL v).mpr a)
        have := (List.getElem?_eq_some_iff.mp hi).1
        exact ⟨i, v, by omega, hi, b⟩
    · constructor
      · rintro ⟨⟨i, _, a⟩, b⟩; exact ⟨(hL w).mp (List.mem_of_getElem? a), b⟩
      · rintro ⟨a, b⟩
        obtain ⟨i, hi⟩ := List.mem_iff_getElem?.mp ((hL w).mpr a)
        have := (List.getElem?_eq_some_iff.mp hi).1
        exact ⟨⟨i, by omega, hi⟩, b⟩
  · have hlt : j < L.length := by omega
    obtain ⟨v, hv⟩ : ∃ v, L[j]? = some v := ⟨L[j], List.getElem?_eq_getElem hlt⟩
    have hvL := List.mem_of_getElem? hv
    have hvn : v < n := sp_Tl ((hL v).mp hvL)
    have q1 : gA s 29 j = nI v := (congrFun (fm_A fr rfl) j).trans (hq.2 j v hv)
    rw [if_neg (fun z => by have := (gi_le (by omega) (by omega)).mp z; omega)]
    obtain ⟨s', k1, k2⟩ := ep_all w1 hD1 hvn (by rw [fm_L fr (p := 22) rfl]; exact hr v hvL) (by rw [fm_L fr (p := 32) rfl]; exact hb) hx
    rw [gd_gI (gi_in (show j < 1040 by omega) (by omega : 1040 ≤ 100000)), gi_cl (show j ≤ 100000 by omega), q1, k1, gd_01, nI_1]
    refine Or.inl ⟨nI (j + 1), s', L.length - (j + 1), by omega, ⟨j + 1, by omega, rfl, rfl, xm_c k2 (fun u _ => ?_) (fun w _ => ?_), gd_fmT (gd_sbI rfl) fr (K_Taint_expose _ _ _ k1)⟩, rfl⟩
    · constructor
      · rintro (⟨i, w, a, b⟩ | b)
        · exact ⟨i, w, by omega, b⟩
        · exact ⟨j, v, by omega, hv, b⟩
      · rintro ⟨i, w, a, b, c⟩
        by_cases e : i = j
        · subst e; rw [hv] at b; cases b; exact Or.inr c
        · exact Or.inl ⟨i, w, by omega, b, c⟩
    · constructor
      · rintro (⟨⟨i, a, b⟩, c⟩ | ⟨rfl, c⟩)
        · exact ⟨⟨i, by omega, b⟩, c⟩
        · exact ⟨⟨j, by omega, hv⟩, c⟩
      · rintro ⟨⟨i, a, b⟩, c⟩
        by_cases e : i = j
        · subst e; rw [hv] at b; cases b; exact Or.inr ⟨rfl, c⟩
        · exact Or.inl ⟨⟨i, by omega, b⟩, c⟩
theorem sd_all {W : Nat → Int32} {n : Nat} {σ : gS} (hW : gA σ 42 = W) (hD : rD n σ) (hC : rRC n σ) :
    ∃ s L, F_Taint_spread σ = some (.inl none, s) ∧ qq 26 9 29 s L ∧ L.Nodup ∧ (∀ x, x ∈ L ↔ sp_T W n x) ∧ xm W n s (sp_X W n) (sp_e W n) ∧ (∀ x ∈ L, ¬ gA s 23 x = 0) ∧ rRC n s := by
  unfold F_Taint_spread
  obtain ⟨s1, a1, a8, a9, a10, a27, a30, a31, a32⟩ := tp_all hW hD
  have f1 := K_Taint_prepare _ _ a1
  have w1 : gA s1 42 = W := (fm_A f1 rfl).trans hW
  have hD1 : rD n s1 := rD_sm hD (fm_sm f1 rfl)
  obtain ⟨s2, b1, b27⟩ := mg_all w1 hD1 a8 a27
  have f2 := K_Taint_markGuessed _ _ b1
  have w2 : gA s2 42 = W := (fm_A f2 rfl).trans w1
  have hD2 : rD n s2 := rD_sm hD1 (fm_sm f2 rfl)
  rw [a1, gd_01, b1, gd_01, gd_j1]
  obtain ⟨s3, L3, c1, c2, c3, c4⟩ := sr_10 (fun (s12 : gS) => gd_j (α := gS → gR) (fun (s18 : gS) => gd_lp (fun _ _ => none) (B_Taint_spread_113) gd_N 0 s18) fun k16 => gd_lp (fun _ _ => none) (B_Taint_spread_80 k16) gd_N 0 s12) w2 hD2 ((fm_I f2 rfl).trans a9) b27
  have w3 : gA s3 42 = W := (fm_A c4 rfl).trans w2
  have hD3 : rD n s3 := rD_sm hD2 (fm_sm c4 rfl)
  have hC3 : rRC n s3 := rRC_of (rRC_of (rRC_of hC (fm_L f1 rfl) (fm_A f1 rfl) (fm_A f1 rfl) (fm_A f1 rfl)) (fm_L f2 rfl) (fm_A f2 rfl) (fm_A f2 rfl) (fm_A f2 rfl)) (fm_L c4 rfl) (fm_A c4 rfl) (fm_A c4 rfl) (fm_A c4 rfl)
  have u3 : uq W n s3 L3 := ⟨c2, fun q hq => by
    rw [fm_L c4 (p := 31) rfl, fm_L f2 (p := 31) rfl, a31 q hq]
    refine ⟨fun z => ⟨z.1, z.2, fun y => ?_⟩, fun z => ⟨z.1, z.2.1⟩⟩
    have k3 := ((c3 q).mp y).2.1
    rcases z.2.1 with k | k <;> exact absurd (k.symm.trans k3) (by decide)⟩
  obtain ⟨s4, L, d1, d2, d3, d4, d5, d6⟩ := sr_80 (fun (s18 : gS) => gd_lp (fun _ _ => none) (B_Taint_spread_113) gd_N 0 s18) w3 hD3 hC3 u3 c3
  have w4 : gA s4 42 = W := (fm_A d6 rfl).trans w3
  have hD4 : rD n s4 := rD_sm hD3 (fm_sm d6 rfl)
  have x4 : xm W n s4 (fun _ => False) (fun _ => False) := by
    refine ⟨fun p hp => ?_, fun p hp => ?_, ?_⟩
    · rw [d2.2.1 p hp]; exact mk_c Iff.rfl (d3 p) Iff.rfl Iff.rfl
    · rw [fm_A d6 (p := 30) rfl, fm_A c4 (p := 30) rfl, fm_A f2 (p := 30) rfl, a30 p hp, sp_of (fun z => z)]
    · rw [fm_I d6 (p := 26) (k := 10) rfl, fm_I c4 (p := 26) (k := 10) rfl, fm_I f2 (p := 26) (k := 10) rfl, a10, sp_n_0 (fun i _ z => z)]; rfl
  obtain ⟨s5, e1, e2, e3⟩ := sr_113 w4 hD4 d2.1 d2.2.2.1 d3 (fun v hv q hq => by
    have := d4.1 v (sp_Tl ((d3 v).mp hv)) (d5 v hv) q hq
    rwa [w4] at this) (fun q hq => by rw [fm_L d6 (p := 32) rfl, fm_L c4 (p := 32) rfl, fm_L f2 (p := 32) rfl]; exact a32 q hq) x4
  rw [c1, gd_j1, d1, e1]
  have e23 : gA s5 23 = gA s4 23 := fm_A e3 rfl
  refine ⟨s5, L, rfl, ⟨(fm_I e3 rfl).trans d2.1.1, fun i x hx => (congrFun (fm_A e3 rfl) i).trans (d2.1.2 i x hx)⟩, d2.2.2.1, d3, e2, fun x hx => by rw [e23]; exact d5 x hx, rRC_of d4 (fm_L e3 rfl) e23 (fm_A e3 rfl) (fm_A e3 rfl)⟩
