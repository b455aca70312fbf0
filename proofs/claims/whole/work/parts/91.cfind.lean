theorem cpr {W : Nat → Int32} {n : Nat} {σ : gS} {T : List Nat} (hk : ck W n σ T) : ∃ s, F_Cut_prepare σ = some (.inl none, s) ∧ kz W n (fun _ => none) (fun _ => False) s := by
  have hn := hk.2.1.2.1
  have hl : T.length ≤ n := bf_len hk.2.2.2.1 (fun x hx => sp_Tl ((hk.2.2.2.2.1 x).mp hx))
  unfold F_Cut_prepare
  simp only [gd_s1]
  generalize hρ : gs_rowL (gs_row (gs_row σ 34 (f_fill (gA σ 34) 0 1040 (-1))) 35 (f_fill (gA (gs_row σ 34 (f_fill (gA σ 34) 0 1040 (-1))) 35) 0 2080 (-1))) 37 (f_fillL (gL (gs_row (gs_row σ 34 (f_fill (gA σ 34) 0 1040 (-1))) 35 (f_fill (gA (gs_row σ 34 (f_fill (gA σ 34) 0 1040 (-1))) 35) 0 2080 (-1))) 37) 0 17 0) = ρ
  have fr : gd_fm W_Cut_prepare σ ρ := by rw [← hρ]; exact gd_fmRL (gd_fmR (gd_fmR (gd_fm0 _ _) rfl) rfl) rfl
  have z37 : ∀ q, q < 1088 → lb (gL ρ 37) q = false := by
    intro q hq
    rw [← hρ]
    unfold lb
    show bq (if 0 ≤ q / 64 ∧ q / 64 < 17 then 0 else _) _ = _
    rw [if_pos (by omega), bq_0]
  have z34 : ∀ v, v < n → gA ρ 34 v = -1 := by
    intro v hv
    rw [← hρ]
    show (if 0 ≤ v ∧ v < 1040 then (-1 : Int32) else _) = -1
    rw [if_pos (by omega)]
  have z35 : ∀ d, d < 2 * n → gA ρ 35 d = -1 := by
    intro v hv
    rw [← hρ]
    show (if 0 ≤ v ∧ v < 2080 then (-1 : Int32) else _) = -1
    rw [if_pos (by omega)]
  have loop : ∃ s, gd_lp (fun _ _ => none) B_Cut_prepare_26 gd_N 0 ρ = some (.inl none, s) ∧ (∀ q, q < 1088 → (lb (gL s 37) q = true ↔ q ∈ T ∧ ¬ sp_k W q = 3)) ∧ gd_fm W_Cut_openEntrance ρ s := by
    refine gd_it2 (I := fun m i s => ∃ j : Nat, j ≤ T.length ∧ m = T.length - j ∧ i = nI j ∧ (∀ q, q < 1088 → (lb (gL s 37) q = true ↔ q ∈ T.take j ∧ ¬ sp_k W q = 3)) ∧ gd_fm W_Cut_openEntrance ρ s) (E := fun (r : gR) => ∃ s, r = some (.inl none, s) ∧ (∀ q, q < 1088 → (lb (gL s 37) q = true ↔ q ∈ T ∧ ¬ sp_k W q = 3)) ∧ gd_fm W_Cut_openEntrance ρ s) ?_ gd_N T.length 0 ρ ⟨0, Nat.zero_le _, rfl, rfl, fun q hq => by rw [z37 q hq, List.take_zero]; exact ⟨fun z => (by cases z), fun z => (by cases z.1)⟩, gd_fm0 _ _⟩ (gd_Nlt (by omega))
    rintro m i s ag ⟨j, hj, rfl, rfl, h37, fs⟩
    have hk1 := ck_fm (ck_fm hk fr rfl rfl) fs rfl rfl
    unfold B_Cut_prepare_26
    rw [hk1.2.2.1.1]
    by_cases hjl : j = T.length
    · rw [if_pos ((gi_le (by omega) (by omega)).mpr (by omega))]
      subst hjl
      rw [List.take_length] at h37
      exact Or.inr ⟨s, rfl, h37, fs⟩
    · have hlt : j < T.length := by omega
      obtain ⟨v, hv⟩ : ∃ v, T[j]? = some v := ⟨T[j], List.getElem?_eq_getElem hlt⟩
      have hvT := (hk.2.2.2.2.1 v).mp (List.mem_of_getElem? hv)
      have hvn := sp_Tl hvT
      have q1 : gA s 29 j = nI v := hk1.2.2.1.2 j v hv
      rw [if_neg (fun z => by have := (gi_le (by omega) (by omega)).mp z; omega), gd_gI (gi_in (show j < 1040 by omega) (by omega : 1040 ≤ 100000)), gi_cl (show j ≤ 100000 by omega), q1, nI_1]
      obtain ⟨s2, k1, k2⟩ := oe_all hk1 hvn
      rw [k1, gd_01]
      refine Or.inl ⟨nI (j + 1), s2, T.length - (j + 1), by omega, ⟨j + 1, by omega, rfl, rfl, fun q hq => ?_, gd_fmT (gd_sbI rfl) fs (K_Cut_openEntrance _ _ _ k1)⟩, rfl⟩
      rw [k2 q hq, h37 q hq, tk_m hv]
      constructor
      · rintro (⟨a, b⟩ | ⟨rfl, b⟩)
        · exact ⟨Or.inl a, b⟩
        · exact ⟨Or.inr rfl, b⟩
      · rintro ⟨a | a, b⟩
        · exact Or.inl ⟨a, b⟩
        · subst a; exact Or.inr ⟨rfl, b⟩
  obtain ⟨s, k1, k2, k3⟩ := loop
  refine ⟨s, k1, fun v hv => ?_, fun d hd => ?_, fun q hq => ?_⟩
  · rw [fm_A k3 (p := 34) rfl, z34 v hv]; rfl
  · rw [fm_A k3 (p := 35) rfl, z35 d hd]; exact ⟨fun _ z => z, fun _ => rfl⟩
  · rw [k2 q hq, hk.2.2.2.2.1 q]
    exact ⟨fun z => ⟨sp_Tl z.1, z.1, z.2, fun y => y⟩, fun z => ⟨z.2.1, z.2.2.1⟩⟩
theorem kI_0 {W : Nat → Int32} {n : Nat} : kI W n (fun _ => none) (fun _ => False) :=
  ⟨⟨fun v z => (by cases z), fun u v z => (by cases z), fun u v v' z => (by cases z), fun v z => absurd rfl z⟩, fun y z hy => hy.elim, fun t ht => ht.elim, fun Q _ _ d hd => hd.elim, fun v hv => hv.elim, fun d hd => hd.elim⟩
theorem cf_22 {W : Nat → Int32} {n : Nat} {σ : gS} {T : List Nat} (κ : gS → gR) (hk : ck W n σ T) (hz : kz W n (fun _ => none) (fun _ => False) σ) :
    ∃ s b Z, gd_lp (fun _ _ => none) (B_Cut_find_22 κ) gd_N 0 σ = κ s ∧ kz W n b Z s ∧ kI W n b Z ∧ (∀ v, sp_S W n v → (b v ≠ none ∨ Z (2 * v))) ∧ gd_fm W_Cut_addPathFrom σ s := by
  have hn := hk.2.1.2.1
  have hl : T.length ≤ n := bf_len hk.2.2.2.1 (fun x hx => sp_Tl ((hk.2.2.2.2.1 x).mp hx))
  refine gd_it2 (I := fun m i s => ∃ (j : Nat) (b : fl_F) (Z : Nat → Prop), j ≤ T.length ∧ m = T.length - j ∧ i = nI j ∧ kz W n b Z s ∧ kI W n b Z ∧ (∀ v, v ∈ T.take j → sp_S W n v → (b v ≠ none ∨ Z (2 * v))) ∧ gd_fm W_Cut_addPathFrom σ s) (E := fun (r : gR) => ∃ s b Z, r = κ s ∧ kz W n b Z s ∧ kI W n b Z ∧ (∀ v, sp_S W n v → (b v ≠ none ∨ Z (2 * v))) ∧ gd_fm W_Cut_addPathFrom σ s) ?_ gd_N T.length 0 σ ⟨0, _, _, Nat.zero_le _, rfl, rfl, hz, kI_0, fun v hv => (by rw [List.take_zero] at hv; cases hv), gd_fm0 _ _⟩ (gd_Nlt (by omega))
  rintro m i s ag ⟨j, b, Z, hj, rfl, rfl, hz, hI, hP, fr⟩
  have hk1 := ck_fm hk fr rfl rfl
  unfold B_Cut_find_22
  rw [hk1.2.2.1.1]
  by_cases hjl : j = T.length
  · rw [if_pos ((gi_le (by omega) (by omega)).mpr (by omega))]
    subst hjl
    rw [List.take_length] at hP
    exact Or.inr ⟨s, b, Z, rfl, hz, hI, fun v hv => hP v ((hk.2.2.2.2.1 v).mpr hv.1) hv, fr⟩
  · have hlt : j < T.length := by omega
    obtain ⟨v, hv⟩ : ∃ v, T[j]? = some v := ⟨T[j], List.getElem?_eq_getElem hlt⟩
    have hvT := (hk.2.2.2.2.1 v).mp (List.mem_of_getElem? hv)
    have hvn := sp_Tl hvT
    have q1 : gA s 29 j = nI v := hk1.2.2.1.2 j v hv
    rw [if_neg (fun z => by have := (gi_le (by omega) (by omega)).mp z; omega)]
    simp only [gd_gI (gi_in (show j < 1040 by omega) (by omega : 1040 ≤ 100000)), gi_cl (show j ≤ 100000 by omega), q1, gd_gI (gi_in (show v < 1040 by omega) (by omega : 1040 ≤ 100000)), gi_cl (show v ≤ 100000 by omega), (hk1.2.1.2.2.2 v hvn).1, hk1.1, nI_1]
    rw [gd_j1]
    refine Or.inl ?_
    by_cases c : sp_k W v = 3
    · rw [if_pos c]
      obtain ⟨s2, b2, Z2, k1, k2, k3, k4, k5⟩ := ap_all hk1 hz hI ⟨hvT, c⟩
      rw [k1, gd_01]
      refine ⟨nI (j + 1), s2, T.length - (j + 1), by omega, ⟨j + 1, b2, Z2, by omega, rfl, rfl, k2, k3, fun x hx hS => ?_, gd_fmT (gd_sbI rfl) fr (K_Cut_addPathFrom _ _ _ k1)⟩, rfl⟩
      rcases (tk_m hv).mp hx with z | z
      · exact k5 x hS (hP x z hS)
      · rw [z]; exact k4
    · rw [if_neg c]
      refine ⟨nI (j + 1), s, T.length - (j + 1), by omega, ⟨j + 1, b, Z, by omega, rfl, rfl, hz, hI, fun x hx hS => ?_, fr⟩, rfl⟩
      rcases (tk_m hv).mp hx with z | z
      · exact hP x z hS
      · rw [z] at hS; exact absurd hS.2 c
theorem kI_C {W : Nat → Int32} {n : Nat} {b : fl_F} {Z : Nat → Prop} (hI : kI W n b Z) (hP : ∀ v, sp_S W n v → (b v ≠ none ∨ Z (2 * v))) (v : Nat) : sp_C W n v ↔ (sp_S W n v ∨ Z (2 * v)) ∧ ¬ Z (2 * v + 1) ∧ b v ≠ none := by
  obtain ⟨i1, i2, i3, i4, i5, i6⟩ := hI
  have cl : fl_cl (sp_E W n) (sp_S W n) b (fun v => sp_S W n v ∨ Z (2 * v)) (fun v => Z (2 * v + 1)) := by
    refine ⟨fun v hv => Or.inl hv, fun v hv hb => ?_, fun u v hu hE => Or.inr (i2 _ _ hu (Or.inr (Or.inr (Or.inr ⟨u, v, rfl, rfl, hE⟩)))), fun u v hv hb => ?_, fun v hv _ => Or.inr (i5 v hv)⟩
    · have h2 : Z (2 * v) := by
        rcases hv with z | z
        · exact (hP v z).resolve_left (fun y => y hb)
        · exact z
      exact i2 _ _ h2 (Or.inl ⟨v, rfl, rfl, hb⟩)
    · rcases hv with z | z
      · exact absurd (i1.2.1 u v hb).2.1 (sp_SE z)
      · exact i2 _ _ z (Or.inr (Or.inl ⟨u, v, rfl, rfl, hb⟩))
  rw [spc_eq i1 cl (fun v he hO => i3 v hO he) (fun v hv => hv.elim (fun z => sp_Tl z.1) (fun z => by have := (i6 _ z).1; omega)) (fun I' O' c' v => ?_) v]
  · exact ⟨fun z => ⟨z.1, z.2, fun y => z.2 (cl.2.1 v z.1 y)⟩, fun z => ⟨z.1, z.2.1⟩⟩
  · have key := i4 (fun d => (∀ v, d = 2 * v → I' v) ∧ ∀ v, d = 2 * v + 1 → O' v) (fun s hs => ⟨fun v e => by
        have : s = v := by omega
        rw [← this]; exact c'.1 s hs, fun v e => by omega⟩) (fun y z _ hy hm => by
      rcases hm with ⟨w, e1, e2, e3⟩ | ⟨u, w, e1, e2, e3⟩ | ⟨w, e1, e2, e3⟩ | ⟨u, w, e1, e2, e3⟩
      · refine ⟨fun v e => by omega, fun v e => ?_⟩
        have : w = v := by omega
        rw [← this]; exact c'.2.1 w (hy.1 w e1) e3
      · refine ⟨fun v e => by omega, fun v e => ?_⟩
        have : u = v := by omega
        rw [← this]; exact c'.2.2.2.1 u w (hy.1 w e1) e3
      · refine ⟨fun v e => ?_, fun v e => by omega⟩
        have : w = v := by omega
        rw [← this]; exact c'.2.2.2.2 w (hy.2 w e1) e3
      · refine ⟨fun v e => ?_, fun v e => by omega⟩
        have : w = v := by omega
        rw [← this]; exact c'.2.2.1 u w (hy.2 u e1) e3)
    exact ⟨fun z => z.elim (c'.1 v) (fun y => (key _ y).1 v rfl), fun z => (key _ z).2 v rfl⟩
def cm (W : Nat → Int32) (n : Nat) (σ : gS) (A : Nat → Prop) : Prop := (∀ p, p < n → gA σ 27 p = mk (sp_g W n p) (sp_T W n p) (sp_X W n p) (A p)) ∧ gI σ 33 8 = nI (sp_n A n)
theorem cm_c {W : Nat → Int32} {n : Nat} {σ : gS} {A A' : Nat → Prop} (h : cm W n σ A) (ha : ∀ u, u < n → (A u ↔ A' u)) : cm W n σ A' :=
  ⟨fun p hp => by rw [h.1 p hp]; exact mk_c Iff.rfl Iff.rfl Iff.rfl (ha p hp), by rw [h.2, sp_n_congr ha]⟩
theorem mi_all {W : Nat → Int32} {n v : Nat} {b : fl_F} {Z : Nat → Prop} {σ : gS} {T : List Nat} {A : Nat → Prop} (hk : ck W n σ T) (hz : kz W n b Z σ) (hI : kI W n b Z) (hP : ∀ v, sp_S W n v → (b v ≠ none ∨ Z (2 * v))) (hT : sp_T W n v) (hA : ¬ A v) (h : cm W n σ A) :
    ∃ s, F_Cut_markIfCut (nI v) σ = some (.inl none, s) ∧ cm W n s (fun p => A p ∨ p = v ∧ sp_C W n v) := by
  have hn := hk.2.1.2.1
  have hv := sp_Tl hT
  have hC := kI_C hI hP v
  have p1 : gA σ 34 v = -1 ↔ b v = none := by
    rw [hz.1 v hv]
    cases hb : b v with
    | none => exact ⟨fun _ => rfl, fun _ => rfl⟩
    | some x =>
      cases x with
      | none => exact ⟨fun z => absurd z (by decide), fun z => (by cases z)⟩
      | some u => exact ⟨fun z => absurd z (gi_m1 (show u ≤ 100000 by have := sp_Tl (hI.1.2.1 u v hb).2.1.1; omega)), fun z => (by cases z)⟩
  have no : ¬ sp_C W n v → ∃ s, (some (.inl none, σ) : gR) = some (.inl none, s) ∧ cm W n s (fun p => A p ∨ p = v ∧ sp_C W n v) := fun hc => ⟨σ, rfl, cm_c h (fun u _ => ⟨Or.inl, fun z => z.elim id (fun y => absurd y.2 hc)⟩)⟩
  have yes : sp_C W n v → ∃ s, (some (.inl none, gs_I (gs_A σ 27 v (gA σ 27 v ||| (8 : Int32))) 33 8 (gI (gs_A σ 27 v (gA σ 27 v ||| (8 : Int32))) 33 8 + (1 : Int32))) : gR) = some (.inl none, s) ∧ cm W n s (fun p => A p ∨ p = v ∧ sp_C W n v) := by
    intro hc
    refine ⟨_, rfl, fun p hp => ?_, ?_⟩
    · show (if p = v then gA σ 27 v ||| (8 : Int32) else gA σ 27 p) = _
      by_cases e : p = v
      · rw [if_pos e, h.1 v hv, mk_o8, e]
        exact mk_c Iff.rfl Iff.rfl Iff.rfl ⟨fun _ => Or.inr ⟨rfl, hc⟩, fun _ => trivial⟩
      · rw [if_neg e, h.1 p hp]
        exact mk_c Iff.rfl Iff.rfl Iff.rfl ⟨Or.inl, fun z => z.resolve_right (fun y => e y.1)⟩
    · show gI σ 33 8 + (1 : Int32) = _
      rw [h.2, nI_1, ← sp_n_add hA hv]
      exact congrArg nI (sp_n_congr fun p _ => ⟨fun z => z.imp id (fun y => ⟨y, hc⟩), fun z => z.imp id (fun y => y.1)⟩)
  have tail : (sp_S W n v ∨ Z (2 * v)) → ∃ s, (if (if gA σ 35 (2 * v + 1) = -1 then (0 : Int32) else 1) = 0 then (if gA σ 34 v = -1 then (some (.inl none, σ) : gR) else some (.inl none, gs_I (gs_A σ 27 v (gA σ 27 v ||| (8 : Int32))) 33 8 (gI (gs_A σ 27 v (gA σ 27 v ||| (8 : Int32))) 33 8 + (1 : Int32)))) else some (.inl none, σ)) = some (.inl none, s) ∧ cm W n s (fun p => A p ∨ p = v ∧ sp_C W n v) := by
    intro hi
    by_cases c1 : Z (2 * v + 1)
    · rw [if_neg (fun z => (hz.2.1 (2 * v + 1) (by omega)).mp z c1), if_neg (show ¬ (1 : Int32) = 0 by decide)]
      exact no (fun z => (hC.mp z).2.1 c1)
    · rw [if_pos ((hz.2.1 (2 * v + 1) (by omega)).mpr c1), if_pos (rfl : (0 : Int32) = 0)]
      by_cases c2 : b v = none
      · rw [if_pos (p1.mpr c2)]; exact no (fun z => (hC.mp z).2.2 c2)
      · rw [if_neg (fun z => c2 (p1.mp z))]; exact yes (hC.mpr ⟨hi, c1, c2⟩)
  unfold F_Cut_markIfCut
  rw [gd_j1]
  simp only [gd_gI (gi_in (show v < 1040 by omega) (by omega : 1040 ≤ 100000)), gi_cl (show v ≤ 100000 by omega), (hk.2.1.2.2.2 v hv).1, hk.1, d2, nI_1, gd_gI (gi_in (show 2 * v + 1 < 2080 by omega) (by omega : 2080 ≤ 100000)), gi_cl (show 2 * v + 1 ≤ 100000 by omega), gd_gI (gi_in (show 2 * v < 2080 by omega) (by omega : 2080 ≤ 100000)), gi_cl (show 2 * v ≤ 100000 by omega), gd_t1, gd_s1]
  by_cases c3 : sp_k W v = 3
  · rw [if_pos c3, if_neg (show ¬ (1 : Int32) = 0 by decide)]
    exact tail (Or.inl ⟨hT, c3⟩)
  · rw [if_neg c3]
    by_cases c4 : Z (2 * v)
    · rw [if_neg (fun z => (hz.2.1 (2 * v) (by omega)).mp z c4), if_neg (show ¬ (1 : Int32) = 0 by decide)]
      exact tail (Or.inr c4)
    · rw [if_pos ((hz.2.1 (2 * v) (by omega)).mpr c4), if_pos trivial]
      exact no (fun z => (hC.mp z).1.elim (fun y => c3 y.2) c4)
theorem cf_69 {W : Nat → Int32} {n : Nat} {b : fl_F} {Z : Nat → Prop} {σ : gS} {T : List Nat} (hk : ck W n σ T) (hz : kz W n b Z σ) (hI : kI W n b Z) (hP : ∀ v, sp_S W n v → (b v ≠ none ∨ Z (2 * v))) (h : cm W n σ (fun _ => False)) :
    ∃ s, gd_lp (fun _ _ => none) B_Cut_find_69 gd_N 0 σ = some (.inl none, s) ∧ cm W n s (sp_C W n) := by
  have hn := hk.2.1.2.1
  have hl : T.length ≤ n := bf_len hk.2.2.2.1 (fun x hx => sp_Tl ((hk.2.2.2.2.1 x).mp hx))
  refine gd_it2 (I := fun m i s => ∃ (j : Nat), j ≤ T.length ∧ m = T.length - j ∧ i = nI j ∧ cm W n s (fun p => p ∈ T.take j ∧ sp_C W n p) ∧ gd_fm W_Cut_markIfCut σ s) (E := fun (r : gR) => ∃ s, r = some (.inl none, s) ∧ cm W n s (sp_C W n)) ?_ gd_N T.length 0 σ ⟨0, Nat.zero_le _, rfl, rfl, cm_c h (fun u _ => ⟨fun z => z.elim, fun z => by rw [List.take_zero] at z; cases z.1⟩), gd_fm0 _ _⟩ (gd_Nlt (by omega))
  rintro m i s ag ⟨j, hj, rfl, rfl, hm, fr⟩
  have hk1 := ck_fm hk fr rfl rfl
  have hz1 : kz W n b Z s := by
    unfold kz
    rw [fm_A fr (p := 34) rfl, fm_A fr (p := 35) rfl, fm_L fr (p := 37) rfl]
    exact hz
  unfold B_Cut_find_69
  rw [hk1.2.2.1.1]
  by_cases hjl : j = T.length
  · rw [if_pos ((gi_le (by omega) (by omega)).mpr (by omega))]
    subst hjl
    rw [List.take_length] at hm
    refine Or.inr ⟨s, rfl, cm_c hm (fun u _ => ⟨fun z => z.2, fun z => ⟨(hk.2.2.2.2.1 u).mpr ?_, z⟩⟩)⟩
    rcases ((kI_C hI hP u).mp z).1 with y | y
    · exact y.1
    · have := (hI.2.2.2.2.2 _ y).2
      rwa [show 2 * u / 2 = u by omega] at this
  · have hlt : j < T.length := by omega
    obtain ⟨v, hv⟩ : ∃ v, T[j]? = some v := ⟨T[j], List.getElem?_eq_getElem hlt⟩
    have hvT := (hk.2.2.2.2.1 v).mp (List.mem_of_getElem? hv)
    have hvn := sp_Tl hvT
    have q1 : gA s 29 j = nI v := hk1.2.2.1.2 j v hv
    rw [if_neg (fun z => by have := (gi_le (by omega) (by omega)).mp z; omega), gd_gI (gi_in (show j < 1040 by omega) (by omega : 1040 ≤ 100000)), gi_cl (show j ≤ 100000 by omega), q1, nI_1]
    obtain ⟨s2, k1, k2⟩ := mi_all hk1 hz1 hI hP hvT (fun z => tk_n hk.2.2.2.1 hv z.1) hm
    rw [k1, gd_01]
    refine Or.inl ⟨nI (j + 1), s2, T.length - (j + 1), by omega, ⟨j + 1, by omega, rfl, rfl, cm_c k2 (fun u _ => ?_), gd_fmT (gd_sbI rfl) fr (K_Cut_markIfCut _ _ _ k1)⟩, rfl⟩
    rw [tk_m hv]
    constructor
    · rintro (⟨a, b⟩ | ⟨rfl, b⟩)
      · exact ⟨Or.inl a, b⟩
      · exact ⟨Or.inr rfl, b⟩
    · rintro ⟨a | a, b⟩
      · exact Or.inl ⟨a, b⟩
      · subst a; exact Or.inr ⟨rfl, b⟩
theorem sp_C0 {W : Nat → Int32} {n : Nat} (h : ∀ v, ¬ sp_e W n v) (v : Nat) : ¬ sp_C W n v := by
  have z := spc_eq (W := W) (n := n) (b := fun _ => none) (I := fun v => ∀ P : Nat → Prop, (∀ s, sp_S W n s → P s) → (∀ u v, P u → sp_E W n u v → P v) → P v) (O := fun v => ∀ P : Nat → Prop, (∀ s, sp_S W n s → P s) → (∀ u v, P u → sp_E W n u v → P v) → P v) (kI_0 (W := W) (n := n)).1 ⟨fun v hv P h1 _ => h1 v hv, fun v hv _ => hv, fun u v hu hE P h1 h2 => h2 u v (hu P h1 h2) hE, fun u v _ hb => (by cases hb), fun v hv _ => hv⟩ (fun v he => absurd he (h v)) (fun v hv => hv (fun v => v < n) (fun s hs => sp_Tl hs.1) (fun u v _ hE => sp_El hE)) (fun I' O' c v => ⟨fun hv => hv I' c.1 (fun u v hu hE => c.2.2.1 u v (c.2.1 u hu rfl) hE), fun hv => c.2.1 v (hv I' c.1 (fun u v hu hE => c.2.2.1 u v (c.2.1 u hu rfl) hE)) rfl⟩) v
  exact fun y => (z.mp y).2 (z.mp y).1
theorem cf_all {W : Nat → Int32} {n : Nat} {σ : gS} {T : List Nat} (hk : ck W n σ T) (hx : xm W n σ (sp_X W n) (sp_e W n)) :
    ∃ s, F_Cut_find σ = some (.inl none, s) ∧ cm W n s (sp_C W n) := by
  have hn := hk.2.1.2.1
  unfold F_Cut_find
  rw [gd_s1]
  have hk0 : ck W n (gs_I σ 33 8 0) T := ck_fm (V := ([(33, 8)], [], [])) hk (gd_fmI (gd_fm0 _ _) rfl) rfl rfl
  have h0 : cm W n (gs_I σ 33 8 0) (fun _ => False) := ⟨hx.1, by rw [sp_n_0 (fun i _ z => z)]; rfl⟩
  by_cases c : sp_n (sp_X W n) n = 0
  · rw [if_pos (show gI (gs_I σ 33 8 0) 26 10 = 0 by rw [show gI (gs_I σ 33 8 0) 26 10 = gI σ 26 10 from rfl, hx.2.2, c]; rfl)]
    have nX : ∀ m, m ≤ n → sp_n (sp_X W n) m = 0 → ∀ i, i < m → ¬ sp_X W n i := by
      intro m
      induction m with
      | zero => intro _ _ i hi; exact absurd hi (Nat.not_lt_zero i)
      | succ m ih =>
        intro hm h i hi
        have h : sp_n (sp_X W n) m + sp_i (sp_X W n m) = 0 := h
        by_cases e : i = m
        · intro z
          rw [e] at z
          rw [sp_it z] at h
          omega
        · exact ih (by omega) (by omega) i (by omega)
    refine ⟨_, rfl, cm_c h0 (fun u _ => ⟨fun z => z.elim, fun z => sp_C0 (fun v hv => ?_) u z⟩)⟩
    obtain ⟨hT, w, hc, hB⟩ := hv
    exact nX n (Nat.le_refl n) c w (sp_sl hc.2.1) ⟨v, hT, hc, hB⟩
  · rw [if_neg (fun z => c (by
      have z : gI σ 26 10 = 0 := z
      rw [hx.2.2] at z
      exact (gi_eq (b := 0) (by have := sp_n_le (sp_X W n) n; omega) (by omega)).mp z))]
    obtain ⟨s2, k1, k2⟩ := cpr hk0
    have f2 := K_Cut_prepare _ _ k1
    have hk2 := ck_fm hk0 f2 rfl rfl
    rw [k1, gd_01, gd_j1]
    obtain ⟨s3, b, Z, l1, l2, l3, l4, l5⟩ := cf_22 (fun (s10 : gS) => gd_lp (fun _ _ => none) (B_Cut_find_69) gd_N 0 s10) hk2 k2
    rw [l1]
    refine cf_69 (ck_fm hk2 l5 rfl rfl) l2 l3 l4 ⟨?_, ?_⟩
    · rw [fm_A l5 (p := 27) rfl, fm_A f2 (p := 27) rfl]; exact h0.1
    · rw [fm_I l5 (p := 33) (k := 8) rfl, fm_I f2 (p := 33) (k := 8) rfl]; exact h0.2
