def kz (W : Nat → Int32) (n : Nat) (b : fl_F) (Z : Nat → Prop) (σ : gS) : Prop := (∀ v, v < n → gA σ 34 v = pb (b v)) ∧ (∀ d, d < 2 * n → (gA σ 35 d = -1 ↔ ¬ Z d)) ∧ ∀ q, q < 1088 → (lb (gL σ 37) q = true ↔ q < n ∧ sp_T W n q ∧ ¬ sp_k W q = 3 ∧ ¬ Z (2 * q))
theorem cs_all {W : Nat → Int32} {n s0 : Nat} {b : fl_F} {Z : Nat → Prop} {σ : gS} {T : List Nat} (hk : ck W n σ T) (ok : fl_ok n (sp_E W n) (sp_S W n) (sp_e W n) b) (hz : kz W n b Z σ) (hS : sp_S W n s0) :
    ∃ s L f r, F_Cut_search (nI s0) σ = some (.inl (some (.int r)), s) ∧ kq W n b Z s0 s L f ∧ (Z (2 * s0) ∨ 2 * s0 ∈ L) ∧ kd W n b Z L r := by
  have hn := hk.2.1.2.1
  have hs := sp_Tl hS.1
  unfold F_Cut_search
  rw [gd_s1, d2]
  have q0 : kq W n b Z s0 (gs_I σ 33 7 0) [] (fun _ => 0) := by
    refine ⟨⟨rfl, fun i x hx => by simp at hx⟩, fun d hd => ?_, fun d hd => (by cases hd), List.nodup_nil, fun d hd => (by cases hd), fun i d hd => by simp at hd, fun q hq => ?_⟩
    · exact ⟨fun z => ⟨(hz.2.1 d hd).mp z, fun y => (by cases y)⟩, fun z => (hz.2.1 d hd).mpr z.1⟩
    · exact ⟨fun z => have y := (hz.2.2 q hq).mp z; ⟨y.1, y.2.1, y.2.2.1, y.2.2.2, fun x => (by cases x)⟩, fun z => (hz.2.2 q hq).mpr ⟨z.1, z.2.1, z.2.2.1, z.2.2.2.1⟩⟩
  obtain ⟨s2, L2, f2, k1, k2, k3, k4⟩ := kq_see (d := 2 * s0) (y := 0) (c := -2) hn q0 (by omega) (by rw [show 2 * s0 / 2 = s0 by omega]; exact hS.1) (by decide) (Or.inl rfl)
  have fr : gd_fm W_Cut_search σ s2 := gd_fmT (gd_sbI rfl) (gd_fmI (gd_fm0 _ _) rfl) (K_Cut_see _ _ _ _ k1)
  rw [k1, gd_01]
  obtain ⟨s, L, f, r, g1, g2, g3, g4⟩ := cs_16 (ck_fm hk fr rfl rfl) ok (by rw [fm_A fr (p := 34) rfl]; exact hz.1) k2
  exact ⟨s, L, f, r, g1, g2, k4.imp id (fun z => g3.subset z), g4⟩
theorem cp_9 {W : Nat → Int32} {n s0 t : Nat} {b : fl_F} {σ : gS} {D : List Nat} {f : Nat → Nat} (κ : gS → gR) (hn : n ≤ 1040) (hp : pth (sp_E W n) b f s0 t D) (hD : ∀ x ∈ D, x < 2 * n) (h35 : ∀ x ∈ D, x ≠ 2 * s0 → gA σ 35 x = nI (f x)) (h34 : ∀ v, v < n → gA σ 34 v = pb (b v)) :
    ∃ s, gd_lp (fun _ _ _ => none) (B_Cut_layPath_9 κ (nI s0)) gd_N (nI (2 * t + 1)) 0 σ = κ s ∧ (∀ v, v < n → gA s 34 v = if 2 * v ∈ D.take (D.length - 1) then (if f (2 * v) = 2 * v + 1 then -1 else nI (f (2 * v) / 2)) else pb (b v)) ∧ gd_fm W_Cut_layPath σ s := by
  have hl : D.length ≤ 2 * n := bf_len hp.1 hD
  have hl0 : 0 < D.length := (List.getElem?_eq_some_iff.mp hp.2.1).1
  have hs0 : 2 * s0 < 2 * n := hD _ (List.mem_of_getElem? hp.2.2.1)
  refine gd_it3 (I := fun m i st s => ∃ k d : Nat, D[k]? = some d ∧ m = D.length - k ∧ i = nI d ∧ st = nI k ∧ (∀ v, v < n → gA s 34 v = if 2 * v ∈ D.take k then (if f (2 * v) = 2 * v + 1 then -1 else nI (f (2 * v) / 2)) else pb (b v)) ∧ gd_fm W_Cut_layPath σ s) (E := fun (r : gR) => ∃ s, r = κ s ∧ (∀ v, v < n → gA s 34 v = if 2 * v ∈ D.take (D.length - 1) then (if f (2 * v) = 2 * v + 1 then -1 else nI (f (2 * v) / 2)) else pb (b v)) ∧ gd_fm W_Cut_layPath σ s) ?_ gd_N D.length (nI (2 * t + 1)) 0 σ ⟨0, 2 * t + 1, hp.2.1, rfl, rfl, rfl, fun v hv => by rw [List.take_zero, if_neg (fun z => (by cases z))]; exact h34 v hv, gd_fm0 _ _⟩ (gd_Nlt (by omega))
  rintro m i st s ag ⟨k, d, hk, rfl, rfl, rfl, h, fr⟩
  have hkl := (List.getElem?_eq_some_iff.mp hk).1
  have hdD := List.mem_of_getElem? hk
  have hd := hD d hdD
  unfold B_Cut_layPath_9
  rw [if_neg (fun z => by have := (gi_le (a := 2080) (by omega) (by omega)).mp z; omega), d2]
  by_cases e : d = 2 * s0
  · rw [if_pos (by rw [e])]
    have : k = D.length - 1 := (List.getElem?_inj hkl hp.1).mp (by rw [hk, hp.2.2.1, e])
    subst this
    exact Or.inr ⟨s, rfl, h, fr⟩
  · rw [if_neg (fun z => e ((gi_eq (by omega) (by omega)).mp z))]
    have hk1 : k + 1 < D.length := by
      refine Classical.byContradiction fun z => e ?_
      have : k = D.length - 1 := by omega
      rw [this, hp.2.2.1] at hk
      exact (Option.some.inj hk).symm
    obtain ⟨y, hy⟩ : ∃ y, D[k + 1]? = some y := ⟨D[k + 1], List.getElem?_eq_getElem hk1⟩
    obtain ⟨ey, -⟩ := hp.2.2.2 k d y hk hy
    have hyn := hD y (List.mem_of_getElem? hy)
    have r35 : gA s 35 d = nI (f d) := (congrFun (fm_A fr (p := 35) rfl) d).trans (h35 d hdD e)
    rw [ey] at hy hyn
    simp only [gd_gI (gi_in (show d < 2080 by omega) (by omega : 2080 ≤ 100000)), gi_cl (show d ≤ 100000 by omega), r35, la1 (show d ≤ 100000 by omega), l1s (show d ≤ 100000 by omega), l1s (show f d ≤ 100000 by omega), gd_t1, gd_s1, gd_j1, gd_gI (gi_in (show d / 2 < 1040 by omega) (by omega : 1040 ≤ 100000)), gi_cl (show d / 2 ≤ 100000 by omega), nI_1]
    refine Or.inl ?_
    by_cases ev : d % 2 = 0
    · rw [if_pos (by rw [ev]; rfl)]
      refine ⟨nI (f d), nI (k + 1), gs_A s 34 (d / 2) (if nI (f d) = nI (d + 1) then -1 else nI (f d / 2)), D.length - (k + 1), by omega, ⟨k + 1, f d, hy, rfl, rfl, rfl, fun v hv => ?_, gd_fmA fr rfl⟩, rfl⟩
      show (if v = d / 2 then _ else gA s 34 v) = _
      by_cases e2 : v = d / 2
      · have e3 : 2 * v = d := by omega
        rw [if_pos e2, if_pos ((tk_m hk).mpr (Or.inr e3)), e3]
        by_cases e4 : f d = d + 1
        · rw [if_pos (by rw [e4]), if_pos e4]
        · rw [if_neg (fun z => e4 ((gi_eq (by omega) (by omega)).mp z)), if_neg e4]
      · rw [if_neg e2, h v hv]
        by_cases e3 : 2 * v ∈ D.take k
        · rw [if_pos e3, if_pos ((tk_m hk).mpr (Or.inl e3))]
        · rw [if_neg e3, if_neg (fun z => ((tk_m hk).mp z).elim e3 (by omega))]
    · rw [if_neg (by rw [show d % 2 = 1 by omega]; decide)]
      refine ⟨nI (f d), nI (k + 1), s, D.length - (k + 1), by omega, ⟨k + 1, f d, hy, rfl, rfl, rfl, fun v hv => ?_, fr⟩, rfl⟩
      rw [h v hv]
      by_cases e3 : 2 * v ∈ D.take k
      · rw [if_pos e3, if_pos ((tk_m hk).mpr (Or.inl e3))]
      · rw [if_neg e3, if_neg (fun z => ((tk_m hk).mp z).elim e3 (by omega))]
theorem cp_all {W : Nat → Int32} {n s0 t : Nat} {b : fl_F} {σ : gS} {D : List Nat} {f : Nat → Nat} (hn : n ≤ 1040) (hp : pth (sp_E W n) b f s0 t D) (hD : ∀ x ∈ D, x < 2 * n) (h35 : ∀ x ∈ D, x ≠ 2 * s0 → gA σ 35 x = nI (f x)) (h34 : ∀ v, v < n → gA σ 34 v = pb (b v)) :
    ∃ s, F_Cut_layPath (nI s0) (nI t) σ = some (.inl none, s) ∧ ∀ v, v < n → gA s 34 v = pb (fl_u b f s0 D v) := by
  have hs0 : 2 * s0 < 2 * n := hD _ (List.mem_of_getElem? hp.2.2.1)
  have hsD : 2 * s0 ∈ D := List.mem_of_getElem? hp.2.2.1
  unfold F_Cut_layPath
  rw [gd_j1, d2, nI_1]
  obtain ⟨s, g1, g2, g3⟩ := cp_9 (fun (s12 : gS) => gd_g (gd_in (nI s0) 1040) <| gd_s (gs_A s12 34 (nI s0).toNatClampNeg (-2)) fun s13 => some (.inl none, s13)) hn hp hD h35 h34
  rw [g1, gd_gI (gi_in (show s0 < 1040 by omega) (by omega : 1040 ≤ 100000)), gi_cl (show s0 ≤ 100000 by omega), gd_s1]
  refine ⟨_, rfl, fun v hv => ?_⟩
  show (if v = s0 then -2 else gA s 34 v) = _
  unfold fl_u
  by_cases e : v = s0
  · rw [if_pos e, if_pos (by rw [e]; exact hsD), if_pos e]; rfl
  · rw [if_neg e, g2 v hv]
    by_cases c : 2 * v ∈ D
    · rw [if_pos ((tk_e hp.1 hp.2.2.1).mpr ⟨c, by omega⟩), if_pos c, if_neg e]
      by_cases c2 : f (2 * v) = 2 * v + 1
      · rw [if_pos c2, if_pos c2]; rfl
      · rw [if_neg c2, if_neg c2]; rfl
    · rw [if_neg (fun z => c ((tk_e hp.1 hp.2.2.1).mp z).1), if_neg c]
theorem oe_all {W : Nat → Int32} {n v : Nat} {σ : gS} {T : List Nat} (hk : ck W n σ T) (hv : v < n) : ∃ s, F_Cut_openEntrance (nI v) σ = some (.inl none, s) ∧ ∀ q, q < 1088 → (lb (gL s 37) q = true ↔ lb (gL σ 37) q = true ∨ (q = v ∧ ¬ sp_k W v = 3)) := by
  have hn := hk.2.1.2.1
  unfold F_Cut_openEntrance
  simp only [gd_gI (gi_in (show v < 1040 by omega) (by omega : 1040 ≤ 100000)), gi_cl (show v ≤ 100000 by omega), (hk.2.1.2.2.2 v hv).1, hk.1, l6 (show v ≤ 100000 by omega), l63 (show v ≤ 100000 by omega), gd_gI (gi_in (show v / 64 < 17 by omega) (by omega : 17 ≤ 100000)), gi_cl (show v / 64 ≤ 100000 by omega), gd_s1]
  by_cases c : sp_k W v = 3
  · rw [if_pos c]
    exact ⟨σ, rfl, fun q hq => ⟨Or.inl, fun z => z.elim id (fun y => absurd c y.2)⟩⟩
  · rw [if_neg c]
    refine ⟨_, rfl, fun q hq => ?_⟩
    show lb (fun i => if i = v / 64 then gL σ 37 (v / 64) ||| ((1 : Int64) <<< (Int32.toInt64 (nI (v % 64)) &&& 63)) else gL σ 37 i) q = true ↔ _
    rw [l1_or (f := gL σ 37) (by omega) hq]
    by_cases e : q = v
    · rw [if_pos e]; exact ⟨fun _ => Or.inr ⟨e, c⟩, fun _ => rfl⟩
    · rw [if_neg e]; exact ⟨Or.inl, fun z => z.elim id (fun y => absurd y.1 e)⟩
theorem cg_2 {W : Nat → Int32} {n s0 : Nat} {b : fl_F} {Z : Nat → Prop} {σ : gS} {T L : List Nat} {f : Nat → Nat} (hk : ck W n σ T) (h : kq W n b Z s0 σ L f) :
    ∃ s, F_Cut_forgetSearch σ = some (.inl none, s) ∧ (∀ d, d < 2 * n → (gA s 35 d = -1 ↔ ¬ Z d)) ∧ ∀ q, q < 1088 → (lb (gL s 37) q = true ↔ q < n ∧ sp_T W n q ∧ ¬ sp_k W q = 3 ∧ ¬ Z (2 * q)) := by
  have hn := hk.2.1.2.1
  have hl := kq_len h
  unfold F_Cut_forgetSearch
  refine gd_it2 (I := fun m i s => ∃ j : Nat, j ≤ L.length ∧ m = L.length - j ∧ i = nI j ∧ (∀ d, d < 2 * n → (gA s 35 d = -1 ↔ ¬ Z d ∧ (d ∈ L → d ∈ L.take j))) ∧ (∀ q, q < 1088 → (lb (gL s 37) q = true ↔ q < n ∧ sp_T W n q ∧ ¬ sp_k W q = 3 ∧ ¬ Z (2 * q) ∧ (2 * q ∈ L → 2 * q ∈ L.take j))) ∧ gd_fm W_Cut_forgetSearch σ s) (E := fun (r : gR) => ∃ s, r = some (.inl none, s) ∧ (∀ d, d < 2 * n → (gA s 35 d = -1 ↔ ¬ Z d)) ∧ ∀ q, q < 1088 → (lb (gL s 37) q = true ↔ q < n ∧ sp_T W n q ∧ ¬ sp_k W q = 3 ∧ ¬ Z (2 * q))) ?_ gd_N L.length 0 σ ⟨0, Nat.zero_le _, rfl, rfl, fun d hd => ?_, fun q hq => ?_, gd_fm0 _ _⟩ (gd_Nlt (by omega))
  · rintro m i s ag ⟨j, hj, rfl, rfl, h35, h37, fr⟩
    have hk1 := ck_fm hk fr rfl rfl
    unfold B_Cut_forgetSearch_2
    rw [show gI s 33 7 = nI L.length from (fm_I fr rfl).trans h.1.1]
    by_cases hjl : j = L.length
    · rw [if_pos ((gi_le (by omega) (by omega)).mpr (by omega))]
      subst hjl
      rw [List.take_length] at h35 h37
      exact Or.inr ⟨s, rfl, fun d hd => ⟨fun z => ((h35 d hd).mp z).1, fun z => (h35 d hd).mpr ⟨z, id⟩⟩, fun q hq => ⟨fun z => have y := (h37 q hq).mp z; ⟨y.1, y.2.1, y.2.2.1, y.2.2.2.1⟩, fun z => (h37 q hq).mpr ⟨z.1, z.2.1, z.2.2.1, z.2.2.2, id⟩⟩⟩
    · have hlt : j < L.length := by omega
      obtain ⟨d, hd⟩ : ∃ d, L[j]? = some d := ⟨L[j], List.getElem?_eq_getElem hlt⟩
      have hdL := List.mem_of_getElem? hd
      obtain ⟨hdn, hdT, hdZ⟩ := h.2.2.2.2.1 d hdL
      have q1 : gA s 36 j = nI d := (congrFun (fm_A fr (p := 36) rfl) j).trans (h.1.2 j d hd)
      rw [if_neg (fun z => by have := (gi_le (by omega) (by omega)).mp z; omega)]
      simp only [gd_gI (gi_in (show j < 2080 by omega) (by omega : 2080 ≤ 100000)), gi_cl (show j ≤ 100000 by omega), q1, gd_gI (gi_in (show d < 2080 by omega) (by omega : 2080 ≤ 100000)), gi_cl (show d ≤ 100000 by omega), la1 (show d ≤ 100000 by omega), l1s (show d ≤ 100000 by omega), gd_s1, gd_j1, nI_1]
      generalize hρ : gs_A s 35 d (-1) = ρ
      have fρ : gd_fm W_Cut_forgetSearch σ ρ := by rw [← hρ]; exact gd_fmA fr rfl
      have a35 : ∀ x, x < 2 * n → (gA ρ 35 x = -1 ↔ ¬ Z x ∧ (x ∈ L → x ∈ L.take (j + 1))) := by
        intro x hx
        rw [← hρ]
        show (if x = d then -1 else gA s 35 x) = -1 ↔ _
        by_cases e : x = d
        · rw [if_pos e]
          exact ⟨fun _ => ⟨by rw [e]; exact hdZ, fun _ => (tk_m hd).mpr (Or.inr e)⟩, fun _ => rfl⟩
        · rw [if_neg e, h35 x hx]
          exact ⟨fun z => ⟨z.1, fun y => (tk_m hd).mpr (Or.inl (z.2 y))⟩, fun z => ⟨z.1, fun y => ((tk_m hd).mp (z.2 y)).resolve_right e⟩⟩
      have e37 : gL ρ 37 = gL s 37 := by rw [← hρ]; rfl
      refine Or.inl ?_
      by_cases ev : d % 2 = 0
      · rw [if_pos (by rw [ev]; rfl)]
        obtain ⟨s2, k1, k2⟩ := oe_all (v := d / 2) (ck_fm hk fρ rfl rfl) (by omega)
        rw [k1, gd_01]
        have f2 := K_Cut_openEntrance _ _ _ k1
        refine ⟨nI (j + 1), s2, L.length - (j + 1), by omega, ⟨j + 1, by omega, rfl, rfl, ?_, fun q hq => ?_, gd_fmT (gd_sbI rfl) fρ f2⟩, rfl⟩
        · rw [fm_A f2 (p := 35) rfl]; exact a35
        · rw [k2 q hq, e37, h37 q hq]
          by_cases e : q = d / 2
          · have e3 : 2 * q = d := by omega
            have hqn : q < n := by omega
            have hqT : sp_T W n q := by rw [e]; exact hdT
            rw [← e, e3]
            constructor
            · rintro (⟨z1, z2, z3, z4, _⟩ | ⟨_, z⟩)
              · exact ⟨z1, z2, z3, z4, fun _ => (tk_m hd).mpr (Or.inr rfl)⟩
              · exact ⟨hqn, hqT, z, hdZ, fun _ => (tk_m hd).mpr (Or.inr rfl)⟩
            · rintro ⟨_, _, z, _⟩
              exact Or.inr ⟨rfl, z⟩
          · have e3 : ¬ 2 * q = d := by omega
            constructor
            · rintro (⟨z1, z2, z3, z4, z5⟩ | ⟨z, _⟩)
              · exact ⟨z1, z2, z3, z4, fun y => (tk_m hd).mpr (Or.inl (z5 y))⟩
              · exact absurd z e
            · rintro ⟨z1, z2, z3, z4, z5⟩
              exact Or.inl ⟨z1, z2, z3, z4, fun y => ((tk_m hd).mp (z5 y)).resolve_right e3⟩
      · rw [if_neg (by rw [show d % 2 = 1 by omega]; decide)]
        refine ⟨nI (j + 1), ρ, L.length - (j + 1), by omega, ⟨j + 1, by omega, rfl, rfl, a35, fun q hq => ?_, fρ⟩, rfl⟩
        rw [e37, h37 q hq]
        have e3 : ¬ 2 * q = d := by omega
        constructor
        · rintro ⟨z1, z2, z3, z4, z5⟩
          exact ⟨z1, z2, z3, z4, fun y => (tk_m hd).mpr (Or.inl (z5 y))⟩
        · rintro ⟨z1, z2, z3, z4, z5⟩
          exact ⟨z1, z2, z3, z4, fun y => ((tk_m hd).mp (z5 y)).resolve_right e3⟩
  · rw [h.2.1 d hd, List.take_zero]
    exact ⟨fun z => ⟨z.1, fun y => absurd y z.2⟩, fun z => ⟨z.1, fun y => (by cases z.2 y)⟩⟩
  · rw [h.2.2.2.2.2.2 q hq, List.take_zero]
    exact ⟨fun z => ⟨z.1, z.2.1, z.2.2.1, z.2.2.2.1, fun y => absurd y z.2.2.2.2⟩, fun z => ⟨z.1, z.2.1, z.2.2.1, z.2.2.2.1, fun y => (by cases z.2.2.2.2 y)⟩⟩
theorem mv_same {E : Nat → Nat → Prop} {b b' : fl_F} {y z : Nat} (h : ∀ v, (y = 2 * v ∨ y = 2 * v + 1) → b' v = b v) : mv E b' y z → mv E b y z := by
  rintro (⟨v, e1, e2, e3⟩ | ⟨u, v, e1, e2, e3⟩ | ⟨v, e1, e2, e3⟩ | ⟨u, v, e1, e2, e3⟩)
  · exact Or.inl ⟨v, e1, e2, by rw [← h v (Or.inl e1)]; exact e3⟩
  · exact Or.inr (Or.inl ⟨u, v, e1, e2, by rw [← h v (Or.inl e1)]; exact e3⟩)
  · exact Or.inr (Or.inr (Or.inl ⟨v, e1, e2, by rw [← h v (Or.inr e1)]; exact e3⟩))
  · exact Or.inr (Or.inr (Or.inr ⟨u, v, e1, e2, e3⟩))
def kI (W : Nat → Int32) (n : Nat) (b : fl_F) (Z : Nat → Prop) : Prop := fl_ok n (sp_E W n) (sp_S W n) (sp_e W n) b ∧ (∀ y z, Z y → mv (sp_E W n) b y z → Z z) ∧ (∀ t, Z (2 * t + 1) → ¬ sp_e W n t) ∧ (∀ Q : Nat → Prop, (∀ s, sp_S W n s → Q (2 * s)) → (∀ y z, Z y → Q y → mv (sp_E W n) b y z → Q z) → ∀ d, Z d → Q d) ∧ (∀ v, Z (2 * v + 1) → Z (2 * v)) ∧ ∀ d, Z d → d < 2 * n ∧ sp_T W n (d / 2)
theorem sp_SE {W : Nat → Int32} {n u v : Nat} (h : sp_S W n v) : ¬ sp_E W n u v := fun z => by
  rcases z.2.2.1 with k | k <;> exact absurd (k.symm.trans h.2) (by decide)
theorem ap_f {W : Nat → Int32} {n s0 : Nat} {b : fl_F} {Z : Nat → Prop} {σ : gS} {L : List Nat} {f : Nat → Nat} (hI : kI W n b Z) (hS : sp_S W n s0) (q : kq W n b Z s0 σ L f) (c : ∀ y ∈ L, ∀ z, mv (sp_E W n) b y z → Z z ∨ z ∈ L) (t : ∀ t, 2 * t + 1 ∈ L → ¬ sp_e W n t) : kI W n b (fun d => Z d ∨ d ∈ L) := by
  obtain ⟨i1, i2, i3, i4, i5, i6⟩ := hI
  obtain ⟨q1, q2, q3, q4, q5, q6, q7⟩ := q
  refine ⟨i1, fun y z hy hm => hy.elim (fun a => Or.inl (i2 y z a hm)) (fun a => c y a z hm), fun u hu => hu.elim (i3 u) (t u), fun Q h1 h2 d hd => ?_, fun v hv => ?_, fun d hd => hd.elim (i6 d) (fun a => ⟨(q5 d a).1, (q5 d a).2.1⟩)⟩
  · rcases hd with a | a
    · exact i4 Q h1 (fun y z hy => h2 y z (Or.inl hy)) d a
    · have key : ∀ (N i d : Nat), i < N → L[i]? = some d → Q d := by
        intro N
        induction N with
        | zero => intro i d h; exact absurd h (Nat.not_lt_zero i)
        | succ N ih =>
          intro i d hi hd
          rcases q6 i d hd with e | ⟨j, hj, e1, e2⟩
          · rw [e]; exact h1 s0 hS
          · exact h2 (f d) d (Or.inr (List.mem_of_getElem? e1)) (ih j (f d) (by omega) e1) e2
      obtain ⟨i, hi⟩ := List.mem_iff_getElem?.mp a
      exact key (i + 1) i d (by omega) hi
  · rcases hv with a | a
    · exact Or.inl (i5 v a)
    · obtain ⟨i, hi⟩ := List.mem_iff_getElem?.mp a
      rcases q6 i _ hi with e | ⟨j, hj, e1, e2⟩
      · omega
      · rcases mv_o e2 with ⟨y, _⟩ | ⟨w, _, y⟩
        · rw [y] at e1; exact Or.inr (List.mem_of_getElem? e1)
        · exact c _ a _ (Or.inr (Or.inr (Or.inl ⟨v, rfl, rfl, (i1.2.1 v w y).2.2⟩)))
theorem ap_s {W : Nat → Int32} {n s0 t : Nat} {b : fl_F} {Z : Nat → Prop} {D : List Nat} {f : Nat → Nat} (hI : kI W n b Z) (hS : sp_S W n s0) (ht : sp_e W n t) (hp : pth (sp_E W n) b f s0 t D) (hZ : ∀ x ∈ D, ¬ Z x) : kI W n (fl_u b f s0 D) Z ∧ fl_u b f s0 D s0 ≠ none ∧ ∀ v, sp_S W n v → b v ≠ none → fl_u b f s0 D v ≠ none := by
  obtain ⟨i1, i2, i3, i4, i5, i6⟩ := hI
  have same : ∀ y, Z y → ∀ v, (y = 2 * v ∨ y = 2 * v + 1) → fl_u b f s0 D v = b v := by
    intro y hy v hv
    have h2 : Z (2 * v) := by
      rcases hv with e | e
      · rw [← e]; exact hy
      · rw [e] at hy; exact i5 v hy
    unfold fl_u
    rw [if_neg (fun z => hZ _ z h2)]
  refine ⟨⟨fl_aug i1 hp ⟨hS, sp_Tl hS.1⟩ ht (fun u v he => sp_El he), fun y z hy hm => i2 y z hy (mv_same (same y hy) hm), i3, fun Q h1 h2 d hd => i4 Q h1 (fun y z hy hQ hm => h2 y z hy hQ (mv_same (fun v hv => (same y hy v hv).symm) hm)) d hd, i5, i6⟩, ?_, fun v hv hb z => ?_⟩
  · rw [fl_us.mpr (Or.inl ⟨List.mem_of_getElem? hp.2.2.1, rfl⟩)]
    exact fun z => by cases z
  · rcases fl_un.mp z with ⟨z1, z2, z3⟩ | ⟨z1, z2⟩
    · obtain ⟨e, e1, e2, e3, e4⟩ := pt_n hp z1 (by omega)
      rcases mv_fi e4 with ⟨_, y⟩ | ⟨u, _, y⟩
      · exact hb y
      · exact sp_SE hv (i1.2.1 u v y).2.1
    · exact hb z2
theorem ap_all {W : Nat → Int32} {n s0 : Nat} {b : fl_F} {Z : Nat → Prop} {σ : gS} {T : List Nat} (hk : ck W n σ T) (hz : kz W n b Z σ) (hI : kI W n b Z) (hS : sp_S W n s0) :
    ∃ s b' Z', F_Cut_addPathFrom (nI s0) σ = some (.inl none, s) ∧ kz W n b' Z' s ∧ kI W n b' Z' ∧ (b' s0 ≠ none ∨ Z' (2 * s0)) ∧ ∀ v, sp_S W n v → (b v ≠ none ∨ Z (2 * v)) → (b' v ≠ none ∨ Z' (2 * v)) := by
  have hn := hk.2.1.2.1
  obtain ⟨s1, L, f, r, g1, g2, g3, g4⟩ := cs_all hk hI.1 hz hS
  have f1 := K_Cut_search _ _ _ g1
  have h34 : ∀ v, v < n → gA s1 34 v = pb (b v) := by rw [fm_A f1 (p := 34) rfl]; exact hz.1
  unfold F_Cut_addPathFrom
  rw [g1, gd_i1]
  rcases g4 with ⟨rfl, c, t⟩ | ⟨t, rfl, ht, he⟩
  · rw [if_pos rfl]
    refine ⟨s1, b, fun d => Z d ∨ d ∈ L, rfl, ⟨h34, fun d hd => ?_, fun q hq => ?_⟩, ap_f hI hS g2 c t, Or.inr g3, fun v _ hv => hv.imp id Or.inl⟩
    · rw [g2.2.1 d hd]
      exact ⟨fun z y => y.elim z.1 z.2, fun z => ⟨fun y => z (Or.inl y), fun y => z (Or.inr y)⟩⟩
    · rw [g2.2.2.2.2.2.2 q hq]
      exact ⟨fun z => ⟨z.1, z.2.1, z.2.2.1, fun y => y.elim z.2.2.2.1 z.2.2.2.2⟩, fun z => ⟨z.1, z.2.1, z.2.2.1, fun y => z.2.2.2 (Or.inl y), fun y => z.2.2.2 (Or.inr y)⟩⟩
  · have htn := sp_Tl he.1
    rw [if_neg (gi_m1 (by omega))]
    obtain ⟨i, hi⟩ := List.mem_iff_getElem?.mp ht
    obtain ⟨s', D, a1, a2, a3, a4, a5, a6⟩ := pth_ex (E := sp_E W n) (b := b) (f := f) (st := fun s => s = s0) g2.2.2.2.1 (fun i d hd => by
      rcases g2.2.2.2.2.2.1 i d hd with z | z
      · exact Or.inl ⟨s0, z, rfl⟩
      · exact Or.inr z) (i + 1) i _ (by omega) hi
    subst a1
    have hp : pth (sp_E W n) b f s' t D := ⟨a2, a3, a4, a5⟩
    have hDL : ∀ x ∈ D, x ∈ L := fun x hx => by
      obtain ⟨j, _, hj⟩ := a6 x hx
      exact List.mem_of_getElem? hj
    obtain ⟨s2, k1, k2⟩ := cp_all hn hp (fun x hx => (g2.2.2.2.2.1 x (hDL x hx)).1) (fun x hx hs => g2.2.2.1 x (hDL x hx) hs) h34
    have f2 := K_Cut_layPath _ _ _ _ k1
    have fr2 : gd_fm W_Cut_addPathFrom σ s2 := gd_fmT (gd_sbI rfl) (gd_fmT (gd_sbI rfl) (gd_fm0 _ _) f1) f2
    have q2 : kq W n b Z s' s2 L f := by
      unfold kq qq
      rw [fm_I f2 (p := 33) (k := 7) rfl, fm_A f2 (p := 36) rfl, fm_A f2 (p := 35) rfl, fm_L f2 (p := 37) rfl]
      exact g2
    obtain ⟨s3, l1, l2, l3⟩ := cg_2 (ck_fm hk fr2 rfl rfl) q2
    have f3 := K_Cut_forgetSearch _ _ l1
    rw [k1, gd_01, l1, gd_01]
    obtain ⟨j1, j2, j3⟩ := ap_s hI hS he hp (fun x hx => (g2.2.2.2.2.1 x (hDL x hx)).2.2)
    exact ⟨s3, fl_u b f s' D, Z, rfl, ⟨by rw [fm_A f3 (p := 34) rfl]; exact k2, l2, l3⟩, j1, Or.inl j2, fun v hv hb => hb.imp (j3 v hv) id⟩
