theorem tk_m {D : List Nat} {k d x : Nat} (hd : D[k]? = some d) : x ∈ D.take (k + 1) ↔ x ∈ D.take k ∨ x = d := by
  rw [List.take_add_one, hd]
  exact qq_m
theorem tk_n {D : List Nat} {k d : Nat} (hnd : D.Nodup) (hd : D[k]? = some d) : d ∉ D.take k := by
  intro z
  obtain ⟨i, hi⟩ := List.mem_iff_getElem?.mp z
  have h1 := (List.getElem?_eq_some_iff.mp hi).1
  rw [List.length_take] at h1
  rw [List.getElem?_take_of_lt (by omega)] at hi
  have := (List.getElem?_inj (by omega : i < D.length) hnd).mp (hi.trans hd.symm)
  omega
theorem tk_e {D : List Nat} {d x : Nat} (hnd : D.Nodup) (hd : D[D.length - 1]? = some d) : x ∈ D.take (D.length - 1) ↔ x ∈ D ∧ x ≠ d := by
  have hl := (List.getElem?_eq_some_iff.mp hd).1
  have h1 : x ∈ D ↔ x ∈ D.take (D.length - 1) ∨ x = d := by
    rw [← tk_m hd, show D.length - 1 + 1 = D.length by omega, List.take_length]
  rw [h1]
  constructor
  · intro z
    exact ⟨Or.inl z, fun e => tk_n hnd hd (e ▸ z)⟩
  · rintro ⟨z | z, e⟩
    · exact z
    · exact absurd z e
def c9 (b : fl_F) (f : Nat → Nat) (D : List Nat) (k v : Nat) : Prop := (2 * v + 1 ∈ D.take k ∧ f (2 * v + 1) = 2 * v) ∨ (¬ (2 * v ∈ D.take k ∧ f (2 * v) = 2 * v + 1) ∧ b v ≠ none)
def c8 (b : fl_F) (f : Nat → Nat) (D : List Nat) (k u v : Nat) : Prop := (2 * v ∈ D.take k ∧ f (2 * v) = 2 * u + 1 ∧ u ≠ v) ∨ (¬ (2 * u + 1 ∈ D.take k ∧ f (2 * u + 1) = 2 * v ∧ u ≠ v) ∧ b v = some (some u))
theorem rc_11 {W : Nat → Int32} {n s0 t : Nat} {b : fl_F} {σ : gS} {L D : List Nat} {f : Nat → Nat} (hn : n ≤ 1040) (ok : fl_ok n (sp_E W n) (sp_S W n) (sp_e W n) b) (hp : pth (sp_E W n) b f s0 t D) (hf0 : f (2 * s0) = 2 * s0) (hDL : ∀ x ∈ D, x ∈ L) (h61 : ∀ d, d < 2 * n → gA σ 61 d = if d ∈ L then nI (f d) else -1) (hL : ∀ d ∈ L, d < 2 * n) (h59 : ∀ v, v < n → gA σ 59 v = sp_o (b v ≠ none)) (h58 : ∀ u, u < n → ∀ v, v < n → (rbt (gA σ 58) u v = true ↔ b v = some (some u))) :
    ∃ s, gd_lp (fun _ _ => none) B_M_carry_11 gd_N (nI (2 * t + 1)) σ = some (.inl none, s) ∧ (∀ v, v < n → gA s 59 v = sp_o (c9 b f D (D.length - 1) v)) ∧ (∀ u, u < n → ∀ v, v < n → (rbt (gA s 58) u v = true ↔ c8 b f D (D.length - 1) u v)) ∧ gd_fm ([], [58, 59], []) σ s := by
  have hDn := hp.1
  have hlen : D.length ≤ 2 * n := bf_len hDn (fun x hx => hL x (hDL x hx))
  have hl0 : 0 < D.length := (List.getElem?_eq_some_iff.mp hp.2.1).1
  refine gd_it2 (I := fun m i s => ∃ k d, k < D.length ∧ m = D.length - k ∧ i = nI d ∧ D[k]? = some d ∧ (∀ v, v < n → gA s 59 v = sp_o (c9 b f D k v)) ∧ (∀ u, u < n → ∀ v, v < n → (rbt (gA s 58) u v = true ↔ c8 b f D k u v)) ∧ gd_fm ([], [58, 59], []) σ s) (E := fun (r : gR) => ∃ s, r = some (.inl none, s) ∧ (∀ v, v < n → gA s 59 v = sp_o (c9 b f D (D.length - 1) v)) ∧ (∀ u, u < n → ∀ v, v < n → (rbt (gA s 58) u v = true ↔ c8 b f D (D.length - 1) u v)) ∧ gd_fm ([], [58, 59], []) σ s) ?_ gd_N D.length _ σ ⟨0, 2 * t + 1, hl0, rfl, rfl, hp.2.1, fun v hv => ?_, fun u hu v hv => ?_, gd_fm0 _ _⟩ (gd_Nlt (by omega))
  · rintro m i s ag ⟨k, d, hk, rfl, rfl, hd, h9, h8, fr⟩
    have hdm := List.mem_of_getElem? hd
    have hdn := hL d (hDL d hdm)
    have g1 : gA s 61 d = nI (f d) := by
      rw [fm_A fr (p := 61) rfl, h61 d hdn, if_pos (hDL d hdm)]
    unfold B_M_carry_11
    simp only [gd_gI (gi_in (show d < 2080 by omega) (by omega : 2080 ≤ 100000)), gi_cl (show d ≤ 100000 by omega), g1]
    by_cases hlast : k = D.length - 1
    · subst hlast
      have : d = 2 * s0 := Option.some.inj (hd.symm.trans hp.2.2.1)
      subst this
      rw [hf0, if_pos rfl]
      exact Or.inr ⟨s, rfl, h9, h8, fr⟩
    · have hds : d ≠ 2 * s0 := by
        intro e
        rw [e] at hd
        have := (List.getElem?_inj hk hDn).mp (hd.trans hp.2.2.1.symm)
        omega
      obtain ⟨hfm, hmv⟩ := pt_p hp hdm hds
      have hfn := hL _ (hDL _ hfm)
      have hk1 : D[k + 1]? = some (f d) := by
        have h1 : D[k + 1]? = some D[k + 1] := List.getElem?_eq_getElem (by omega)
        rw [h1, (hp.2.2.2 k d _ hd h1).1]
      have hfd : f d ≠ d := by
        intro e
        rw [e] at hk1
        have := (List.getElem?_inj hk hDn).mp (hd.trans hk1.symm)
        omega
      have tm : ∀ x, x ∈ D.take (k + 1) ↔ x ∈ D.take k ∨ x = d := fun x => tk_m hd
      have tn := tk_n hDn hd
      rw [if_neg (fun z => hfd ((gi_eq (by omega) (by omega)).mp z)), gd_j1, d2m (by omega), d2v (by omega), d2v (by omega)]
      refine Or.inl ?_
      by_cases same : f d / 2 = d / 2
      · rw [same, if_pos rfl, gd_t1]
        simp only [gd_gI (gi_in (show d / 2 < 1040 by omega) (by omega : 1040 ≤ 100000)), gi_cl (show d / 2 ≤ 100000 by omega), gd_s1]
        refine ⟨nI (f d), gs_A s 59 (d / 2) (vp_nar .boolean (if nI (d % 2) = 1 then 1 else 0)), D.length - (k + 1), by omega, ⟨k + 1, f d, by omega, rfl, rfl, hk1, fun v hv => ?_, fun u hu v hv => ?_, gd_fmA fr rfl⟩, rfl⟩
        · show (if v = d / 2 then vp_nar .boolean (if nI (d % 2) = 1 then 1 else 0) else gA s 59 v) = _
          by_cases e : v = d / 2
          · rw [if_pos e]
            by_cases od : d % 2 = 1
            · rw [od, if_pos (show nI 1 = 1 from rfl), sp_ot (P := c9 b f D (k + 1) v)]
              · rfl
              · refine Or.inl ⟨(tm _).mpr (Or.inr (by omega)), ?_⟩
                have : 2 * v + 1 = d := by omega
                rw [this]; omega
            · have z : d % 2 = 0 := by omega
              have dv : d = 2 * v := by omega
              rw [z, if_neg (show ¬ nI 0 = 1 by decide), sp_of (P := c9 b f D (k + 1) v)]
              · rfl
              · have fo : f (2 * v) = 2 * v + 1 := by rw [← dv]; omega
                rintro (⟨_, y⟩ | ⟨y, _⟩)
                · exact pt_2 hp (dv ▸ hdm) (dv ▸ hds) (by omega) (by rw [fo]; exact y)
                · exact y ⟨(tm _).mpr (Or.inr dv.symm), fo⟩
          · rw [if_neg e, h9 v hv]
            refine congrArg nI (sp_i1 ?_)
            have n1 : 2 * v + 1 ≠ d := by omega
            have n2 : 2 * v ≠ d := by omega
            unfold c9
            rw [tm, tm]
            simp [n1, n2]
        · show rbt (gA s 58) u v = true ↔ _
          rw [h8 u hu v hv]
          unfold c8
          rw [tm, tm]
          by_cases e1 : 2 * v = d
          · have : f (2 * v) = 2 * v + 1 := by rw [e1]; omega
            have n2 : 2 * u + 1 ≠ d := by omega
            have n3 : ¬ (f (2 * v) = 2 * u + 1 ∧ u ≠ v) := by omega
            simp only [n2, or_false]
            constructor
            · rintro (⟨_, z⟩ | z)
              · exact absurd z n3
              · exact Or.inr z
            · rintro (⟨_, z⟩ | z)
              · exact absurd z n3
              · exact Or.inr z
          · by_cases e2 : 2 * u + 1 = d
            · have : f (2 * u + 1) = 2 * u := by rw [e2]; omega
              have n3 : ¬ (f (2 * u + 1) = 2 * v ∧ u ≠ v) := by omega
              simp only [e1, or_false]
              constructor
              · rintro (z | ⟨_, z⟩)
                · exact Or.inl z
                · exact Or.inr ⟨fun y => n3 y.2, z⟩
              · rintro (z | ⟨_, z⟩)
                · exact Or.inl z
                · exact Or.inr ⟨fun y => n3 y.2, z⟩
            · simp only [e1, e2, or_false]
      · rw [if_neg (fun z => same ((gi_eq (by omega) (by omega)).mp z))]
        have c9k : ∀ v, c9 b f D (k + 1) v ↔ c9 b f D k v := by
          intro v
          unfold c9
          rw [tm, tm]
          by_cases e1 : 2 * v = d
          · have n1 : 2 * v + 1 ≠ d := by omega
            have n3 : ¬ f (2 * v) = 2 * v + 1 := by rw [e1]; omega
            simp only [n1, n3, or_false, and_false]
          · by_cases e2 : 2 * v + 1 = d
            · have n3 : ¬ f (2 * v + 1) = 2 * v := by rw [e2]; omega
              simp only [e1, n3, or_false, and_false]
            · simp only [e1, e2, or_false]
        by_cases ev : d % 2 = 0
        · rw [ev, if_pos (show nI 0 = 0 from rfl), tn_58 (by omega) (by omega), gd_01]
          have dv : d = 2 * (d / 2) := by omega
          have hfo : f d = 2 * (f d / 2) + 1 := by
            rw [dv] at hmv
            rcases mv_i hmv with ⟨z, _⟩ | ⟨w, z, _⟩
            · rw [← dv] at z; omega
            · rw [← dv] at z; omega
          generalize hu' : f d / 2 = u' at *
          generalize hv' : d / 2 = v' at *
          refine ⟨nI (f d), tn_s 58 s u' v', D.length - (k + 1), by omega, ⟨k + 1, f d, by omega, rfl, rfl, hk1, fun v hv => ?_, fun u hu v hv => ?_, gd_fmA fr rfl⟩, rfl⟩
          · show gA s 59 v = _
            rw [h9 v hv]
            exact congrArg nI (sp_i1 (c9k v).symm)
          · rw [tn_bit 58 s (by omega) (by omega)]
            by_cases e : u = u' ∧ v = v'
            · rw [if_pos e]
              obtain ⟨rfl, rfl⟩ := e
              have old : ¬ c8 b f D k u v := by
                rintro (⟨z, _⟩ | ⟨_, z⟩)
                · exact tn (dv ▸ z)
                · have hm2 : f (2 * v) = 2 * u + 1 := by rw [← dv]; exact hfo
                  obtain ⟨q1, q2⟩ := pt_p hp (show 2 * u + 1 ∈ D by rw [← hfo]; exact hfm) (by omega)
                  rcases mv_o q2 with ⟨_, y⟩ | ⟨w, y1, y2⟩
                  · exact (ok.2.1 u v z).2.2 y
                  · have : w = v := ok.2.2.1 u w v y2 z
                    subst this
                    exact pt_2 hp (show 2 * w ∈ D by rw [← dv]; exact hdm) (by rw [← dv]; exact hds) (by omega) (by rw [hm2]; exact y1)
              have ov : rbt (gA s 58) u v = false := by
                cases hz : rbt (gA s 58) u v with
                | false => rfl
                | true => exact absurd ((h8 u hu v hv).mp hz) old
              rw [ov]
              refine ⟨fun _ => Or.inl ⟨(tm _).mpr (Or.inr dv.symm), by rw [← dv]; exact hfo, by omega⟩, fun _ => rfl⟩
            · rw [if_neg e, h8 u hu v hv]
              unfold c8
              rw [tm, tm]
              have n2 : 2 * u + 1 ≠ d := by omega
              by_cases e1 : 2 * v = d
              · have n3 : ¬ (f (2 * v) = 2 * u + 1 ∧ u ≠ v) := by
                  rintro ⟨z, _⟩
                  rw [e1] at z
                  exact e (by omega)
                simp only [n2, or_false]
                constructor
                · rintro (⟨_, z⟩ | z)
                  · exact absurd z n3
                  · exact Or.inr z
                · rintro (⟨_, z⟩ | z)
                  · exact absurd z n3
                  · exact Or.inr z
              · simp only [e1, n2, or_false]
        · have od : d % 2 = 1 := by omega
          rw [od, if_neg (show ¬ nI 1 = 0 by decide), tn_58 (by omega) (by omega), gd_01]
          have dv : d = 2 * (d / 2) + 1 := by omega
          have hB : f d = 2 * (f d / 2) ∧ b (f d / 2) = some (some (d / 2)) := by
            rw [dv] at hmv
            rcases mv_o hmv with ⟨z, _⟩ | ⟨w, z, y⟩
            · rw [← dv] at z; omega
            · rw [← dv] at z
              have : f d / 2 = w := by omega
              rw [this]
              exact ⟨z, y⟩
          obtain ⟨hfo, hB⟩ := hB
          generalize hv' : f d / 2 = v' at *
          generalize hu' : d / 2 = u' at *
          refine ⟨nI (f d), tn_s 58 s u' v', D.length - (k + 1), by omega, ⟨k + 1, f d, by omega, rfl, rfl, hk1, fun v hv => ?_, fun u hu v hv => ?_, gd_fmA fr rfl⟩, rfl⟩
          · show gA s 59 v = _
            rw [h9 v hv]
            exact congrArg nI (sp_i1 (c9k v).symm)
          · rw [tn_bit 58 s (by omega) (by omega)]
            by_cases e : u = u' ∧ v = v'
            · rw [if_pos e]
              obtain ⟨rfl, rfl⟩ := e
              have old : c8 b f D k u v := Or.inr ⟨fun z => tn (dv ▸ z.1), hB⟩
              rw [(h8 u hu v hv).mpr old]
              refine ⟨fun z => (by cases z), fun z => ?_⟩
              rcases z with ⟨z1, z2, _⟩ | ⟨z, _⟩
              · exfalso
                have hvD : 2 * v ∈ D := List.mem_of_mem_take z1
                have hvs : 2 * v ≠ 2 * s0 := fun y => by rw [y, hf0] at z2; omega
                exact pt_2 hp hvD hvs (by omega) (by rw [z2, ← dv]; exact hfo)
              · exact absurd ⟨(tm _).mpr (Or.inr dv.symm), by rw [← dv]; exact hfo, by omega⟩ z
            · rw [if_neg e, h8 u hu v hv]
              unfold c8
              rw [tm, tm]
              have n2 : 2 * v ≠ d := by omega
              by_cases e1 : 2 * u + 1 = d
              · have n3 : ¬ (f (2 * u + 1) = 2 * v ∧ u ≠ v) := by
                  rintro ⟨z, _⟩
                  rw [e1] at z
                  exact e (by omega)
                simp only [n2, or_false]
                constructor
                · rintro (z | ⟨_, z⟩)
                  · exact Or.inl z
                  · exact Or.inr ⟨fun y => n3 y.2, z⟩
                · rintro (z | ⟨_, z⟩)
                  · exact Or.inl z
                  · exact Or.inr ⟨fun y => n3 y.2, z⟩
              · simp only [e1, n2, or_false]
  · rw [h59 v hv]
    refine congrArg nI (sp_i1 ?_)
    unfold c9
    simp
  · rw [h58 u hu v hv]
    unfold c8
    simp
