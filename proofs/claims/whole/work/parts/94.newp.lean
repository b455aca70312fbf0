noncomputable def nm (C : Nat → Prop) (p : Nat) : Nat := p + sp_n C p
theorem nm_s (C : Nat → Prop) (p : Nat) : nm C (p + 1) = nm C p + 1 + sp_i (C p) := by
  unfold nm
  show p + 1 + (sp_n C p + sp_i (C p)) = _
  omega
theorem nm_lt {C : Nat → Prop} {p : Nat} : ∀ {q : Nat}, p < q → nm C p + sp_i (C p) < nm C q
  | 0, h => absurd h (Nat.not_lt_zero p)
  | q + 1, h => by
    rw [nm_s C q]
    by_cases e : p = q
    · subst e; omega
    · have := nm_lt (C := C) (show p < q by omega)
      omega
theorem nm_le {C : Nat → Prop} {p q : Nat} (h : p ≤ q) : nm C p ≤ nm C q := by
  by_cases e : p = q
  · subst e; exact Nat.le_refl _
  · have := nm_lt (C := C) (show p < q by omega)
    omega
theorem nm_lti {C : Nat → Prop} {p q : Nat} (h : nm C p < nm C q) : p < q := by
  refine Classical.byContradiction fun z => ?_
  have := nm_le (C := C) (show q ≤ p by omega)
  omega
theorem nm_inj {C : Nat → Prop} {p q : Nat} (h : nm C p = nm C q) : p = q := by
  refine Classical.byContradiction fun z => ?_
  rcases Nat.lt_or_gt_of_ne z with y | y
  · have := nm_lt (C := C) y; omega
  · have := nm_lt (C := C) y; omega
theorem nm_ne {C : Nat → Prop} {p q : Nat} (hp : C p) : ¬ nm C p + 1 = nm C q := fun z => by
  by_cases y : q ≤ p
  · have := nm_le (C := C) y; omega
  · have := nm_lt (C := C) (show p < q by omega)
    rw [sp_it hp] at this
    omega
theorem nm_ge (C : Nat → Prop) (p : Nat) : p ≤ nm C p := by unfold nm; omega
theorem nm_cov {C : Nat → Prop} : ∀ {n i : Nat}, i < nm C n → ∃ p, p < n ∧ (i = nm C p ∨ (C p ∧ i = nm C p + 1))
  | 0, i, h => absurd h (Nat.not_lt_zero i)
  | n + 1, i, h => by
    by_cases c : i < nm C n
    · obtain ⟨p, h1, h2⟩ := nm_cov c
      exact ⟨p, by omega, h2⟩
    · rw [nm_s] at h
      by_cases e : i = nm C n
      · exact ⟨n, by omega, Or.inl e⟩
      · by_cases hc : C n
        · rw [sp_it hc] at h
          exact ⟨n, by omega, Or.inr ⟨hc, by omega⟩⟩
        · rw [sp_if hc] at h
          omega
noncomputable def nof (W : Nat → Int32) (n p : Nat) : Int32 := (4 : Int32) * (nI (nm (sp_C W n) (sp_t W p).toNatClampNeg) - nI (nm (sp_C W n) p))
noncomputable def nwd (W : Nat → Int32) (n p : Nat) : Int32 := if sp_k W p = 5 then f_M_branchWith (W p) (nof W n p) else if sp_k W p = 6 then f_M_jumpWith (W p) (nof W n p) else W p
def nH (W : Nat → Int32) (n : Nat) (V : Nat → Int32) : Prop := sp_ok W n ∧ n ≤ 1040 ∧ nm (sp_C W n) n ≤ 1040 ∧ (∀ p, p < n → sp_k W p = 5 → -4096 ≤ (nof W n p).toInt ∧ (nof W n p).toInt ≤ 4094) ∧ (∀ p, p < n → V (nm (sp_C W n) p) = nwd W n p) ∧ (∀ p, p < n → sp_C W n p → V (nm (sp_C W n) p + 1) = 267386895) ∧ (∀ p, sp_C W n p → sp_T W n p)
theorem nV {W V : Nat → Int32} {n p : Nat} (h : nH W n V) (hp : p < n) : sp_k V (nm (sp_C W n) p) = sp_k W p ∧ sp_r V (nm (sp_C W n) p) = sp_r W p ∧ sp_a V (nm (sp_C W n) p) = sp_a W p ∧ sp_b V (nm (sp_C W n) p) = sp_b W p ∧ ∀ r, sp_B V (nm (sp_C W n) p) r → sp_B W p r := by
  have e := h.2.2.2.2.1 p hp
  unfold nwd at e
  by_cases k5 : sp_k W p = 5
  · rw [if_pos k5] at e
    have kV : sp_k V (nm (sp_C W n) p) = 5 := by
      show f_M_kindOf (V (nm (sp_C W n) p)) = 5
      rw [e]; exact bw_k _ k5
    have ea : f_M_a (V (nm (sp_C W n) p)) = f_M_a (W p) := by rw [e, bw_a]
    have eb : f_M_b (V (nm (sp_C W n) p)) = f_M_b (W p) := by rw [e, bw_b]
    refine ⟨kV.trans k5.symm, ?_, ?_, ?_, fun r hr => ?_⟩
    · unfold sp_r; rw [kV, k5, if_pos (by decide), if_pos (by decide)]
    · unfold sp_a; rw [kV, k5, if_pos (by decide), if_pos (by decide)]; exact ea
    · unfold sp_b; rw [kV, k5, if_pos (by decide), if_pos (by decide)]; exact eb
    · unfold sp_B at hr ⊢
      rw [kV, ea, eb] at hr
      rcases hr with ⟨z, _⟩ | ⟨_, z⟩
      · rcases z with z | z <;> exact absurd z (by decide)
      · exact Or.inr ⟨Or.inl k5, z⟩
  · rw [if_neg k5] at e
    by_cases k6 : sp_k W p = 6
    · rw [if_pos k6] at e
      have kV : sp_k V (nm (sp_C W n) p) = 6 := by
        show f_M_kindOf (V (nm (sp_C W n) p)) = 6
        rw [e]; exact jw_k _ k6
      refine ⟨kV.trans k6.symm, ?_, ?_, ?_, fun r hr => ?_⟩
      · unfold sp_r; rw [kV, k6, if_pos (by decide), if_pos (by decide)]
      · unfold sp_a; rw [kV, k6, if_neg (by decide), if_neg (by decide)]
      · unfold sp_b; rw [kV, k6, if_neg (by decide), if_neg (by decide)]
      · exfalso
        unfold sp_B at hr
        rw [kV] at hr
        rcases hr with ⟨z, _⟩ | ⟨z, _⟩
        · rcases z with z | z <;> exact absurd z (by decide)
        · rcases z with z | z
          · exact absurd z (by decide)
          · exact absurd (kV.symm.trans (isd_k z)) (by decide)
    · rw [if_neg k6] at e
      refine ⟨?_, ?_, ?_, ?_, fun r hr => ?_⟩
      · show f_M_kindOf (V (nm (sp_C W n) p)) = f_M_kindOf (W p)
        rw [e]
      · unfold sp_r sp_k
        rw [e]
      · unfold sp_a sp_k
        rw [e]
      · unfold sp_b sp_k
        rw [e]
      · unfold sp_B sp_k at hr ⊢
        rw [e] at hr; exact hr
theorem nF {W V : Nat → Int32} {n p : Nat} (h : nH W n V) (hp : p < n) (hC : sp_C W n p) : sp_k V (nm (sp_C W n) p + 1) = 7 ∧ sp_a V (nm (sp_C W n) p + 1) = -1 ∧ sp_b V (nm (sp_C W n) p + 1) = -1 := by
  have e := h.2.2.2.2.2.1 p hp hC
  have kV : sp_k V (nm (sp_C W n) p + 1) = 7 := by
    show f_M_kindOf (V (nm (sp_C W n) p + 1)) = 7
    rw [e]; decide
  refine ⟨kV, ?_, ?_⟩
  · unfold sp_a; rw [kV, if_neg (by decide)]
  · unfold sp_b; rw [kV, if_neg (by decide)]
theorem nT {W V : Nat → Int32} {n p : Nat} (h : nH W n V) (hp : p < n) (hk : sp_k W p = 5 ∨ sp_k W p = 6) : ∃ t, t ≤ n ∧ sp_t W p = nI t ∧ f_M_offset (V (nm (sp_C W n) p)) = (4 : Int32) * (nI (nm (sp_C W n) t) - nI (nm (sp_C W n) p)) ∧ sp_t V (nm (sp_C W n) p) = nI (nm (sp_C W n) t) := by
  obtain ⟨hok, hn, hN, hr, hV, _, _⟩ := id h
  obtain ⟨t, ht, e1, _⟩ := sp_tt hok hn hp hk
  have hMt : nm (sp_C W n) t ≤ 1040 := Nat.le_trans (nm_le ht) hN
  have hMp : nm (sp_C W n) p ≤ 1040 := Nat.le_trans (nm_le (by omega)) hN
  have eo : nof W n p = (4 : Int32) * (nI (nm (sp_C W n) t) - nI (nm (sp_C W n) p)) := by
    unfold nof
    rw [e1, gi_cl (by omega)]
  have ei := of4 hMt hMp
  have key : f_M_offset (V (nm (sp_C W n) p)) = (4 : Int32) * (nI (nm (sp_C W n) t) - nI (nm (sp_C W n) p)) := by
    rw [hV p hp]
    unfold nwd
    rcases hk with k5 | k6
    · have hr := hr p hp k5
      rw [if_pos k5, ← eo]
      rw [eo, ei] at hr
      refine bw_o (kd_5 k5) ?_ ?_ ?_
      · rw [eo, ei]; omega
      · rw [eo, ei]; omega
      · rw [eo, ei]; omega
    · rw [if_neg (fun z => absurd (z.symm.trans k6) (by decide)), if_pos k6, ← eo]
      refine jw_o (fun z => absurd (z.symm.trans (kd_6 k6).1) (by decide)) ?_ ?_ ?_
      · rw [eo, ei]; omega
      · rw [eo, ei]; omega
      · rw [eo, ei]; omega
  refine ⟨t, ht, e1, key, ?_⟩
  unfold sp_t
  rw [(nV h hp).1, if_pos hk, key, of4d hMt hMp]
theorem nO {W V : Nat → Int32} {n : Nat} (h : nH W n V) : sp_ok V (nm (sp_C W n) n) := by
  obtain ⟨hok, hn, hN, hr, hV, hF, _⟩ := id h
  intro i hi
  obtain ⟨p, hp, e | ⟨hC, e⟩⟩ := nm_cov hi
  · subst e
    have hold := hok p hp
    by_cases hk : sp_k W p = 5 ∨ sp_k W p = 6
    · obtain ⟨t, ht, e1, e2, e3⟩ := nT h hp hk
      have hMt : nm (sp_C W n) t ≤ nm (sp_C W n) n := nm_le ht
      have hMp : nm (sp_C W n) p ≤ 1040 := by omega
      have kV : f_M_kindOf (V (nm (sp_C W n) p)) = sp_k W p := (nV h hp).1
      have code : ¬ V (nm (sp_C W n) p) &&& 127 = 103 ∧ ¬ V (nm (sp_C W n) p) &&& 127 = 23 ∧ ¬ (V (nm (sp_C W n) p) &&& 127 = 111 ∧ ¬ f_M_d (V (nm (sp_C W n) p)) = 0) := by
        rcases hk with k | k
        · have := kd_5 (kV.trans k)
          rw [this]; exact ⟨by decide, by decide, fun z => absurd z.1 (by decide)⟩
        · obtain ⟨y1, y2⟩ := kd_6 (kV.trans k)
          rw [y1, y2]; exact ⟨by decide, by decide, fun z => z.2 rfl⟩
      unfold f_fo
      rw [if_neg code.1, if_neg code.2.1, if_neg code.2.2, kV, if_neg (fun z => by rcases hk with k | k <;> exact absurd (k.symm.trans z) (by decide)), if_pos hk, e2, of4d (by omega) hMp]
      exact if_pos ⟨of43 (by omega) hMp, nI_pos (by omega), fun z => by have := (gi_lt (by omega) (by omega)).mp z; omega⟩
    · have e := hV p hp
      unfold nwd at e
      rw [if_neg (fun z => hk (Or.inl z)), if_neg (fun z => hk (Or.inr z))] at e
      rw [e]
      unfold f_fo at hold ⊢
      rw [if_neg (show ¬ (f_M_kindOf (W p) = 5 ∨ f_M_kindOf (W p) = 6) from hk)] at hold ⊢
      exact hold
  · subst e
    rw [hF p hp hC]
    unfold f_fo
    rw [if_neg (by decide), if_neg (by decide), if_neg (by decide), if_neg (by decide), if_neg (by decide)]
theorem nx {W V : Nat → Int32} {n p q' : Nat} (h : nH W n V) (hp : p < n) (hx : sp_x V (nm (sp_C W n) n) (nm (sp_C W n) p) q') : (sp_C W n p ∧ q' = nm (sp_C W n) p + 1) ∨ (¬ sp_C W n p ∧ ∃ q, q' = nm (sp_C W n) q ∧ sp_x W n p q) := by
  obtain ⟨hok, hn, hN, hr, hV, hF, hT⟩ := id h
  obtain ⟨hq, hx⟩ := hx
  rw [(nV h hp).1] at hx
  by_cases c : sp_C W n p
  · left
    refine ⟨c, ?_⟩
    rcases hx with ⟨_, _, z⟩ | ⟨z, _⟩
    · exact z
    · exfalso
      rcases sp_Tk (hT p c) with k | k | k <;> rcases z with z | z <;> exact absurd (k.symm.trans z) (by decide)
  · right
    refine ⟨c, ?_⟩
    rcases hx with ⟨z1, z2, z3⟩ | ⟨z1, z2⟩
    · have e : q' = nm (sp_C W n) (p + 1) := by rw [nm_s, sp_if c]; omega
      rw [e] at hq
      exact ⟨p + 1, e, nm_lti hq, Or.inl ⟨z1, z2, rfl⟩⟩
    · obtain ⟨t, ht, e1, e2, e3⟩ := nT h hp z1
      have hMt : nm (sp_C W n) t ≤ nm (sp_C W n) n := nm_le ht
      rw [e3] at z2
      have e : q' = nm (sp_C W n) t := (gi_eq (by omega) (by omega)).mp z2
      rw [e] at hq
      exact ⟨t, e, nm_lti hq, Or.inr ⟨z1, e1.symm⟩⟩
theorem ng {W V : Nat → Int32} {n q' : Nat} (h : nH W n V) (hg : sp_g V (nm (sp_C W n) n) q') : (∃ q, q < n ∧ q' = nm (sp_C W n) q ∧ sp_g W n q) ∨ ∃ q, q < n ∧ sp_C W n q ∧ q' = nm (sp_C W n) q + 1 := by
  refine hg (fun q' => (∃ q, q < n ∧ q' = nm (sp_C W n) q ∧ sp_g W n q) ∨ ∃ q, q < n ∧ sp_C W n q ∧ q' = nm (sp_C W n) q + 1) (fun p' q' hp' k5 hx => ?_) (fun p' q' hP k7 hx => ?_)
  · obtain ⟨p, hp, e | ⟨hC, e⟩⟩ := nm_cov hp'
    · rw [e] at hx k5
      rw [(nV h hp).1] at k5
      rcases nx h hp hx with ⟨c, z⟩ | ⟨_, q, z, hy⟩
      · exact Or.inr ⟨p, hp, c, z⟩
      · exact Or.inl ⟨q, hy.1, z, fun P h1 h2 => h1 p q hp k5 hy⟩
    · rw [e, (nF h hp hC).1] at k5
      exact absurd k5 (by decide)
  · rcases hP with ⟨p, hp, e, hgp⟩ | ⟨p, hp, hC, e⟩
    · rw [e] at hx k7
      rw [(nV h hp).1] at k7
      rcases nx h hp hx with ⟨c, z⟩ | ⟨_, q, z, hy⟩
      · exact Or.inr ⟨p, hp, c, z⟩
      · exact Or.inl ⟨q, hy.1, z, fun P h1 h2 => h2 p q (hgp P h1 h2) k7 hy⟩
    · rw [e] at k7
      exact absurd (nF h hp hC).1 k7
theorem ns {W V : Nat → Int32} {n p q' : Nat} (h : nH W n V) (hp : p < n) (hC : ¬ sp_C W n p) (hs : sp_s V (nm (sp_C W n) n) (nm (sp_C W n) p) q') : (∃ q, q < n ∧ q' = nm (sp_C W n) q ∧ sp_s W n p q) ∨ ∃ q, q < n ∧ sp_C W n q ∧ q' = nm (sp_C W n) q + 1 := by
  refine hs (fun q' => (∃ q, q < n ∧ q' = nm (sp_C W n) q ∧ sp_s W n p q) ∨ ∃ q, q < n ∧ sp_C W n q ∧ q' = nm (sp_C W n) q + 1) (fun q' hx => ?_) (fun p' q' hP k7 hr hx => ?_)
  · rcases nx h hp hx with ⟨c, _⟩ | ⟨_, q, z, hy⟩
    · exact absurd c hC
    · exact Or.inl ⟨q, hy.1, z, fun P h1 h2 => h1 q hy⟩
  · rcases hP with ⟨u, hu, e, hsu⟩ | ⟨u, hu, hCu, e⟩
    · rw [e] at hx k7 hr
      rw [(nV h hu).1] at k7
      rw [(nV h hu).2.1, (nV h hp).2.1] at hr
      rcases nx h hu hx with ⟨c, z⟩ | ⟨_, q, z, hy⟩
      · exact Or.inr ⟨u, hu, c, z⟩
      · exact Or.inl ⟨q, hy.1, z, fun P h1 h2 => h2 u q (hsu P h1 h2) k7 hr hy⟩
    · rw [e] at k7
      exact absurd (nF h hu hCu).1 k7
theorem nu {W V : Nat → Int32} {n p v' : Nat} (h : nH W n V) (hp : p < n) (hC : sp_C W n p) : ¬ (sp_a V (nm (sp_C W n) p + 1) = sp_r V v' ∨ sp_b V (nm (sp_C W n) p + 1) = sp_r V v') := fun z => by
  obtain ⟨k, hk, e⟩ := sp_rl V v'
  rw [(nF h hp hC).2.1, (nF h hp hC).2.2, e] at z
  rcases z with z | z <;> exact gi_m1 (by omega) z.symm
theorem nc {W V : Nat → Int32} {n p u' : Nat} (h : nH W n V) (hp : p < n) (hC : ¬ sp_C W n p) (hc : sp_c V (nm (sp_C W n) n) (nm (sp_C W n) p) u') : ∃ u, u < n ∧ u' = nm (sp_C W n) u ∧ sp_c W n p u := by
  obtain ⟨h1, h2, h3⟩ := hc
  rcases ns h hp hC h2 with ⟨u, hu, e, hsu⟩ | ⟨u, hu, hCu, e⟩
  · refine ⟨u, hu, e, ?_, hsu, ?_⟩
    · rw [(nV h hp).2.1] at h1; exact h1
    · rw [e, (nV h hu).2.2.1, (nV h hu).2.2.2.1, (nV h hp).2.1] at h3; exact h3
  · rw [e] at h3
    exact absurd h3 (nu h hu hCu)
theorem nc0 {W V : Nat → Int32} {n p u' : Nat} (h : nH W n V) (hp : p < n) (hC : sp_C W n p) : ¬ sp_c V (nm (sp_C W n) n) (nm (sp_C W n) p) u' := fun hc => by
  obtain ⟨h1, h2, h3⟩ := hc
  have e : u' = nm (sp_C W n) p + 1 := h2 (fun q => q = nm (sp_C W n) p + 1) (fun q hx => by
    rcases nx h hp hx with ⟨_, z⟩ | ⟨c, _⟩
    · exact z
    · exact absurd hC c) (fun p' q hP k7 _ _ => by
    rw [hP] at k7
    exact absurd (nF h hp hC).1 k7)
  rw [e] at h3
  exact nu h hp hC h3
def nOo (W : Nat → Int32) (n : Nat) (O : Nat → Prop) : Prop := (∀ v, sp_S W n v → sp_C W n v ∨ O v) ∧ (∀ u v, O u → sp_E W n u v → sp_C W n v ∨ O v) ∧ ∀ v, sp_e W n v → ¬ O v
theorem nTt {W V : Nat → Int32} {n v' : Nat} {O : Nat → Prop} (h : nH W n V) (hO : nOo W n O) (hT : sp_T V (nm (sp_C W n) n) v') : ∃ p, p < n ∧ v' = nm (sp_C W n) p ∧ sp_T W n p ∧ (sp_C W n p ∨ O p) := by
  refine hT (fun v' => ∃ p, p < n ∧ v' = nm (sp_C W n) p ∧ sp_T W n p ∧ (sp_C W n p ∨ O p)) (fun p' hp' k3 hg hr => ?_) (fun v' u' hP hc hk hr => ?_)
  · obtain ⟨p, hp, e | ⟨hC, e⟩⟩ := nm_cov hp'
    · rw [e] at k3 hg hr
      rw [(nV h hp).1] at k3
      rw [(nV h hp).2.1] at hr
      have hgp : sp_g W n p := by
        rcases ng h hg with ⟨q, _, z, hq⟩ | ⟨q, _, hq, z⟩
        · rw [nm_inj z]; exact hq
        · exact absurd z.symm (nm_ne hq)
      have hTp : sp_T W n p := fun P h1 _ => h1 p hp k3 hgp hr
      exact ⟨p, hp, e, hTp, hO.1 p ⟨hTp, k3⟩⟩
    · rw [e, (nF h hp hC).1] at k3
      exact absurd k3 (by decide)
  · obtain ⟨p, hp, e, hTp, hCO⟩ := hP
    rw [e] at hc
    by_cases c : sp_C W n p
    · exact absurd hc (nc0 h hp c)
    · obtain ⟨u, hu, e2, hcu⟩ := nc h hp c hc
      rw [e2] at hk hr
      rw [(nV h hu).1] at hk
      rw [(nV h hu).2.1] at hr
      exact ⟨u, hu, e2, fun P h1 h2 => h2 p u (hTp P h1 h2) hcu hk hr, hO.2.1 p u (hCO.resolve_left c) ⟨hTp, hcu, hk, hr⟩⟩
theorem nX {W V : Nat → Int32} {n : Nat} {O : Nat → Prop} (h : nH W n V) (hO : nOo W n O) (u : Nat) : ¬ sp_X V (nm (sp_C W n) n) u := by
  rintro ⟨v', hT, hc, hB⟩
  obtain ⟨p, hp, e, hTp, hCO⟩ := nTt h hO hT
  rw [e] at hc hB
  by_cases c : sp_C W n p
  · exact nc0 h hp c hc
  · obtain ⟨q, hq, e2, hcq⟩ := nc h hp c hc
    rw [e2, (nV h hp).2.1] at hB
    exact hO.2.2 p ⟨hTp, q, hcq, (nV h hq).2.2.2.2 _ hB⟩ (hCO.resolve_left c)
theorem cut_ex {n : Nat} {σ : gS} {W : Nat → Int32} (hW : gA σ 42 = W) (hD : rD n σ) (hC : rRC n σ) : ∃ O, nOo W n O ∧ ∀ v, sp_C W n v → sp_T W n v := by
  obtain ⟨s1, T, g1, g2, g3, g4, g5, g6, g7⟩ := sd_all hW hD hC
  have f1 := K_Taint_spread _ _ g1
  have w1 : gA s1 42 = W := (fm_A f1 rfl).trans hW
  have hk : ck W n s1 T := ⟨w1, rD_sm hD (fm_sm f1 rfl), g2, g3, g4, fun v hv q hq => by
    have := g7.1 v (sp_Tl hv) (g6 v ((g4 v).mpr hv)) q hq
    rwa [w1] at this, g5.2.1⟩
  obtain ⟨s2, k1, k2⟩ := cpr hk
  obtain ⟨s3, b, Z, l1, l2, l3, l4, l5⟩ := cf_22 (fun s => some (.inl none, s)) (ck_fm hk (K_Cut_prepare _ _ k1) rfl rfl) k2
  have key : ∀ v, (sp_S W n v ∨ Z (2 * v)) → sp_C W n v ∨ Z (2 * v + 1) := by
    intro v hv
    by_cases c : Z (2 * v + 1)
    · exact Or.inr c
    · refine Or.inl ((kI_C l3 l4 v).mpr ⟨hv, c, fun hb => c ?_⟩)
      have h2 : Z (2 * v) := by
        rcases hv with z | z
        · exact (l4 v z).resolve_left (fun y => y hb)
        · exact z
      exact l3.2.1 _ _ h2 (Or.inl ⟨v, rfl, rfl, hb⟩)
  refine ⟨fun v => Z (2 * v + 1), ⟨fun v hv => key v (Or.inl hv), fun u v hu hE => key v (Or.inr (l3.2.1 _ _ hu (Or.inr (Or.inr (Or.inr ⟨u, v, rfl, rfl, hE⟩))))), fun v he hO => l3.2.2.1 v hO he⟩, fun v hv => ?_⟩
  rcases ((kI_C l3 l4 v).mp hv).1 with y | y
  · exact y.1
  · have := (l3.2.2.2.2.2 _ y).2
    rwa [show 2 * v / 2 = v by omega] at this
