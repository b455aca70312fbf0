theorem rr_resolve {W : Nat → Int32} {n : Nat} {σ : gS} {ks : List kE} {m : mS} (hW : gA σ 42 = W) (hok : sp_ok W n) (hn : n ≤ 1040) (h : gK σ ks) (hm : aR σ m) (hc : m.2.2.2.2 ≤ 2048) (hk : ∀ e ∈ ks, e.1 < n ∧ sp_k W e.1 = 5 ∧ e.2.2.2.1 0 = 0) :
    (ks = [] ∨ ¬ m.2.2.2.2 ≤ 2046 → F_M_resolve σ = some (.inl (some (.int (-1))), σ)) ∧
    ∀ e t, ks = e :: t → m.2.2.2.2 ≤ 2046 →
      (nI (ke_o W e) = e.2.1 → ∃ σ', F_M_resolve σ = some (.inl (some (.int 1)), σ') ∧ gK σ' t ∧ aR σ' (mc_tell m 0 (nI (ke_o W e)))) ∧
      (¬ nI (ke_o W e) = e.2.1 → ∃ σ', F_M_resolve σ = some (.inl (some (.int 2)), σ') ∧ gK σ' [] ∧ aR σ' (ke_o W e, e.2.2.2.1, e.2.2.2.2, (mc_tell m 0 (nI (ke_o W e))).2.2.2)) := by
  obtain ⟨h2, h4, h5⟩ := h
  constructor
  · intro z
    unfold F_M_resolve
    cases ks with
    | nil => rw [h4, if_pos (show nI ([] : List kE).length = 0 from rfl)]
    | cons e t =>
      have hl : (e :: t).length ≤ 16 := h2
      rcases z with z | z
      · cases z
      · rw [h4, if_neg (nI_ne0 (by simp) (by omega)), hm.2.2.2.1, if_neg (show ¬ nI m.2.2.2.2 ≤ 2046 from fun y => z ((gi_le (b := 2046) (by omega) (by omega)).mp y))]
  · rintro e t rfl hr
    have hl : t.length + 1 ≤ 16 := h2
    have h4 : gI σ 41 18 = nI (t.length + 1) := h4
    obtain ⟨k1, k2, k3⟩ := hk e (List.mem_cons_self)
    obtain ⟨b1, b2, b3, b4, b5⟩ := h5 0 e rfl
    obtain ⟨a, ha, ea⟩ := sp_al (W e.1)
    obtain ⟨b, hb, eb⟩ := sp_bl (W e.1)
    have hra : gA σ 47 a = e.2.2.2.1 a := by have := b4 a (by omega); rwa [Nat.mul_zero, Nat.zero_add] at this
    have hrb : gA σ 47 b = e.2.2.2.1 b := by have := b4 b (by omega); rwa [Nat.mul_zero, Nat.zero_add] at this
    have hko : ke_o W e = mc_gl W e.1 (e.2.2.2.1 a) (e.2.2.2.1 b) := by unfold ke_o; rw [ea, eb, gi_cl (by omega), gi_cl (by omega)]
    obtain ⟨g1, g2⟩ := st_goal (σ := σ) hW hok hn k1 k2 (e.2.2.2.1 a) (e.2.2.2.1 b)
    rw [← hko] at g1 g2
    obtain ⟨e1, a1⟩ := st_radd hm (show m.2.2.2.2 < 2048 by omega) 0 (nI (ke_o W e))
    have hz : Int32.toNatClampNeg 0 = 0 := rfl
    have start : F_M_resolve σ = gd_g (gd_in 0 16) (if nI (ke_o W e) = (gA (st_rAdd σ 0 (nI (ke_o W e))) 50 0) then
        gd_s (gs_I (st_rAdd σ 0 (nI (ke_o W e))) 41 18 ((gI (st_rAdd σ 0 (nI (ke_o W e))) 41 18) - (1 : Int32))) fun s3 =>
        gd_j (α := gS → gR) (fun (s11 : gS) =>
         gd_j (α := gS → gR) (fun (s17 : gS) =>
          gd_lp (fun _ _ => none) (B_M_resolve_245) gd_N 0 s17) fun k15 =>
         gd_lp (fun _ _ => none) (B_M_resolve_211 k15) gd_N 0 s11) fun k7 =>
        gd_lp (fun _ _ => none) (B_M_resolve_153 k7) gd_N 0 s3
       else
        gd_j (α := gS → gR) (fun (s28 : gS) =>
         gd_j (α := gS → gR) (fun (s35 : gS) =>
          gd_s (gs_I s35 41 7 (nI (ke_o W e))) fun s36 =>
          gd_s (gs_I s36 41 18 0) fun s37 =>
          some (.inl (some (.int 2)), s37)) fun k33 =>
         gd_lp (fun _ _ => none) (B_M_resolve_104 k33 (nI (ke_o W e))) gd_N 0 s28) fun k26 =>
        gd_lp (fun _ _ => none) (B_M_resolve_78 k26 (nI (ke_o W e))) gd_N 0 (st_rAdd σ 0 (nI (ke_o W e)))) := by
      unfold F_M_resolve
      rw [h4, if_neg (nI_ne0 (by omega) (by omega)), hm.2.2.2.1, if_pos (show nI m.2.2.2.2 ≤ 2046 from (gi_le (b := 2046) (by omega) (by omega)).mpr hr)]
      simp only [hz, b1, gd_gI (show gd_in 0 16 by decide), gd_gI (gi_in (show e.1 < 1040 by omega) (by omega : 1040 ≤ 100000)), gi_cl (show e.1 ≤ 100000 by omega)]
      rw [hW, ea, eb]
      simp only [gd_gI (gi_in (show a < 512 by omega) (by omega : 512 ≤ 100000)), gd_gI (gi_in (show b < 512 by omega) (by omega : 512 ≤ 100000)), gi_cl (show a ≤ 100000 by omega), gi_cl (show b ≤ 100000 by omega), hra, hrb, g1, gd_qi1, e1, gd_01]
    rw [start, gd_gI (show gd_in 0 16 by decide), show gA (st_rAdd σ 0 (nI (ke_o W e))) 50 0 = e.2.1 from b2]
    constructor
    · intro c
      rw [if_pos c, gd_s1, gd_j1, show gI (st_rAdd σ 0 (nI (ke_o W e))) 41 18 = nI (t.length + 1) from h4, mc_m1, cp_r153 _ _ (show t.length < 16 by omega) rfl, gd_j1, cp_r211 _ _ (show t.length < 16 by omega) rfl, cp_r245 _ (show t.length < 16 by omega) rfl]
      refine ⟨_, rfl, ⟨by omega, rfl, fun i e' he => ?_⟩, ⟨a1.1, a1.2.1, a1.2.2.1, a1.2.2.2.1, a1.2.2.2.2⟩⟩
      have hi : i < t.length := (List.getElem?_eq_some_iff.mp he).1
      obtain ⟨c1, c2, c3, c4, c5⟩ := h5 (i + 1) e' (by simpa using he)
      refine ⟨?_, ?_, ?_, fun r hr => ?_, fun a ha => ?_⟩
      · refine Eq.trans (show _ = gA σ 49 (i + 1) from if_pos (by omega)) c1
      · refine Eq.trans (show _ = gA σ 50 (i + 1) from if_pos (by omega)) c2
      · rw [← c3]
        refine congrArg (fun z => gI σ 41 19 - z) (show _ = gA σ 51 (i + 1) from if_pos (by omega))
      · refine Eq.trans (show _ = gA σ 47 (32 * i + r + 32) from if_pos (by omega)) ?_
        rw [show 32 * i + r + 32 = 32 * (i + 1) + r by omega]
        exact c4 r hr
      · refine Eq.trans (show _ = gA σ 48 (256 * i + a + 256) from if_pos (by omega)) ?_
        rw [show 256 * i + a + 256 = 256 * (i + 1) + a by omega]
        exact c5 a ha
    · intro c
      rw [if_neg c, gd_j1, cp_r78, gd_j1, cp_r104, gd_s1, gd_s1]
      refine ⟨_, rfl, ⟨by simp, rfl, fun i e' he => by simp at he⟩, ⟨rfl, fun r hr => ?_, fun a ha => ?_, a1.2.2.2.1, a1.2.2.2.2⟩⟩
      · refine Eq.trans (show _ = gA σ 47 (r - 0) from if_pos (by omega)) ?_
        have := b4 r hr
        rwa [Nat.mul_zero, Nat.zero_add] at this
      · refine Eq.trans (show _ = gA σ 48 (a - 0) from if_pos (by omega)) ?_
        have := b5 a ha
        rwa [Nat.mul_zero, Nat.zero_add] at this
