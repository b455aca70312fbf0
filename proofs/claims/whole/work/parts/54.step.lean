abbrev mS : Type := Nat × (Nat → Int32) × (Nat → Int32) × (Nat → Int64) × Nat
def mc_lv (s v : Int32) : Int64 := ((Int32.toInt64 s) <<< (Int32.toInt64 (32 : Int32) &&& 63)) ||| ((Int32.toInt64 v) &&& (4294967295 : Int64))
def mc_tell (m : mS) (s v : Int32) : mS := (m.1, m.2.1, m.2.2.1, (fun i => if i = m.2.2.2.2 then mc_lv s v else m.2.2.2.1 i), m.2.2.2.2 + 1)
def mc_set (m : mS) (r : Nat) (v : Int32) : mS := (m.1, (fun i => if i = r ∧ ¬ r = 0 then v else m.2.1 i), m.2.2)
def mc_go (m : mS) (p : Nat) : mS := (p, m.2)
def mc_mem (m : mS) (f : Nat → Int32) : mS := (m.1, m.2.1, f, m.2.2.2)
def aC (σ : gS) (m : mS) : Prop := gI σ 10 5 = nI m.1 ∧ (∀ r, r < 32 → gA σ 11 r = m.2.1 r) ∧ (∀ a, a < 256 → fits .byte (.int (gA σ 12 a)) = true ∧ gA σ 12 a &&& 255 = m.2.2.1 a) ∧ gI σ 13 1 = nI m.2.2.2.2 ∧ ∀ i, i < m.2.2.2.2 → gL σ 14 i = m.2.2.2.1 i
def aR (σ : gS) (m : mS) : Prop := gI σ 41 7 = nI m.1 ∧ (∀ r, r < 32 → gA σ 44 r = m.2.1 r) ∧ (∀ a, a < 256 → gA σ 45 a = m.2.2.1 a) ∧ gI σ 41 11 = nI m.2.2.2.2 ∧ ∀ i, i < m.2.2.2.2 → gL σ 46 i = m.2.2.2.1 i
def st_cAdd (σ : gS) (s v : Int32) : gS := gs_I (gs_L σ 14 (gI σ 13 1).toNatClampNeg (mc_lv s v)) 13 1 (gI σ 13 1 + 1)
theorem st_cadd {σ : gS} {m : mS} (h : aC σ m) (hc : m.2.2.2.2 < 2048) (s v : Int32) : F_Leaks_add s v σ = some (.inl none, st_cAdd σ s v) ∧ aC (st_cAdd σ s v) (mc_tell m s v) := by
  obtain ⟨h1, h2, h3, h4, h5⟩ := h
  constructor
  · unfold F_Leaks_add
    rw [if_neg (fun z => by rw [h4] at z; have := (gi_le (a := 2048) (by omega) (by omega)).mp z; omega), gd_gI (by rw [h4]; exact gi_in hc (by omega))]
    rfl
  · refine ⟨h1, h2, h3, ?_, ?_⟩
    · show gI σ 13 1 + 1 = _
      rw [h4]; exact nI_1 _
    · intro i hi
      show gL (gs_L σ 14 (gI σ 13 1).toNatClampNeg (mc_lv s v)) 14 i = if i = m.2.2.2.2 then mc_lv s v else m.2.2.2.1 i
      rw [gL_L, if_pos rfl, h4, gi_cl (by omega)]
      by_cases z : i = m.2.2.2.2
      · rw [if_pos z, if_pos z]
      · rw [if_neg z, if_neg z]
        have hi2 : i < m.2.2.2.2 + 1 := hi
        exact h5 i (by omega)
def st_rAdd (σ : gS) (s v : Int32) : gS := gs_I (gs_L σ 46 (gI σ 41 11).toNatClampNeg (mc_lv s v)) 41 11 (gI σ 41 11 + 1)
theorem st_radd {σ : gS} {m : mS} (h : aR σ m) (hc : m.2.2.2.2 < 2048) (s v : Int32) : F_M_tell s v σ = some (.inl none, st_rAdd σ s v) ∧ aR (st_rAdd σ s v) (mc_tell m s v) := by
  obtain ⟨h1, h2, h3, h4, h5⟩ := h
  constructor
  · unfold F_M_tell
    rw [gd_gI (by rw [h4]; exact gi_in hc (by omega))]
    rfl
  · refine ⟨h1, h2, h3, ?_, ?_⟩
    · show gI σ 41 11 + 1 = _
      rw [h4]; exact nI_1 _
    · intro i hi
      show gL (gs_L σ 46 (gI σ 41 11).toNatClampNeg (mc_lv s v)) 46 i = if i = m.2.2.2.2 then mc_lv s v else m.2.2.2.1 i
      rw [gL_L, if_pos rfl, h4, gi_cl (by omega)]
      by_cases z : i = m.2.2.2.2
      · rw [if_pos z, if_pos z]
      · rw [if_neg z, if_neg z]
        have hi2 : i < m.2.2.2.2 + 1 := hi
        exact h5 i (by omega)
theorem st_val {σ : gS} {m : mS} (h : aC σ m) (h0 : m.2.1 0 = 0) {r : Nat} (hr : r ≤ 31) : R_Machine_value (nI r) σ = some (.inl (some (.int (m.2.1 r)))) := by
  unfold R_Machine_value
  by_cases z : r = 0
  · subst z
    rw [if_pos (by decide), h0]
  · rw [if_neg (nI_nle (by omega) (by omega)), if_neg (fun y => by have := (gi_le (a := 32) (by omega) (by omega)).mp y; omega), gd_gI (gi_in (by omega) (by omega)), gi_cl (by omega), h.2.1 r (by omega)]
def st_cPut (σ : gS) (r : Nat) (v : Int32) : gS := if r = 0 then σ else gs_A σ 11 r v
theorem st_cput {σ : gS} {m : mS} (h : aC σ m) {r : Nat} (hr : r ≤ 31) (v : Int32) : F_Machine_put (nI r) v σ = some (.inl none, st_cPut σ r v) ∧ aC (st_cPut σ r v) (mc_set m r v) := by
  unfold F_Machine_put st_cPut
  by_cases z : r = 0
  · subst z
    rw [if_pos (by decide), if_pos rfl]
    refine ⟨rfl, h.1, fun i hi => ?_, h.2.2⟩
    show _ = if i = 0 ∧ ¬ 0 = 0 then v else m.2.1 i
    rw [if_neg (fun y => y.2 rfl)]
    exact h.2.1 i hi
  · rw [if_neg (nI_nle (by omega) (by omega)), if_neg (fun y => by have := (gi_le (a := 32) (by omega) (by omega)).mp y; omega), gd_gI (gi_in (by omega) (by omega)), gi_cl (by omega), if_neg z]
    refine ⟨rfl, h.1, fun i hi => ?_, h.2.2⟩
    show gA (gs_A σ 11 r v) 11 i = if i = r ∧ ¬ r = 0 then v else m.2.1 i
    rw [gA_A, if_pos rfl]
    by_cases y : i = r
    · rw [if_pos y, if_pos ⟨y, z⟩]
    · rw [if_neg y, if_neg (fun x => y x.1)]
      exact h.2.1 i hi
def st_cMem (σ : gS) (a : Int32) (b : Nat) (v : Int32) : gS := gs_row σ 12 (mc_put (gA σ 12) (mc_st a b) b (mc_vc v))
theorem st_cmem {σ : gS} {m : mS} (h : aC σ m) {b : Nat} (hb : mc_b b) (a v : Int32) : aC (st_cMem σ a b v) (mc_mem m (mc_put m.2.2.1 (mc_st a b) b (mc_vr v))) := by
  obtain ⟨h1, h2, h3, h4, h5⟩ := h
  have hb4 : b ≤ 4 := by rcases hb with rfl | rfl | rfl <;> omega
  refine ⟨h1, h2, fun i hi => ?_, h4, h5⟩
  show fits .byte (.int (gA (gs_row σ 12 (mc_put (gA σ 12) (mc_st a b) b (mc_vc v))) 12 i)) = true ∧ gA (gs_row σ 12 (mc_put (gA σ 12) (mc_st a b) b (mc_vc v))) 12 i &&& 255 = mc_put m.2.2.1 (mc_st a b) b (mc_vr v) i
  rw [gA_row, if_pos rfl]
  unfold mc_put
  by_cases z : mc_st a b ≤ i ∧ i < mc_st a b + b
  · rw [if_pos z, if_pos z]
    exact mc_vb v (by omega)
  · rw [if_neg z, if_neg z]
    exact h3 i hi
theorem st_rmem {σ : gS} {m : mS} (h : aR σ m) {b : Nat} (a v : Int32) : aR (gs_row σ 45 (mc_put (gA σ 45) (mc_st a b) b (mc_vr v))) (mc_mem m (mc_put m.2.2.1 (mc_st a b) b (mc_vr v))) := by
  obtain ⟨h1, h2, h3, h4, h5⟩ := h
  refine ⟨h1, h2, fun i hi => ?_, h4, h5⟩
  show gA (gs_row σ 45 (mc_put (gA σ 45) (mc_st a b) b (mc_vr v))) 45 i = mc_put m.2.2.1 (mc_st a b) b (mc_vr v) i
  rw [gA_row, if_pos rfl]
  unfold mc_put
  by_cases z : mc_st a b ≤ i ∧ i < mc_st a b + b
  · rw [if_pos z, if_pos z]
  · rw [if_neg z, if_neg z]
    exact h3 i hi
theorem st_cread {σ : gS} {m : mS} (h : aC σ m) {b : Nat} (hb : mc_b b) (a : Int32) : R_Machine_read a (nI b) σ = some (.inl (some (.int (mc_rd m.2.2.1 (mc_st a b) b 0)))) := by
  rw [mc_readC hb]
  have := (mc_sb hb a).2
  rw [mc_rd_congr b 0 (fun i hi => (h.2.2.1 (mc_st a b + i) (by omega)).2)]
theorem st_rread {σ : gS} {m : mS} (h : aR σ m) {b : Nat} (hb : mc_b b) (a : Int32) : R_M_read a (nI b) σ = some (.inl (some (.int (mc_rd m.2.2.1 (mc_st a b) b 0)))) := by
  rw [mc_readR hb]
  have := (mc_sb hb a).2
  rw [mc_rd_congr b 0 (fun i hi => h.2.2.1 (mc_st a b + i) (by omega))]
