def gK1 (σ : gS) (i : Nat) (e : kE) : Prop := gA σ 49 i = nI e.1 ∧ gA σ 50 i = e.2.1 ∧ gI σ 41 19 - gA σ 51 i = e.2.2.1 ∧ (∀ r, r < 32 → gA σ 47 (32 * i + r) = e.2.2.2.1 r) ∧ ∀ a, a < 256 → gA σ 48 (256 * i + a) = e.2.2.2.2 a
def gK (σ : gS) (ks : List kE) : Prop := ks.length ≤ 16 ∧ gI σ 41 18 = nI ks.length ∧ ∀ i e, ks[i]? = some e → gK1 σ i e
theorem rr_dist {σ : gS} {ks : List kE} (h : gK σ ks) : R_M_distance σ = some (.inl (some (.int (mc_di ks)))) := by
  obtain ⟨h2, h4, h5⟩ := h
  unfold R_M_distance
  cases ks with
  | nil => rw [h4, if_pos (show nI ([] : List kE).length = 0 from rfl)]; rfl
  | cons e t =>
    have hl : (e :: t).length ≤ 16 := h2
    rw [h4, if_neg (nI_ne0 (by simp) (by omega)), gd_gI (show gd_in 0 16 by decide)]
    have := (h5 0 e rfl).2.2.1
    rw [show Int32.toNatClampNeg 0 = 0 from rfl, this]
    rfl
theorem rr_full {σ : gS} {ks : List kE} (h : gK σ ks) : R_M_goesTooFar σ = some (.inl (some (.int (mc_fu (gI σ 41 12) ks)))) := by
  have hd := rr_dist h
  obtain ⟨h2, h4, h5⟩ := h
  unfold R_M_goesTooFar
  cases ks with
  | nil => rw [h4, if_pos (by decide)]; rfl
  | cons e t =>
    have hl : (e :: t).length ≤ 16 := h2
    rw [h4, if_neg (nI_nle (by simp) (by omega)), hd, gd_pi1]
    unfold mc_di mc_fu
    by_cases z : e.2.2.1 < gI σ 41 12
    · simp only [if_pos z]
    · simp only [if_neg z]
theorem rr_pt {f g : Nat → Int32} {s t N r : Nat} (hr : r < N) : mc_put f (N * s) N g (N * t + r) = if t = s then g r else f (N * t + r) := by
  unfold mc_put
  by_cases h : t = s
  · subst h
    rw [if_pos rfl, if_pos ⟨by omega, by omega⟩]
    congr 1
    omega
  · rw [if_neg h, if_neg]
    intro z
    rcases Nat.lt_or_ge t s with y | y
    · have := Nat.mul_le_mul_left N (show t + 1 ≤ s from y)
      rw [Nat.mul_add, Nat.mul_one] at this
      omega
    · have := Nat.mul_le_mul_left N (show s + 1 ≤ t by omega)
      rw [Nat.mul_add, Nat.mul_one] at this
      omega
def rr_add (σ : gS) (g : Nat) (p v : Int32) : gS := gs_I (gs_A (gs_I (gs_A (gs_A (gs_I (gs_row (gs_row σ 47 (mc_put (gA σ 47) (32 * g) 32 (gA σ 44))) 48 (mc_put (gA σ 48) (256 * g) 256 (gA σ 45))) 41 19 (gI σ 41 19 + 1)) 49 g p) 51 g (gI σ 41 19 + 1)) 41 7 v) 50 g v) 41 18 (nI (g + 1))
theorem rr_add1 (σ : gS) (g : Nat) (p v : Int32) : (∀ x, gA (rr_add σ g p v) 49 x = if x = g then p else gA σ 49 x) ∧ (∀ x, gA (rr_add σ g p v) 50 x = if x = g then v else gA σ 50 x) ∧ (∀ x, gA (rr_add σ g p v) 51 x = if x = g then gI σ 41 19 + 1 else gA σ 51 x) ∧ (gA (rr_add σ g p v) 47 = mc_put (gA σ 47) (32 * g) 32 (gA σ 44)) ∧ (gA (rr_add σ g p v) 48 = mc_put (gA σ 48) (256 * g) 256 (gA σ 45)) ∧ gI (rr_add σ g p v) 41 19 = gI σ 41 19 + 1 ∧ gI (rr_add σ g p v) 41 18 = nI (g + 1) :=
  ⟨fun _ => rfl, fun _ => rfl, fun _ => rfl, rfl, rfl, rfl, rfl⟩
theorem rr_addK {σ : gS} {ks : List kE} {m : mS} (h : gK σ ks) (hm : aR σ m) (hl : ks.length < 16) (v : Int32) : gK (rr_add σ ks.length (nI m.1) v) (ks.map ke_up ++ [(m.1, v, 0, m.2.1, m.2.2.1)]) := by
  obtain ⟨h2, h4, h5⟩ := h
  obtain ⟨a1, a2, a3, a4, a5, a6, a7⟩ := rr_add1 σ ks.length (nI m.1) v
  refine ⟨by simp; omega, a7.trans (by simp), fun i e he => ?_⟩
  unfold gK1
  rw [a1, a2, a3, a4, a5, a6]
  by_cases hi : i < ks.length
  · rw [List.getElem?_append_left (by simpa using hi), List.getElem?_map] at he
    cases hk : ks[i]? with
    | none => rw [hk] at he; cases he
    | some e0 =>
      rw [hk] at he
      have he : ke_up e0 = e := by simpa using he
      subst he
      have hne : ¬ i = ks.length := by omega
      obtain ⟨b1, b2, b3, b4, b5⟩ := h5 i e0 hk
      rw [if_neg hne, if_neg hne, if_neg hne]
      refine ⟨b1, b2, ?_, fun r hr => ?_, fun a ha => ?_⟩
      · rw [i3_s1, b3]; rfl
      · rw [rr_pt hr, if_neg hne]; exact b4 r hr
      · rw [rr_pt ha, if_neg hne]; exact b5 a ha
  · rw [List.getElem?_append_right (by simpa using hi)] at he
    have hi2 : i = ks.length := by
      have := (List.getElem?_eq_some_iff.mp he).1
      simp at this
      omega
    subst hi2
    have he : ((m.1, v, 0, m.2.1, m.2.2.1) : kE) = e := by simpa using he
    subst he
    rw [if_pos rfl, if_pos rfl, if_pos rfl]
    refine ⟨rfl, rfl, Int32.sub_self _, fun r hr => ?_, fun a ha => ?_⟩
    · rw [rr_pt hr, if_pos rfl]; exact hm.2.1 r hr
    · rw [rr_pt ha, if_pos rfl]; exact hm.2.2.1 a ha
theorem rr_addR {σ : gS} {m : mS} (hm : aR σ m) (g : Nat) (p : Int32) {v : Nat} : aR (rr_add σ g p (nI v)) (mc_go m v) := ⟨rfl, hm.2.1, hm.2.2.1, hm.2.2.2.1, hm.2.2.2.2⟩
theorem rr_guess {W : Nat → Int32} {n : Nat} {σ : gS} {ks : List kE} {m : mS} (hW : gA σ 42 = W) (hok : sp_ok W n) (hn : n ≤ 1040) (hs : gI σ 41 2 = nI n) (h : gK σ ks) (hm : aR σ m) (hp : m.1 ≤ n) (a : Int32) :
    ∃ σ', F_M_guess a σ = some (.inl (some (.int (if m.1 < n ∧ sp_k W m.1 = 5 ∧ ks.length < 16 ∧ mc_fu (gI σ 41 12) ks = 0 then 0 else -1))), σ') ∧
      (m.1 < n ∧ sp_k W m.1 = 5 ∧ ks.length < 16 ∧ mc_fu (gI σ 41 12) ks = 0 → gK σ' (ks.map ke_up ++ [(m.1, nI (if a = 0 then (sp_t W m.1).toNatClampNeg else m.1 + 1), 0, m.2.1, m.2.2.1)]) ∧ aR σ' (mc_go m (if a = 0 then (sp_t W m.1).toNatClampNeg else m.1 + 1))) ∧
      (¬ (m.1 < n ∧ sp_k W m.1 = 5 ∧ ks.length < 16 ∧ mc_fu (gI σ 41 12) ks = 0) → σ' = σ) := by
  have h4 := h.2.1
  have h2 := h.1
  unfold F_M_guess
  rw [hm.1, hs]
  by_cases c1 : m.1 < n
  · rw [if_neg (fun z => by have := (gi_eq (by omega) (by omega)).mp z; omega), br_kindN (by omega), gd_qi1, hW]
    by_cases c2 : sp_k W m.1 = 5
    · rw [if_pos c2, h4]
      by_cases c3 : ks.length < 16
      · rw [if_neg (fun z => by have := (gi_eq (b := 16) (by omega) (by omega)).mp z; omega), rr_full h, gd_qi1]
        by_cases c4 : mc_fu (gI σ 41 12) ks = 0
        · rw [if_pos c4, if_pos (show m.1 < n ∧ sp_k W m.1 = 5 ∧ ks.length < 16 ∧ mc_fu (gI σ 41 12) ks = 0 from ⟨c1, c2, c3, c4⟩), gd_j1, cp_g43 _ _ _ c3 h4, gd_j1, cp_g77 _ _ _ c3 (show gI (gs_row σ 47 _) 41 18 = nI ks.length from h4)]
          obtain ⟨t, ht, et⟩ := sp_tgt hok hn c1 (Or.inl c2)
          have e1 : sp_t W m.1 = nI t := by unfold sp_t; rw [if_pos (show sp_k W m.1 = 5 ∨ sp_k W m.1 = 6 from Or.inl c2)]; exact et
          rw [e1, gi_cl (by omega)]
          by_cases ha : a = 0
          · simp only [if_pos ha]
            simp only [gd_s1, gd_j1, gI_A, gI_I, gI_row, reduceIte, Nat.reduceEqDiff, h4, hm.1, gd_gI (gi_in c3 (by omega : 16 ≤ 100000)), gi_cl (by omega : ks.length ≤ 100000), br_targetN (show m.1 < 1040 by omega), gd_qi1, gA_A, gA_I, gA_row, nI_1]
            rw [hW, et]
            exact ⟨rr_add σ ks.length (nI m.1) (nI t), rfl, fun _ => ⟨rr_addK h hm c3 _, rr_addR hm _ _⟩, fun z => absurd ⟨c1, c2, c3, c4⟩ z⟩
          · simp only [if_neg ha]
            simp only [gd_s1, gd_j1, gI_A, gI_I, gI_row, reduceIte, Nat.reduceEqDiff, h4, hm.1, gd_gI (gi_in c3 (by omega : 16 ≤ 100000)), gi_cl (by omega : ks.length ≤ 100000), nI_1]
            exact ⟨rr_add σ ks.length (nI m.1) (nI (m.1 + 1)), rfl, fun _ => ⟨rr_addK h hm c3 _, rr_addR hm _ _⟩, fun z => absurd ⟨c1, c2, c3, c4⟩ z⟩
        · rw [if_neg c4, if_neg (show ¬ (m.1 < n ∧ sp_k W m.1 = 5 ∧ ks.length < 16 ∧ mc_fu (gI σ 41 12) ks = 0) from fun z => c4 z.2.2.2)]
          exact ⟨σ, rfl, fun z => absurd z.2.2.2 c4, fun _ => rfl⟩
      · rw [if_pos (show nI ks.length = 16 from (gi_eq (b := 16) (by omega) (by omega)).mpr (by omega)), if_neg (show ¬ (m.1 < n ∧ sp_k W m.1 = 5 ∧ ks.length < 16 ∧ mc_fu (gI σ 41 12) ks = 0) from fun z => c3 z.2.2.1)]
        exact ⟨σ, rfl, fun z => absurd z.2.2.1 c3, fun _ => rfl⟩
    · rw [if_neg c2, if_neg (show ¬ (m.1 < n ∧ sp_k W m.1 = 5 ∧ ks.length < 16 ∧ mc_fu (gI σ 41 12) ks = 0) from fun z => c2 z.2.1)]
      exact ⟨σ, rfl, fun z => absurd z.2.1 c2, fun _ => rfl⟩
  · rw [if_pos (show nI m.1 = nI n from (gi_eq (by omega) (by omega)).mpr (by omega)), if_neg (show ¬ (m.1 < n ∧ sp_k W m.1 = 5 ∧ ks.length < 16 ∧ mc_fu (gI σ 41 12) ks = 0) from fun z => c1 z.1)]
    exact ⟨σ, rfl, fun z => absurd z.1 c1, fun _ => rfl⟩
