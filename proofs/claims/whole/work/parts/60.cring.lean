theorem i3_s1 (a b : Int32) : a + 1 - b = a - b + 1 := by
  rw [Int32.sub_eq_add_neg, Int32.sub_eq_add_neg, Int32.add_assoc, Int32.add_comm 1, ← Int32.add_assoc]
abbrev kE : Type := Nat × Int32 × Int32 × (Nat → Int32) × (Nat → Int32)
def ke_o (W : Nat → Int32) (e : kE) : Nat := mc_gl W e.1 (e.2.2.2.1 (f_M_a (W e.1)).toNatClampNeg) (e.2.2.2.1 (f_M_b (W e.1)).toNatClampNeg)
def ke_up (e : kE) : kE := (e.1, e.2.1, e.2.2.1 + 1, e.2.2.2)
def gC1 (W : Nat → Int32) (σ : gS) (s : Nat) (e : kE) : Prop := gA σ 18 s = e.2.1 ∧ gA σ 19 s = nI (ke_o W e) ∧ gI σ 15 7 - gA σ 20 s = e.2.2.1 ∧ (∀ r, r < 32 → gA σ 16 (32 * s + r) = e.2.2.2.1 r) ∧ ∀ a, a < 256 → fits .byte (.int (gA σ 17 (256 * s + a))) = true ∧ gA σ 17 (256 * s + a) &&& 255 = e.2.2.2.2 a
def gC (W : Nat → Int32) (σ : gS) (o : Nat) (ks : List kE) : Prop := (o < 16 ∧ ks.length ≤ 16) ∧ (gI σ 15 5 = nI o ∧ gI σ 15 6 = nI ks.length) ∧ ∀ i e, ks[i]? = some e → gC1 W σ ((o + i) % 16) e
theorem cr_slot {o l : Nat} (ho : o < 16) (hl : l ≤ 16) : (nI o + nI l) - (nI o + nI l) / (16 : Int32) * (16 : Int32) = nI ((o + l) % 16) := by
  rw [nI_add, show (16 : Int32) = nI 16 from rfl, pk_rem (by omega) (by omega) (by omega)]
def cr_add (σ : gS) (s : Nat) (w g : Int32) (l : Nat) : gS := gs_I (gs_row (gs_row (gs_A (gs_A (gs_A (gs_I σ 15 7 (gI σ 15 7 + 1)) 20 s (gI σ 15 7 + 1)) 18 s w) 19 s g) 16 (va_cpy (gA σ 11) (gA σ 16) 0 (s * 32) 32)) 17 (va_cpy (gA σ 12) (gA σ 17) 0 (s * 256) 256)) 15 6 (nI l + 1)
theorem cr_addF {W : Nat → Int32} {σ : gS} {o : Nat} {ks : List kE} {m : mS} (h : gC W σ o ks) (hm : aC σ m) (hl : ks.length < 16) (w g : Int32) : F_Guesses_add_11_12 w g σ = some (.inl none, cr_add σ ((o + ks.length) % 16) w g ks.length) := by
  obtain ⟨⟨h1, h2⟩, ⟨h3, h4⟩, -⟩ := h
  generalize hs : (o + ks.length) % 16 = s at *
  have hs16 : s < 16 := by omega
  have e := cr_slot h1 h2
  rw [hs] at e
  have e32 : nI s * (32 : Int32) = nI (s * 32) := by rw [show (32 : Int32) = nI 32 from rfl, pk_mul]
  have e256 : nI s * (256 : Int32) = nI (s * 256) := by rw [show (256 : Int32) = nI 256 from rfl, pk_mul]
  unfold F_Guesses_add_11_12
  simp only [h3, h4, e, e32, e256, gd_gI (gi_in (by omega : s < 16) (by omega : 16 ≤ 100000)), gi_cl (by omega : s ≤ 100000), gd_s1]
  rw [gd_gI, gd_gI]
  · simp only [gi_cl (by omega : s * 32 ≤ 100000), gi_cl (by omega : s * 256 ≤ 100000)]
    unfold cr_add
    rw [← h4]
    rfl
  · refine ⟨⟨by decide, nI_pos (by omega), by decide⟩, ⟨by decide, ?_⟩, fun i hi => ?_⟩
    · rw [gi_cl (by omega)]
      show s * 256 + 256 ≤ 4096
      omega
    · exact (hm.2.2.1 (0 + i) (by have : i < 256 := hi; omega)).1
  · refine ⟨⟨by decide, nI_pos (by omega), by decide⟩, ⟨by decide, ?_⟩, fun i hi => rfl⟩
    rw [gi_cl (by omega)]
    show s * 32 + 32 ≤ 512
    omega
theorem cr_cp {f g : Nat → Int32} {s t N r : Nat} (hr : r < N) : va_cpy f g 0 (s * N) N (N * t + r) = if t = s then f r else g (N * t + r) := by
  unfold va_cpy
  by_cases h : t = s
  · subst h
    rw [if_pos rfl, if_pos ⟨by rw [Nat.mul_comm]; omega, by rw [Nat.mul_comm]; omega⟩]
    congr 1
    rw [Nat.mul_comm t N]
    omega
  · rw [if_neg h, if_neg]
    intro z
    rcases Nat.lt_or_ge t s with y | y
    · have := Nat.mul_le_mul_left N (show t + 1 ≤ s from y)
      rw [Nat.mul_add, Nat.mul_one] at this
      rw [Nat.mul_comm s N] at z
      omega
    · have := Nat.mul_le_mul_left N (show s + 1 ≤ t by omega)
      rw [Nat.mul_add, Nat.mul_one] at this
      rw [Nat.mul_comm s N] at z
      omega
theorem cr_add1 (σ : gS) (s : Nat) (w g : Int32) (l : Nat) : (∀ x, gA (cr_add σ s w g l) 18 x = if x = s then w else gA σ 18 x) ∧ (∀ x, gA (cr_add σ s w g l) 19 x = if x = s then g else gA σ 19 x) ∧ (∀ x, gA (cr_add σ s w g l) 20 x = if x = s then gI σ 15 7 + 1 else gA σ 20 x) ∧ (gA (cr_add σ s w g l) 16 = va_cpy (gA σ 11) (gA σ 16) 0 (s * 32) 32) ∧ (gA (cr_add σ s w g l) 17 = va_cpy (gA σ 12) (gA σ 17) 0 (s * 256) 256) ∧ gI (cr_add σ s w g l) 15 7 = gI σ 15 7 + 1 ∧ gI (cr_add σ s w g l) 15 6 = nI l + 1 ∧ gI (cr_add σ s w g l) 15 5 = gI σ 15 5 :=
  ⟨fun _ => rfl, fun _ => rfl, fun _ => rfl, rfl, rfl, rfl, rfl, rfl⟩
theorem cr_addC {W : Nat → Int32} {σ : gS} {o : Nat} {ks : List kE} {m : mS} (h : gC W σ o ks) (hm : aC σ m) (hl : ks.length < 16) (w : Int32) :
    gC W (cr_add σ ((o + ks.length) % 16) w (nI (mc_gl W m.1 (mc_x W m) (mc_y W m))) ks.length) o (ks.map ke_up ++ [(m.1, w, 0, m.2.1, m.2.2.1)]) := by
  obtain ⟨⟨h1, h2⟩, ⟨h3, h4⟩, h5⟩ := h
  generalize hs : (o + ks.length) % 16 = s at *
  obtain ⟨a1, a2, a3, a4, a5, a6, a7, a8⟩ := cr_add1 σ s w (nI (mc_gl W m.1 (mc_x W m) (mc_y W m))) ks.length
  refine ⟨⟨h1, by simp; omega⟩, ⟨a8.trans h3, a7.trans (by rw [nI_1]; simp)⟩, fun i e he => ?_⟩
  unfold gC1
  rw [a1, a2, a3, a4, a5, a6]
  by_cases hi : i < ks.length
  · rw [List.getElem?_append_left (by simpa using hi), List.getElem?_map] at he
    cases hk : ks[i]? with
    | none => rw [hk] at he; cases he
    | some e0 =>
      rw [hk] at he
      have he : ke_up e0 = e := by simpa using he
      subst he
      have hne : ¬ (o + i) % 16 = s := by omega
      obtain ⟨b1, b2, b3, b4, b5⟩ := h5 i e0 hk
      rw [if_neg hne, if_neg hne, if_neg hne]
      refine ⟨b1, b2, ?_, fun r hr => ?_, fun a ha => ?_⟩
      · rw [i3_s1, b3]; rfl
      · rw [cr_cp hr, if_neg hne]; exact b4 r hr
      · rw [cr_cp ha, if_neg hne]; exact b5 a ha
  · rw [List.getElem?_append_right (by simpa using hi)] at he
    have hi2 : i = ks.length := by
      have := (List.getElem?_eq_some_iff.mp he).1
      simp at this
      omega
    subst hi2
    have he : ((m.1, w, 0, m.2.1, m.2.2.1) : kE) = e := by simpa using he
    subst he
    rw [hs, if_pos rfl, if_pos rfl, if_pos rfl]
    refine ⟨rfl, rfl, Int32.sub_self _, fun r hr => ?_, fun a ha => ?_⟩
    · rw [cr_cp hr, if_pos rfl]; exact hm.2.1 r hr
    · rw [cr_cp ha, if_pos rfl]; exact hm.2.2.1 a ha
theorem cr_addA {σ : gS} {m : mS} (hm : aC σ m) (s : Nat) (w g : Int32) (l : Nat) : aC (cr_add σ s w g l) m := hm
def mc_fu (w : Int32) (ks : List kE) : Int32 := match ks with
  | [] => 0
  | e :: _ => if e.2.2.1 < w then 0 else 1
def mc_di (ks : List kE) : Int32 := match ks with
  | [] => 0
  | e :: _ => e.2.2.1
theorem cr_dist {W : Nat → Int32} {σ : gS} {o : Nat} {ks : List kE} (h : gC W σ o ks) : R_Guesses_distance σ = some (.inl (some (.int (mc_di ks)))) := by
  obtain ⟨⟨h1, h2⟩, ⟨h3, h4⟩, h5⟩ := h
  unfold R_Guesses_distance
  cases ks with
  | nil => rw [h4, if_pos (show nI ([] : List kE).length = 0 from rfl)]; rfl
  | cons e t =>
    have hl : (e :: t).length ≤ 16 := h2
    rw [h4, if_neg (nI_ne0 (by simp) (by omega)), h3, gd_gI (gi_in h1 (by omega)), gi_cl (by omega)]
    have := (h5 0 e rfl).2.2.1
    rw [show (o + 0) % 16 = o by omega] at this
    rw [this]
    rfl
theorem cr_full {W : Nat → Int32} {σ : gS} {o : Nat} {ks : List kE} (h : gC W σ o ks) : R_Machine_windowIsFull σ = some (.inl (some (.int (mc_fu (gI σ 10 6) ks)))) := by
  have hd := cr_dist h
  obtain ⟨⟨h1, h2⟩, ⟨h3, h4⟩, h5⟩ := h
  unfold R_Machine_windowIsFull
  cases ks with
  | nil => rw [h4, if_pos (by decide)]; rfl
  | cons e t =>
    have hl : (e :: t).length ≤ 16 := h2
    rw [h4, if_neg (nI_nle (by simp) (by omega)), hd, gd_pi1]
    unfold mc_di mc_fu
    by_cases z : e.2.2.1 < gI σ 10 6
    · simp only [if_pos z]
    · simp only [if_neg z]
theorem cr_close {W : Nat → Int32} {σ : gS} {o : Nat} {e : kE} {ks : List kE} (h : gC W σ o (e :: ks)) : ∃ σ', F_Guesses_closeOldest σ = some (.inl none, σ') ∧ gC W σ' ((o + 1) % 16) ks ∧ ∀ m, aC σ m → aC σ' m := by
  obtain ⟨⟨h1, h2⟩, ⟨h3, h4⟩, h5⟩ := h
  have hl : ks.length + 1 ≤ 16 := h2
  unfold F_Guesses_closeOldest
  rw [h3, show (nI o + (1 : Int32)) - (nI o + (1 : Int32)) / (16 : Int32) * (16 : Int32) = nI ((o + 1) % 16) from cr_slot (l := 1) h1 (by omega), gd_s1, gd_s1]
  refine ⟨_, rfl, ⟨⟨by omega, by omega⟩, ⟨rfl, ?_⟩, fun i e' he => ?_⟩, fun m hm => hm⟩
  · show gI σ 15 6 - 1 = _
    rw [h4]; exact nI_pred _
  · have := h5 (i + 1) e' (by simpa using he)
    rw [show (o + (i + 1)) % 16 = ((o + 1) % 16 + i) % 16 by omega] at this
    exact this
theorem cr_back {W : Nat → Int32} {σ : gS} {o : Nat} {e : kE} {ks : List kE} {m : mS} (h : gC W σ o (e :: ks)) (hm : aC σ m) : ∃ σ', F_Guesses_rollBack_11_12 σ = some (.inl none, σ') ∧ gC W σ' 0 [] ∧ aC σ' (m.1, e.2.2.2.1, e.2.2.2.2, m.2.2.2) := by
  obtain ⟨⟨h1, h2⟩, ⟨h3, h4⟩, h5⟩ := h
  obtain ⟨b1, b2, b3, b4, b5⟩ := h5 0 e rfl
  rw [show (o + 0) % 16 = o by omega] at b4 b5
  have e32 : nI o * (32 : Int32) = nI (o * 32) := by rw [show (32 : Int32) = nI 32 from rfl, pk_mul]
  have e256 : nI o * (256 : Int32) = nI (o * 256) := by rw [show (256 : Int32) = nI 256 from rfl, pk_mul]
  unfold F_Guesses_rollBack_11_12
  rw [h3, e32, gd_gI, gd_s1]
  · have h3' : ∀ f, gI (gs_row σ 11 f) 15 5 = nI o := fun _ => h3
    rw [h3', e256, gd_gI, gd_s1]
    · simp only [gi_cl (by omega : o * 32 ≤ 100000), gi_cl (by omega : o * 256 ≤ 100000)]
      unfold F_Guesses_drop
      refine ⟨_, rfl, ⟨⟨by omega, by simp⟩, ⟨rfl, rfl⟩, fun i e he => by simp at he⟩, hm.1, fun r hr => ?_, fun a ha => ?_, hm.2.2.2.1, hm.2.2.2.2⟩
      · show va_cpy (gA σ 16) (gA σ 11) (o * 32) 0 32 r = _
        unfold va_cpy
        rw [if_pos (by omega), ← b4 r hr, Nat.mul_comm o 32, Nat.sub_zero]
      · show fits .byte (.int (va_cpy (gA σ 17) (gA σ 12) (o * 256) 0 256 a)) = true ∧ va_cpy (gA σ 17) (gA σ 12) (o * 256) 0 256 a &&& 255 = _
        unfold va_cpy
        rw [if_pos (by omega), Nat.mul_comm o 256, Nat.sub_zero]
        exact b5 a ha
    · refine ⟨⟨nI_pos (by omega), by decide, by decide⟩, ⟨?_, by decide⟩, fun i hi => ?_⟩
      · rw [gi_cl (by omega)]
        show o * 256 + 256 ≤ 4096
        omega
      · have e9 : (nI (o * 256)).toNatClampNeg + i = 256 * o + i := by rw [gi_cl (by omega), Nat.mul_comm o 256]
        rw [e9]
        exact (b5 i hi).1
  · refine ⟨⟨nI_pos (by omega), by decide, by decide⟩, ⟨?_, by decide⟩, fun i hi => rfl⟩
    rw [gi_cl (by omega)]
    show o * 32 + 32 ≤ 512
    omega
