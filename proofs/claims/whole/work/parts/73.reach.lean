def rbt (f : Nat → Int32) (v q : Nat) : Bool := bb (f (33 * v + q / 32)) (q % 32)
theorem tn_ix {v u : Nat} (hv : v < 1040) (hu : u < 1040) : (33 : Int32) * nI v + nI u / (32 : Int32) = nI (33 * v + u / 32) ∧ nI u - nI u / (32 : Int32) * (32 : Int32) = nI (u % 32) := by
  have e : nI u / (32 : Int32) = nI (u / 32) := pk_div (d := 32) (by omega) (by omega) (by omega)
  refine ⟨?_, pk_rem (d := 32) (by omega) (by omega) (by omega)⟩
  rw [e, show (33 : Int32) = nI 33 from rfl, pk_mul, nI_add]
def tn_s (P : Nat) (σ : gS) (v u : Nat) : gS := gs_A σ P (33 * v + u / 32) (gA σ P (33 * v + u / 32) ^^^ ((1 : Int32) <<< (nI (u % 32) &&& 31)))
theorem tn_57 {v u : Nat} (hv : v < 1040) (hu : u < 1040) (σ : gS) : F_M_turn_57 (nI v) (nI u) σ = some (.inl none, tn_s 57 σ v u) := by
  obtain ⟨e1, e2⟩ := tn_ix hv hu
  unfold F_M_turn_57
  simp only [e1, e2, gd_gI (gi_in (show 33 * v + u / 32 < 34320 by omega) (by omega : 34320 ≤ 100000)), gi_cl (show 33 * v + u / 32 ≤ 100000 by omega), gd_s1]
  rfl
theorem tn_58 {v u : Nat} (hv : v < 1040) (hu : u < 1040) (σ : gS) : F_M_turn_58 (nI v) (nI u) σ = some (.inl none, tn_s 58 σ v u) := by
  obtain ⟨e1, e2⟩ := tn_ix hv hu
  unfold F_M_turn_58
  simp only [e1, e2, gd_gI (gi_in (show 33 * v + u / 32 < 34320 by omega) (by omega : 34320 ≤ 100000)), gi_cl (show 33 * v + u / 32 ≤ 100000 by omega), gd_s1]
  rfl
theorem tn_bit (P : Nat) (σ : gS) {v u v' q : Nat} (hu : u < 1040) (hq : q < 1040) : rbt (gA (tn_s P σ v u) P) v' q = if v' = v ∧ q = u then !rbt (gA σ P) v u else rbt (gA σ P) v' q := by
  unfold rbt
  show bb (if P = P then (if 33 * v' + q / 32 = 33 * v + u / 32 then (gA σ P (33 * v + u / 32) ^^^ ((1 : Int32) <<< (nI (u % 32) &&& 31))) else gA σ P (33 * v' + q / 32)) else gA σ P (33 * v' + q / 32)) (q % 32) = _
  rw [if_pos rfl]
  by_cases c : 33 * v' + q / 32 = 33 * v + u / 32
  · have hv : v' = v ∧ q / 32 = u / 32 := by omega
    rw [if_pos c, bb_xor, bb_1 (Nat.mod_lt _ (by omega)) (Nat.mod_lt _ (by omega)), c]
    by_cases e : q % 32 = u % 32
    · have : q = u := by omega
      rw [if_pos ⟨hv.1, this⟩, decide_eq_true e, e, Bool.xor_true]
    · rw [if_neg (fun z => e (by rw [z.2])), decide_eq_false e, Bool.xor_false]
  · rw [if_neg c, if_neg (fun z => c (by rw [z.1, z.2]))]
theorem hs_57 {v u : Nat} (hv : v < 1040) (hu : u < 1040) (σ : gS) : R_M_has_57 (nI v) (nI u) σ = some (.inl (some (.int (if rbt (gA σ 57) v u = true then 1 else 0)))) := by
  obtain ⟨e1, e2⟩ := tn_ix hv hu
  unfold R_M_has_57 rbt
  simp only [e1, e2, gd_gI (gi_in (show 33 * v + u / 32 < 34320 by omega) (by omega : 34320 ≤ 100000)), gi_cl (show 33 * v + u / 32 ≤ 100000 by omega)]
  by_cases c : bb (gA σ 57 (33 * v + u / 32)) (u % 32) = true
  · rw [if_pos ((bb_t (Nat.mod_lt _ (by omega))).mpr c), if_pos c]
  · rw [if_neg (fun z => c ((bb_t (Nat.mod_lt _ (by omega))).mp z)), if_neg c]
theorem hs_58 {v u : Nat} (hv : v < 1040) (hu : u < 1040) (σ : gS) : R_M_has_58 (nI v) (nI u) σ = some (.inl (some (.int (if rbt (gA σ 58) v u = true then 1 else 0)))) := by
  obtain ⟨e1, e2⟩ := tn_ix hv hu
  unfold R_M_has_58 rbt
  simp only [e1, e2, gd_gI (gi_in (show 33 * v + u / 32 < 34320 by omega) (by omega : 34320 ≤ 100000)), gi_cl (show 33 * v + u / 32 ≤ 100000 by omega)]
  by_cases c : bb (gA σ 58 (33 * v + u / 32)) (u % 32) = true
  · rw [if_pos ((bb_t (Nat.mod_lt _ (by omega))).mpr c), if_pos c]
  · rw [if_neg (fun z => c ((bb_t (Nat.mod_lt _ (by omega))).mp z)), if_neg c]
def sn_X (W : Nat → Int32) (n v p : Nat) : List Nat := if sp_k W p = 7 ∨ sp_r W p = sp_r W v then [] else sp_xs W n p
def sn_L (W : Nat → Int32) (n v : Nat) : List Nat := bf (sn_X W n v) (n + 1) 0 (bf_n [] (sp_xs W n v))
theorem sp_sl {W : Nat → Int32} {n v q : Nat} (h : sp_s W n v q) : q < n := h (fun q => q < n) (fun q h => h.1) (fun p q _ _ _ h => h.1)
theorem sp_xb {W : Nat → Int32} {n p q : Nat} (h : q ∈ sp_xs W n p) : q < n := by
  unfold sp_xs at h
  rcases List.mem_append.mp h with h | h
  · split at h
    · cases h
    · split at h
      · have : q = p + 1 := by simpa using h
        omega
      · cases h
  · split at h
    · split at h
      · have : q = (sp_t W p).toNatClampNeg := by simpa using h
        omega
      · cases h
    · cases h
theorem sn_b {W : Nat → Int32} {n v : Nat} : ∀ p, p < n → ∀ q ∈ sn_X W n v p, q < n := by
  intro p _ q hq
  unfold sn_X at hq
  split at hq
  · cases hq
  · exact sp_xb hq
theorem sn_m {W : Nat → Int32} {n v q : Nat} (hok : sp_ok W n) (hn : n ≤ 1040) (hv : v < n) : q ∈ sn_L W n v ↔ sp_s W n v q := by
  unfold sn_L
  rw [bf_all (S := fun x => x ∈ sp_xs W n v) sn_b (bf_nnd List.nodup_nil) (fun x hx => by
    rcases bf_nm.mp hx with hx | hx
    · cases hx
    · exact sp_xb hx) (fun x => by rw [bf_nm]; simp) q]
  constructor
  · intro h
    have h2 : q < n ∧ sp_s W n v q := h (fun q => q < n ∧ sp_s W n v q) (fun x hx => ⟨sp_xb hx, fun P h1 h2 => h1 x ((sp_xm hok hn hv).mp hx)⟩) (fun p q hp hq => by
      unfold sn_X at hq
      by_cases c : sp_k W p = 7 ∨ sp_r W p = sp_r W v
      · rw [if_pos c] at hq; cases hq
      · rw [if_neg c] at hq
        exact ⟨sp_xb hq, fun P h1 h2 => h2 p q (hp.2 P h1 h2) (fun z => c (Or.inl z)) (fun z => c (Or.inr z)) ((sp_xm hok hn hp.1).mp hq)⟩)
    exact h2.2
  · intro h
    have h2 : q < n ∧ bf_r (sn_X W n v) (fun x => x ∈ sp_xs W n v) q := h (fun q => q < n ∧ bf_r (sn_X W n v) (fun x => x ∈ sp_xs W n v) q) (fun x hx => ⟨hx.1, bf_rb ((sp_xm hok hn hv).mpr hx)⟩) (fun p q hp h7 hr hx => ⟨hx.1, bf_rs hp.2 (by
      unfold sn_X
      rw [if_neg (fun z => z.elim h7 hr)]
      exact (sp_xm hok hn hp.1).mpr hx)⟩)
    exact h2.2
theorem fr_clr (κ : gS → gR) (σ : gS) {v : Nat} (hv : v < 1040) : gd_lp (fun _ _ => none) (B_M_findReach_2 κ (nI v)) gd_N 0 σ = κ (gs_row σ 57 (mc_put (gA σ 57) (33 * v) 33 (fun _ => 0))) := by
  refine cp_lp (B := fun κ => B_M_findReach_2 κ (nI v)) σ 57 (33 * v) 33 (fun _ => 0) (by omega) (fun ag j s hj hs => ?_) (fun ag s hs => ?_)
  · unfold B_M_findReach_2
    have e1 : (33 : Int32) * nI v + nI j = nI (33 * v + j) := by rw [show (33 : Int32) = nI 33 from rfl, pk_mul, nI_add]
    rw [if_neg (fun z => by have := (gi_le (a := 33) (by omega) (by omega)).mp z; omega)]
    simp only [e1, gd_gI (gi_in (show 33 * v + j < 34320 by omega) (by omega : 34320 ≤ 100000)), gi_cl (show 33 * v + j ≤ 100000 by omega), gd_s1]
  · unfold B_M_findReach_2
    rw [if_pos (show (33 : Int32) ≤ nI 33 by decide)]
theorem fr_sn (κ : gS → gR) (x y : Int32) (σ : gS) {n : Nat} (hn : n ≤ 1040) (h2 : gI σ 41 2 = nI n) : gd_lp (fun _ _ => none) (B_M_findReach_39 κ x y) gd_N 0 σ = κ (gs_row σ 63 (mc_put (gA σ 63) 0 n (fun _ => vp_nar .boolean 0))) := by
  refine cp_lp (B := fun κ => B_M_findReach_39 κ x y) σ 63 0 n (fun _ => vp_nar .boolean 0) (by omega) (fun ag j s hj hs => ?_) (fun ag s hs => ?_)
  · subst hs
    unfold B_M_findReach_39
    rw [show gI (gs_row σ 63 (mc_put (gA σ 63) 0 j (fun _ => vp_nar .boolean 0))) 41 2 = nI n from h2, if_neg (fun z => by have := (gi_le (by omega) (by omega)).mp z; omega)]
    simp only [gd_gI (gi_in (show j < 1040 by omega) (by omega : 1040 ≤ 100000)), gi_cl (show j ≤ 100000 by omega), Nat.zero_add, gd_s1]
  · subst hs
    unfold B_M_findReach_39
    rw [show gI (gs_row σ 63 (mc_put (gA σ 63) 0 n (fun _ => vp_nar .boolean 0))) 41 2 = nI n from h2, if_pos ((gi_le (by omega) (by omega)).mpr (Nat.le_refl _))]
