theorem m17 (v : Nat) : nI v * (17 : Int32) = nI (17 * v) := by rw [show (17 : Int32) = nI 17 from rfl, pk_mul, Nat.mul_comm]
theorem lo_or {f : Nat → Int64} {v v' p q : Nat} (hp : p < 1088) (hq : q < 1088) : lbt (fun i => if i = 17 * v + p / 64 then f (17 * v + p / 64) ||| ((1 : Int64) <<< (Int32.toInt64 (nI (p % 64)) &&& 63)) else f i) v' q = if v' = v ∧ q = p then true else lbt f v' q := by
  unfold lbt
  show bq (if 17 * v' + q / 64 = 17 * v + p / 64 then _ else _) _ = _
  by_cases c : 17 * v' + q / 64 = 17 * v + p / 64
  · have hv : v' = v ∧ q / 64 = p / 64 := by omega
    rw [if_pos c, bq_or, bq_sh1 (Nat.mod_lt _ (by omega)) (Nat.mod_lt _ (by omega)), ← c]
    by_cases e : q % 64 = p % 64
    · rw [if_pos ⟨hv.1, by omega⟩, decide_eq_true e, Bool.or_true]
    · rw [if_neg (fun z => e (by rw [z.2])), decide_eq_false e, Bool.or_false]
  · rw [if_neg c, if_neg (fun z => c (by rw [z.1, z.2]))]
theorem l1_or {f : Nat → Int64} {p q : Nat} (hp : p < 1088) (hq : q < 1088) : lb (fun i => if i = p / 64 then f (p / 64) ||| ((1 : Int64) <<< (Int32.toInt64 (nI (p % 64)) &&& 63)) else f i) q = if q = p then true else lb f q := by
  unfold lb
  show bq (if q / 64 = p / 64 then _ else _) _ = _
  by_cases c : q / 64 = p / 64
  · rw [if_pos c, bq_or, bq_sh1 (Nat.mod_lt _ (by omega)) (Nat.mod_lt _ (by omega)), ← c]
    by_cases e : q % 64 = p % 64
    · rw [if_pos (by omega), decide_eq_true e, Bool.or_true]
    · rw [if_neg (fun z => e (by rw [z])), decide_eq_false e, Bool.or_false]
  · rw [if_neg c, if_neg (fun z => c (by rw [z]))]
theorem l1_cl {f : Nat → Int64} {p q : Nat} (hp : p < 1088) (hq : q < 1088) : lb (fun i => if i = p / 64 then f (p / 64) &&& (((1 : Int64) <<< (Int32.toInt64 (nI (p % 64)) &&& 63)) ^^^ (-1 : Int64)) else f i) q = if q = p then false else lb f q := by
  unfold lb
  show bq (if q / 64 = p / 64 then _ else _) _ = _
  by_cases c : q / 64 = p / 64
  · rw [if_pos c, bq_and, bq_xor, bq_m1 (Nat.mod_lt _ (by omega)), bq_sh1 (Nat.mod_lt _ (by omega)) (Nat.mod_lt _ (by omega)), ← c, Bool.xor_true]
    by_cases e : q % 64 = p % 64
    · rw [if_pos (by omega), decide_eq_true e, Bool.not_true, Bool.and_false]
    · rw [if_neg (fun z => e (by rw [z])), decide_eq_false e, Bool.not_false, Bool.and_true]
  · rw [if_neg c, if_neg (fun z => c (by rw [z]))]
def sp_nb (W : Nat → Int32) (n p : Nat) : Int32 := if sp_k W p = 6 ∨ sp_k W p = 8 then -1 else if p + 1 < n then nI (p + 1) else -1
theorem cl_nb {n p : Nat} {σ : gS} (hD : rD n σ) (hp : p < n) : R_Listing_nextBehind (nI p) σ = some (.inl (some (.int (sp_nb (gA σ 42) n p)))) := by
  have hn := hD.2.1
  unfold R_Listing_nextBehind sp_nb
  rw [gd_j1]
  simp only [gd_gI (gi_in (show p < 1040 by omega) (by omega : 1040 ≤ 100000)), gi_cl (show p ≤ 100000 by omega), (hD.2.2.2 p hp).1, hD.1, nI_1]
  by_cases c6 : sp_k (gA σ 42) p = 6
  · rw [if_pos c6, if_neg (show ¬ (1 : Int32) = 0 by decide), if_pos (Or.inl c6)]
  · rw [if_neg c6]
    by_cases c8 : sp_k (gA σ 42) p = 8
    · rw [if_pos c8, if_neg (show ¬ (1 : Int32) = 0 by decide), if_pos (Or.inr c8)]
    · rw [if_neg c8, if_pos trivial, if_neg (show ¬ (sp_k (gA σ 42) p = 6 ∨ sp_k (gA σ 42) p = 8) from fun z => z.elim c6 c8)]
      by_cases c : p + 1 < n
      · rw [if_pos ((gi_lt (by omega) (by omega)).mpr c), if_pos c]
      · rw [if_neg (fun z => c ((gi_lt (by omega) (by omega)).mp z)), if_neg c]
def sp_na (W : Nat → Int32) (n p : Nat) : Int32 := if nI n ≤ sp_t W p then -1 else sp_t W p
theorem cl_na {n p : Nat} {σ : gS} (hD : rD n σ) (hp : p < n) : R_Listing_nextAside (nI p) σ = some (.inl (some (.int (sp_na (gA σ 42) n p)))) := by
  have hn := hD.2.1
  unfold R_Listing_nextAside sp_na
  simp only [gd_gI (gi_in (show p < 1040 by omega) (by omega : 1040 ≤ 100000)), gi_cl (show p ≤ 100000 by omega), (hD.2.2.2 p hp).2.2.2.2.2.2, hD.1]
  by_cases c : nI n ≤ sp_t (gA σ 42) p
  · rw [if_pos c, if_pos c]
  · rw [if_neg c, if_neg c]
theorem sp_nx {W : Nat → Int32} {n p : Nat} (hok : sp_ok W n) (hn : n ≤ 1040) (hp : p < n) : (sp_nb W n p = -1 ∨ ∃ q, q < n ∧ sp_nb W n p = nI q) ∧ (sp_na W n p = -1 ∨ ∃ q, q < n ∧ sp_na W n p = nI q) ∧ ∀ q, q < n → (sp_x W n p q ↔ sp_nb W n p = nI q ∨ sp_na W n p = nI q) := by
  have h1 : (sp_nb W n p = -1 ∧ ∀ q, q < n → ¬ (¬ sp_k W p = 6 ∧ ¬ sp_k W p = 8 ∧ q = p + 1)) ∨ (p + 1 < n ∧ sp_nb W n p = nI (p + 1) ∧ ¬ sp_k W p = 6 ∧ ¬ sp_k W p = 8) := by
    unfold sp_nb
    by_cases c : sp_k W p = 6 ∨ sp_k W p = 8
    · rw [if_pos c]
      exact Or.inl ⟨rfl, fun q _ z => c.elim z.1 z.2.1⟩
    · rw [if_neg c]
      by_cases c2 : p + 1 < n
      · rw [if_pos c2]; exact Or.inr ⟨c2, rfl, fun z => c (Or.inl z), fun z => c (Or.inr z)⟩
      · rw [if_neg c2]; exact Or.inl ⟨rfl, fun q hq z => by omega⟩
  have h2 : (sp_na W n p = -1 ∧ ∀ q, q < n → ¬ ((sp_k W p = 5 ∨ sp_k W p = 6) ∧ nI q = sp_t W p)) ∨ ∃ t, t < n ∧ sp_na W n p = nI t ∧ sp_t W p = nI t ∧ (sp_k W p = 5 ∨ sp_k W p = 6) := by
    unfold sp_na
    by_cases c : sp_k W p = 5 ∨ sp_k W p = 6
    · obtain ⟨t, ht, e, -⟩ := sp_tt hok hn hp c
      rw [e]
      by_cases c2 : n ≤ t
      · rw [if_pos ((gi_le (by omega) (by omega)).mpr c2)]
        refine Or.inl ⟨rfl, fun q hq z => ?_⟩
        have := (gi_eq (by omega) (by omega)).mp z.2
        omega
      · rw [if_neg (fun z => c2 ((gi_le (by omega) (by omega)).mp z))]
        exact Or.inr ⟨t, by omega, rfl, rfl, c⟩
    · have e : sp_t W p = -1 := by unfold sp_t; rw [if_neg c]
      rw [e]
      refine Or.inl ⟨?_, fun q _ z => c z.1⟩
      split <;> rfl
  refine ⟨?_, ?_, fun q hq => ?_⟩
  · rcases h1 with ⟨z, _⟩ | ⟨z1, z2, _⟩
    · exact Or.inl z
    · exact Or.inr ⟨p + 1, z1, z2⟩
  · rcases h2 with ⟨z, _⟩ | ⟨t, z1, z2, _⟩
    · exact Or.inl z
    · exact Or.inr ⟨t, z1, z2⟩
  · unfold sp_x
    constructor
    · rintro ⟨_, z | z⟩
      · rcases h1 with ⟨_, y⟩ | ⟨_, y, _⟩
        · exact absurd z (y q hq)
        · left; rw [y, z.2.2]
      · rcases h2 with ⟨_, y⟩ | ⟨t, _, y1, y2, _⟩
        · exact absurd z (y q hq)
        · right; rw [y1, z.2, y2]
    · rintro (z | z)
      · rcases h1 with ⟨y, _⟩ | ⟨y0, y, y1, y2⟩
        · rw [y] at z; exact absurd z.symm (gi_m1 (by omega))
        · rw [y] at z
          have := (gi_eq (by omega) (by omega)).mp z
          exact ⟨hq, Or.inl ⟨y1, y2, this.symm⟩⟩
      · rcases h2 with ⟨y, _⟩ | ⟨t, y0, y, y1, y2⟩
        · rw [y] at z; exact absurd z.symm (gi_m1 (by omega))
        · rw [y] at z
          have := (gi_eq (by omega) (by omega)).mp z
          exact ⟨hq, Or.inr ⟨y2, by rw [y1, this]⟩⟩
def csk (n : Nat) (σ : gS) : Prop := ∀ q, q < n → gA σ 24 q = 0 ∨ ∃ f, f < n ∧ gA σ 24 q = nI (f + 1) ∧ ¬ gA σ 23 f = 0
def cq (n v : Nat) (σ : gS) (L : List Nat) : Prop := qq 21 5 25 σ L ∧ (∀ p, p < n → (gA σ 24 p = nI (v + 1) ↔ p ∈ L)) ∧ L.Nodup ∧ (∀ x ∈ L, x < n) ∧ csk n σ ∧ ¬ gA σ 23 v = 0
theorem cq_len {n v : Nat} {σ : gS} {L : List Nat} (h : cq n v σ L) : L.length ≤ n := bf_len h.2.2.1 h.2.2.2.1
theorem cq_add {n v : Nat} {a : Int32} {σ : gS} {L : List Nat} (hn : n ≤ 1040) (hv : v < n) (h : cq n v σ L) (ha : a = -1 ∨ ∃ q, q < n ∧ a = nI q) : ∃ s L', F_Reach_addOnce a (nI v) σ = some (.inl none, s) ∧ cq n v s L' ∧ L <+: L' ∧ ∀ x, x ∈ L' ↔ x ∈ L ∨ (x < n ∧ a = nI x) := by
  unfold F_Reach_addOnce
  rcases ha with rfl | ⟨q, hq, rfl⟩
  · rw [if_pos rfl]
    exact ⟨σ, L, rfl, h, List.prefix_refl _, fun x => ⟨Or.inl, fun z => z.elim id (fun y => absurd y.2.symm (gi_m1 (by omega)))⟩⟩
  · rw [if_neg (gi_m1 (by omega)), nI_1]
    simp only [gd_gI (gi_in (show q < 1040 by omega) (by omega : 1040 ≤ 100000)), gi_cl (show q ≤ 100000 by omega)]
    have ex : ∀ x, x < n ∧ nI q = nI x ↔ x = q := fun x => ⟨fun z => ((gi_eq (by omega) (by omega)).mp z.2).symm, fun z => by rw [z]; exact ⟨hq, rfl⟩⟩
    by_cases c : q ∈ L
    · rw [if_pos ((h.2.1 q hq).mpr c)]
      exact ⟨σ, L, rfl, h, List.prefix_refl _, fun x => ⟨Or.inl, fun z => z.elim id (fun y => ((ex x).mp y) ▸ c)⟩⟩
    · rw [if_neg (fun z => c ((h.2.1 q hq).mp z))]
      have hnd := qq_nd h.2.2.1 c
      have hl2 : L.length + 1 ≤ n := by
        have := bf_len hnd (fun x hx => (qq_m.mp hx).elim (fun z => h.2.2.2.1 x z) (fun z => (by omega : x < n)))
        rwa [List.length_append, List.length_singleton] at this
      simp only [gd_s1, gI_A, h.1.1, gd_gI (gi_in (show L.length < 1040 by omega) (by omega : 1040 ≤ 100000)), gi_cl (show L.length ≤ 100000 by omega)]
      refine ⟨_, L ++ [q], rfl, ⟨qq_push h.1 rfl (fun i => rfl), fun p hp => ?_, hnd, fun x hx => ?_, fun p hp => ?_, h.2.2.2.2.2⟩, List.prefix_append L [q], fun x => ?_⟩
      · show (if p = q then nI (v + 1) else gA σ 24 p) = nI (v + 1) ↔ _
        by_cases e : p = q
        · rw [if_pos e]; exact ⟨fun _ => qq_m.mpr (Or.inr e), fun _ => rfl⟩
        · rw [if_neg e, h.2.1 p hp, qq_m]; exact ⟨Or.inl, fun z => z.resolve_right e⟩
      · rcases qq_m.mp hx with z | z
        · exact h.2.2.2.1 x z
        · omega
      · show (if p = q then nI (v + 1) else gA σ 24 p) = 0 ∨ ∃ f, f < n ∧ (if p = q then nI (v + 1) else gA σ 24 p) = nI (f + 1) ∧ ¬ gA σ 23 f = 0
        by_cases e : p = q
        · rw [if_pos e]; exact Or.inr ⟨v, hv, rfl, h.2.2.2.2.2⟩
        · rw [if_neg e]; exact h.2.2.2.2.1 p hp
      · rw [qq_m, ex]
theorem cq_nx {n v p : Nat} {σ : gS} {L : List Nat} (hD : rD n σ) (hv : v < n) (hp : p < n) (h : cq n v σ L) : ∃ s L', F_Reach_addNexts (nI p) (nI v) σ = some (.inl none, s) ∧ cq n v s L' ∧ L <+: L' ∧ ∀ x, x ∈ L' ↔ x ∈ L ∨ sp_x (gA σ 42) n p x := by
  have hn := hD.2.1
  obtain ⟨n1, n2, n3⟩ := sp_nx hD.2.2.1 hn hp
  unfold F_Reach_addNexts
  rw [cl_nb hD hp, gd_qi1]
  obtain ⟨s1, L1, a1, a2, a3, a4⟩ := cq_add hn hv h n1
  have f1 := K_Reach_addOnce _ _ _ _ a1
  have hD1 : rD n s1 := rD_sm hD (fm_sm f1 rfl)
  rw [a1, gd_01, cl_na hD1 hp, gd_qi1, fm_A f1 (p := 42) rfl]
  obtain ⟨s2, L2, b1, b2, b3, b4⟩ := cq_add hn hv a2 n2
  rw [b1, gd_01]
  refine ⟨s2, L2, rfl, b2, List.IsPrefix.trans a3 b3, fun x => ?_⟩
  rw [b4, a4]
  constructor
  · rintro ((z | z) | z)
    · exact Or.inl z
    · exact Or.inr ((n3 x z.1).mpr (Or.inl z.2))
    · exact Or.inr ((n3 x z.1).mpr (Or.inr z.2))
  · rintro (z | z)
    · exact Or.inl (Or.inl z)
    · rcases (n3 x z.1).mp z with y | y
      · exact Or.inl (Or.inr ⟨z.1, y⟩)
      · exact Or.inr ⟨z.1, y⟩
theorem cl_uses {n p : Nat} {σ : gS} (r : Int32) (hD : rD n σ) (hp : p < n) : R_Listing_uses (nI p) r σ = some (.inl (some (.int (sp_o (sp_a (gA σ 42) p = r ∨ sp_b (gA σ 42) p = r))))) := by
  have hn := hD.2.1
  unfold R_Listing_uses
  simp only [gd_gI (gi_in (show p < 1040 by omega) (by omega : 1040 ≤ 100000)), gi_cl (show p ≤ 100000 by omega), (hD.2.2.2 p hp).2.2.2.1, (hD.2.2.2 p hp).2.2.2.2.1]
  by_cases c1 : sp_a (gA σ 42) p = r
  · rw [if_pos c1, sp_ot (Or.inl c1)]
  · rw [if_neg c1]
    by_cases c2 : sp_b (gA σ 42) p = r
    · rw [if_pos c2, sp_ot (Or.inr c2)]
    · rw [if_neg c2, sp_of (fun z => z.elim c1 c2)]
theorem cf_13 {n v : Nat} {σ : gS} {L0 : List Nat} {W : Nat → Int32} (hW : gA σ 42 = W) (hD : rD n σ) (hv : v < n) (h : cq n v σ L0) (h0 : ∀ x, x ∈ L0 ↔ sp_x W n v x) (hb : ∀ q, q < n → lbt (gL σ 22) v q = false) :
    ∃ s, gd_lp (fun _ _ => none) (B_Reach_follow_13 (nI v) (sp_r W v)) gd_N 0 σ = some (.inl none, s) ∧ (∀ q, q < n → (lbt (gL s 22) v q = true ↔ sp_s W n v q ∧ sp_u W v q)) ∧ (∀ v' q, ¬ v' = v → q < n → lbt (gL s 22) v' q = lbt (gL σ 22) v' q) ∧ csk n s := by
  have hn := hD.2.1
  refine gd_it2 (I := fun m i s => ∃ j L, j ≤ L.length ∧ m = n + 1 - j ∧ i = nI j ∧ cq n v s L ∧ (∀ x ∈ L, sp_s W n v x) ∧ (∀ x, sp_x W n v x → x ∈ L) ∧ (∀ (i y : Nat), i < j → L[i]? = some y → ¬ sp_k W y = 7 → ¬ sp_r W y = sp_r W v → ∀ x, sp_x W n y x → x ∈ L) ∧ (∀ q, q < n → (lbt (gL s 22) v q = true ↔ (∃ i, i < j ∧ L[i]? = some q) ∧ sp_u W v q)) ∧ (∀ v' q, ¬ v' = v → q < n → lbt (gL s 22) v' q = lbt (gL σ 22) v' q) ∧ gd_fm W_Reach_follow σ s) (E := fun (r : gR) => ∃ s, r = some (.inl none, s) ∧ (∀ q, q < n → (lbt (gL s 22) v q = true ↔ sp_s W n v q ∧ sp_u W v q)) ∧ (∀ v' q, ¬ v' = v → q < n → lbt (gL s 22) v' q = lbt (gL σ 22) v' q) ∧ csk n s) ?_ gd_N (n + 1) 0 σ ⟨0, L0, Nat.zero_le _, rfl, rfl, h, fun x hx P h1 h2 => h1 x ((h0 x).mp hx), fun x hx => (h0 x).mpr hx, fun i y hi => absurd hi (Nat.not_lt_zero i), fun q hq => ?_, fun v' q _ _ => rfl, gd_fm0 _ _⟩ (gd_Nlt (by omega))
  · rintro m i s ag ⟨j, L, hj, rfl, rfl, hq, hs, h1, hc, hbi, hot, fr⟩
    have w1 : gA s 42 = W := (fm_A fr rfl).trans hW
    have hD1 : rD n s := rD_sm hD (fm_sm fr rfl)
    have hl := cq_len hq
    unfold B_Reach_follow_13
    rw [hq.1.1]
    by_cases hjl : j = L.length
    · rw [if_pos ((gi_le (by omega) (by omega)).mpr (by omega))]
      refine Or.inr ⟨s, rfl, fun q hqn => ?_, hot, hq.2.2.2.2.1⟩
      rw [hbi q hqn]
      have hm : (∃ i, i < j ∧ L[i]? = some q) ↔ sp_s W n v q := by
        constructor
        · rintro ⟨i, _, hi⟩; exact hs q (List.mem_of_getElem? hi)
        · intro hx
          have : q ∈ L := hx (fun x => x ∈ L) (fun x hx => h1 x hx) (fun p x hp h7 hr hx => by
            obtain ⟨i, hi⟩ := List.mem_iff_getElem?.mp hp
            have := (List.getElem?_eq_some_iff.mp hi).1
            exact hc i p (by omega) hi h7 hr x hx)
          obtain ⟨i, hi⟩ := List.mem_iff_getElem?.mp this
          have := (List.getElem?_eq_some_iff.mp hi).1
          exact ⟨i, by omega, hi⟩
      rw [hm]
    · have hlt : j < L.length := by omega
      obtain ⟨p, hp⟩ : ∃ p, L[j]? = some p := ⟨L[j], List.getElem?_eq_getElem hlt⟩
      have hpn : p < n := hq.2.2.2.1 p (List.mem_of_getElem? hp)
      have q1 : gA s 25 j = nI p := hq.1.2 j p hp
      have hps := hs p (List.mem_of_getElem? hp)
      rw [if_neg (fun z => by have := (gi_le (by omega) (by omega)).mp z; omega), if_neg (fun z => by have := (gi_le (a := 1040) (by omega) (by omega)).mp z; omega)]
      simp only [gd_gI (gi_in (show j < 1040 by omega) (by omega : 1040 ≤ 100000)), gi_cl (show j ≤ 100000 by omega), q1, cl_uses (sp_r W v) hD1 hpn, gd_qi1, gd_gI (gi_in (show p < 1040 by omega) (by omega : 1040 ≤ 100000)), gi_cl (show p ≤ 100000 by omega), l6 (show p ≤ 100000 by omega), l63 (show p ≤ 100000 by omega), m17, nI_add, gd_gI (gi_in (show 17 * v + p / 64 < 17680 by omega) (by omega : 17680 ≤ 100000)), gi_cl (show 17 * v + p / 64 ≤ 100000 by omega), w1, nI_1, gd_s1]
      refine Or.inl ?_
      have hnp : ∀ i, i < j → ¬ L[i]? = some p := by
        intro i hi z
        have := (List.getElem?_inj (i := i) (j := j) (show i < L.length by omega) hq.2.2.1).mp (z.trans hp.symm)
        omega
      have tail : ∀ s', gd_fm W_Reach_follow σ s' → rD n s' → gA s' 42 = W → cq n v s' L → (∀ q, q < n → (lbt (gL s' 22) v q = true ↔ (∃ i, i < j + 1 ∧ L[i]? = some q) ∧ sp_u W v q)) → (∀ v' q, ¬ v' = v → q < n → lbt (gL s' 22) v' q = lbt (gL σ 22) v' q) → ∃ a' b' m', m' < n + 1 - j ∧ (∃ j L, j ≤ L.length ∧ m' = n + 1 - j ∧ a' = nI j ∧ cq n v b' L ∧ (∀ x ∈ L, sp_s W n v x) ∧ (∀ x, sp_x W n v x → x ∈ L) ∧ (∀ (i y : Nat), i < j → L[i]? = some y → ¬ sp_k W y = 7 → ¬ sp_r W y = sp_r W v → ∀ x, sp_x W n y x → x ∈ L) ∧ (∀ q, q < n → (lbt (gL b' 22) v q = true ↔ (∃ i, i < j ∧ L[i]? = some q) ∧ sp_u W v q)) ∧ (∀ v' q, ¬ v' = v → q < n → lbt (gL b' 22) v' q = lbt (gL σ 22) v' q) ∧ gd_fm W_Reach_follow σ b') ∧ (gd_j (α := gS → gR) (fun (s14 : gS) => ag (nI (j + 1)) s14) fun J12 => if gA s' 3 p = 7 then J12 s' else if gA s' 5 p = sp_r W v then J12 s' else gd_0 (F_Reach_addNexts (nI p) (nI v) s') fun s13 => J12 s13) = ag a' b' := by
        intro s' fr' hD' w' hq' hb' ho'
        rw [gd_j1, (hD'.2.2.2 p hpn).1, (hD'.2.2.2 p hpn).2.2.1, w']
        have stay : (sp_k W p = 7 ∨ sp_r W p = sp_r W v) → ∃ a' b' m', m' < n + 1 - j ∧ (∃ j L, j ≤ L.length ∧ m' = n + 1 - j ∧ a' = nI j ∧ cq n v b' L ∧ (∀ x ∈ L, sp_s W n v x) ∧ (∀ x, sp_x W n v x → x ∈ L) ∧ (∀ (i y : Nat), i < j → L[i]? = some y → ¬ sp_k W y = 7 → ¬ sp_r W y = sp_r W v → ∀ x, sp_x W n y x → x ∈ L) ∧ (∀ q, q < n → (lbt (gL b' 22) v q = true ↔ (∃ i, i < j ∧ L[i]? = some q) ∧ sp_u W v q)) ∧ (∀ v' q, ¬ v' = v → q < n → lbt (gL b' 22) v' q = lbt (gL σ 22) v' q) ∧ gd_fm W_Reach_follow σ b') ∧ ag (nI (j + 1)) s' = ag a' b' := by
          intro hst
          refine ⟨nI (j + 1), s', n + 1 - (j + 1), by omega, ⟨j + 1, L, by omega, rfl, rfl, hq', hs, h1, fun i y hi hy h7 hr => ?_, hb', ho', fr'⟩, rfl⟩
          by_cases e : i = j
          · subst e
            rw [hp] at hy
            cases hy
            exact (hst.elim h7 hr).elim
          · exact hc i y (by omega) hy h7 hr
        by_cases c7 : sp_k W p = 7
        · rw [if_pos c7]; exact stay (Or.inl c7)
        · rw [if_neg c7]
          by_cases cr : sp_r W p = sp_r W v
          · rw [if_pos cr]; exact stay (Or.inr cr)
          · rw [if_neg cr]
            obtain ⟨s2, L2, b1, b2, b3, b4⟩ := cq_nx hD' hv hpn hq'
            have f2 := K_Reach_addNexts _ _ _ _ b1
            rw [w'] at b4
            rw [b1, gd_01]
            have hle := b3.length_le
            refine ⟨nI (j + 1), s2, n + 1 - (j + 1), by omega, ⟨j + 1, L2, by omega, rfl, rfl, b2, fun x hx => ?_, fun x hx => (b4 x).mpr (Or.inl (h1 x hx)), fun i y hi hy h7 hr x hx => ?_, fun q hqn => ?_, fun v' q hv' hqn => ?_, gd_fmT (gd_sbI rfl) fr' f2⟩, rfl⟩
            · rcases (b4 x).mp hx with z | z
              · exact hs x z
              · exact fun P g1 g2 => g2 p x (hps P g1 g2) c7 cr z
            · rw [bf_pre b3 (by omega)] at hy
              by_cases e : i = j
              · subst e
                rw [hp] at hy
                cases hy
                exact (b4 x).mpr (Or.inr hx)
              · exact (b4 x).mpr (Or.inl (hc i y (by omega) hy h7 hr x hx))
            · rw [fm_L f2 (p := 22) rfl, hb' q hqn]
              refine and_congr ⟨?_, ?_⟩ Iff.rfl
              · rintro ⟨i, hi, hx⟩; exact ⟨i, hi, by rw [bf_pre b3 (by omega)]; exact hx⟩
              · rintro ⟨i, hi, hx⟩; exact ⟨i, hi, by rw [bf_pre b3 (by omega)] at hx; exact hx⟩
            · rw [fm_L f2 (p := 22) rfl]; exact ho' v' q hv' hqn
      have mem1 : ∀ q, (∃ i, i < j + 1 ∧ L[i]? = some q) ↔ ((∃ i, i < j ∧ L[i]? = some q) ∨ q = p) := by
        intro q
        constructor
        · rintro ⟨i, hi, hx⟩
          by_cases e : i = j
          · subst e; rw [hp] at hx; exact Or.inr (by cases hx; rfl)
          · exact Or.inl ⟨i, by omega, hx⟩
        · rintro (⟨i, hi, hx⟩ | e)
          · exact ⟨i, by omega, hx⟩
          · exact ⟨j, by omega, by rw [hp, e]⟩
      rw [gd_j1]
      by_cases cu : sp_a W p = sp_r W v ∨ sp_b W p = sp_r W v
      · rw [sp_ot cu, if_neg (show ¬ (1 : Int32) = 0 by decide)]
        refine tail _ (gd_fmL fr rfl) hD1 w1 hq (fun q hqn => ?_) (fun v' q hv' hqn => ?_)
        · show lbt (fun i => if i = 17 * v + p / 64 then gL s 22 (17 * v + p / 64) ||| ((1 : Int64) <<< (Int32.toInt64 (nI (p % 64)) &&& 63)) else gL s 22 i) v q = true ↔ _
          rw [lo_or (by omega) (by omega), mem1]
          by_cases e : q = p
          · rw [if_pos ⟨rfl, e⟩, e]
            exact ⟨fun _ => ⟨Or.inr rfl, cu⟩, fun _ => rfl⟩
          · rw [if_neg (fun z => e z.2), hbi q hqn]
            exact and_congr ⟨Or.inl, fun z => z.resolve_right e⟩ Iff.rfl
        · show lbt (fun i => if i = 17 * v + p / 64 then gL s 22 (17 * v + p / 64) ||| ((1 : Int64) <<< (Int32.toInt64 (nI (p % 64)) &&& 63)) else gL s 22 i) v' q = _
          rw [lo_or (by omega) (by omega), if_neg (fun z => hv' z.1)]
          exact hot v' q hv' hqn
      · rw [sp_of cu, if_pos (rfl : (0 : Int32) = 0)]
        refine tail s fr hD1 w1 hq (fun q hqn => ?_) hot
        rw [hbi q hqn, mem1]
        constructor
        · rintro ⟨a, b⟩; exact ⟨Or.inl a, b⟩
        · rintro ⟨a | a, b⟩
          · exact ⟨a, b⟩
          · subst a; exact absurd b cu
  · rw [hb q hq]
    exact ⟨fun z => (by cases z), fun ⟨⟨i, hi, _⟩, _⟩ => absurd hi (Nat.not_lt_zero i)⟩
def rRC (n : Nat) (σ : gS) : Prop := (∀ p, p < n → ¬ gA σ 23 p = 0 → ∀ q, q < n → (lbt (gL σ 22) p q = true ↔ sp_c (gA σ 42) n p q)) ∧ csk n σ
theorem tr_all {n v : Nat} {σ : gS} (hD : rD n σ) (hC : rRC n σ) (hv : v < n) : ∃ s, F_Reach_trace (nI v) σ = some (.inl none, s) ∧ rRC n s ∧ ¬ gA s 23 v = 0 ∧ ∀ p, ¬ gA σ 23 p = 0 → ¬ gA s 23 p = 0 := by
  have hn := hD.2.1
  unfold F_Reach_trace
  simp only [gd_gI (gi_in (show v < 1040 by omega) (by omega : 1040 ≤ 100000)), gi_cl (show v ≤ 100000 by omega), m17]
  by_cases c : gA σ 23 v = 0
  · rw [if_pos c, show nI (17 * v) + (17 : Int32) = nI (17 * v + 17) from nI_add (17 * v) 17]
    have hfr : gd_fr (nI (17 * v)) (nI (17 * v + 17)) 17680 := ⟨⟨nI_pos (by omega), nI_pos (by omega)⟩, by rw [gi_cl (by omega), gi_cl (by omega)]; omega, by rw [gi_cl (by omega)]; omega⟩
    simp only [gd_gI hfr, gi_cl (show 17 * v ≤ 100000 by omega), gi_cl (show 17 * v + 17 ≤ 100000 by omega), gd_s1]
    generalize hρ : gs_rowL (gs_A σ 23 v 1) 22 (f_fillL (gL (gs_A σ 23 v 1) 22) (17 * v) (17 * v + 17) 0) = ρ
    have fr : gd_fm ([], [23], [22]) σ ρ := by rw [← hρ]; exact gd_fmRL (gd_fmA (gd_fm0 _ _) rfl) rfl
    have hDρ : rD n ρ := rD_sm hD (fm_sm fr rfl)
    have w : gA ρ 42 = gA σ 42 := fm_A fr rfl
    have e23 : ∀ p, gA ρ 23 p = if p = v then 1 else gA σ 23 p := fun p => by rw [← hρ]; rfl
    have e22 : ∀ v' q, q < n → lbt (gL ρ 22) v' q = if v' = v then false else lbt (gL σ 22) v' q := by
      intro v' q hq
      rw [← hρ]
      unfold lbt
      show bq (if 17 * v ≤ 17 * v' + q / 64 ∧ 17 * v' + q / 64 < 17 * v + 17 then 0 else gL σ 22 (17 * v' + q / 64)) (q % 64) = _
      by_cases e : v' = v
      · rw [if_pos e, if_pos (by omega), bq_0]
      · rw [if_neg e, if_neg (by omega)]
    have t23 : ∀ p, ¬ gA σ 23 p = 0 → ¬ gA ρ 23 p = 0 := fun p hp => by
      rw [e23]
      by_cases e : p = v
      · rw [if_pos e]; decide
      · rw [if_neg e]; exact hp
    have v23 : ¬ gA ρ 23 v = 0 := by rw [e23, if_pos rfl]; decide
    have k24 : gA ρ 24 = gA σ 24 := fm_A fr rfl
    have csρ : csk n ρ := fun q hq => by
      rw [k24]
      rcases hC.2 q hq with z | ⟨f, z1, z2, z3⟩
      · exact Or.inl z
      · exact Or.inr ⟨f, z1, z2, t23 f z3⟩
    rw [(hDρ.2.2.2 v hv).2.2.1, w]
    by_cases cr : sp_r (gA σ 42) v = 0
    · rw [if_pos cr]
      refine ⟨ρ, rfl, ⟨fun p hp hp2 q hq => ?_, csρ⟩, v23, t23⟩
      rw [e22 p q hq, w]
      by_cases e : p = v
      · rw [if_pos e, e]
        exact ⟨fun z => (by cases z), fun z => absurd cr z.1⟩
      · rw [if_neg e]
        rw [e23, if_neg e] at hp2
        exact hC.1 p hp hp2 q hq
    · rw [if_neg cr]
      unfold F_Reach_follow
      rw [gd_s1]
      have hq0 : cq n v (gs_I ρ 21 5 0) [] := by
        refine ⟨⟨rfl, fun i x hx => by simp at hx⟩, fun p hp => ⟨fun z => ?_, fun z => (by cases z)⟩, List.nodup_nil, fun x hx => (by cases hx), csρ, v23⟩
        exfalso
        have z : gA ρ 24 p = nI (v + 1) := z
        rw [k24] at z
        rcases hC.2 p hp with y | ⟨f, y1, y2, y3⟩
        · rw [y] at z
          exact nI_ne0 (by omega) (by omega) z.symm
        · rw [y2] at z
          have := (gi_eq (by omega) (by omega)).mp z
          have : f = v := by omega
          subst this
          exact y3 c
      obtain ⟨s1, L1, a1, a2, a3, a4⟩ := cq_nx (σ := gs_I ρ 21 5 0) (p := v) hDρ hv hv hq0
      have f1 := K_Reach_addNexts _ _ _ _ a1
      have a4' : ∀ x, x ∈ L1 ↔ sp_x (gA σ 42) n v x := fun x => by
        rw [a4]
        show x ∈ [] ∨ sp_x (gA ρ 42) n v x ↔ _
        rw [w]
        exact ⟨fun z => z.elim (fun y => by cases y) id, Or.inr⟩
      have w1 : gA s1 42 = gA σ 42 := (fm_A f1 (p := 42) rfl).trans w
      have hD1 : rD n s1 := rD_sm (show rD n (gs_I ρ 21 5 0) from hDρ) (fm_sm f1 rfl)
      have e1 : gL s1 22 = gL ρ 22 := fm_L f1 (p := 22) rfl
      obtain ⟨s2, b1, b2, b3, b4⟩ := cf_13 (W := gA σ 42) w1 hD1 hv a2 a4' (fun q hq => by rw [e1, e22 v q hq, if_pos rfl])
      have f2 : gd_fm W_Reach_follow (gs_I ρ 21 5 0) s2 := by
        have : F_Reach_follow (nI v) (sp_r (gA σ 42) v) ρ = some (.inl none, s2) := by
          unfold F_Reach_follow
          rw [gd_s1, a1, gd_01, b1]
        have := K_Reach_follow _ _ _ _ this
        exact gd_fmT (gd_sbI rfl) (gd_fm0 _ _) ⟨fun p k hp => by
          have h1 := this.1 p k hp
          rw [h1, gI_I]
          by_cases q1 : p = 21
          · by_cases q2 : k = 5
            · subst q1; subst q2; exact absurd (by decide) hp
            · rw [if_pos q1, if_neg q2]
          · rw [if_neg q1], this.2.1, this.2.2.1, this.2.2.2⟩
      rw [a1, gd_01, b1]
      have k23 : gA s2 23 = gA ρ 23 := fm_A f2 (p := 23) rfl
      have w2 : gA s2 42 = gA σ 42 := (fm_A f2 (p := 42) rfl).trans w
      refine ⟨s2, rfl, ⟨fun p hp hp2 q hq => ?_, b4⟩, by rw [k23]; exact v23, fun p hp => by rw [k23]; exact t23 p hp⟩
      rw [w2]
      by_cases e : p = v
      · subst e
        rw [b2 q hq]
        exact ⟨fun z => ⟨cr, z.1, z.2⟩, fun z => ⟨z.2.1, z.2.2⟩⟩
      · rw [b3 p q e hq, e1, e22 p q hq, if_neg e]
        rw [k23, e23, if_neg e] at hp2
        exact hC.1 p hp hp2 q hq
  · rw [if_neg c]
    exact ⟨σ, rfl, hC, c, fun p hp => hp⟩
