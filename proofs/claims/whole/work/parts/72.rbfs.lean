def sp_xs (W : Nat → Int32) (n p : Nat) : List Nat := (if sp_k W p = 6 ∨ sp_k W p = 8 then [] else if p + 1 < n then [p + 1] else []) ++ (if sp_k W p = 5 ∨ sp_k W p = 6 then (if (sp_t W p).toNatClampNeg < n then [(sp_t W p).toNatClampNeg] else []) else [])
theorem sp_tt {W : Nat → Int32} {n p : Nat} (hok : sp_ok W n) (hn : n ≤ 1040) (hp : p < n) (hk : sp_k W p = 5 ∨ sp_k W p = 6) : ∃ t, t ≤ n ∧ sp_t W p = nI t ∧ nI p + f_M_offset (W p) / 4 = nI t := by
  obtain ⟨t, ht, et⟩ := sp_tgt hok hn hp hk
  exact ⟨t, ht, by unfold sp_t; rw [if_pos hk]; exact et, et⟩
theorem sp_xm {W : Nat → Int32} {n p q : Nat} (hok : sp_ok W n) (hn : n ≤ 1040) (hp : p < n) : q ∈ sp_xs W n p ↔ sp_x W n p q := by
  unfold sp_xs sp_x
  rw [List.mem_append]
  constructor
  · rintro (h | h)
    · by_cases c : sp_k W p = 6 ∨ sp_k W p = 8
      · rw [if_pos c] at h; cases h
      · rw [if_neg c] at h
        by_cases c2 : p + 1 < n
        · rw [if_pos c2] at h
          have h : q = p + 1 := by simpa using h
          subst h
          exact ⟨c2, Or.inl ⟨fun z => c (Or.inl z), fun z => c (Or.inr z), rfl⟩⟩
        · rw [if_neg c2] at h; cases h
    · by_cases c : sp_k W p = 5 ∨ sp_k W p = 6
      · rw [if_pos c] at h
        obtain ⟨t, ht, e, -⟩ := sp_tt hok hn hp c
        rw [e, gi_cl (by omega)] at h
        by_cases c2 : t < n
        · rw [if_pos c2] at h
          have h : q = t := by simpa using h
          subst h
          exact ⟨c2, Or.inr ⟨c, e.symm⟩⟩
        · rw [if_neg c2] at h; cases h
      · rw [if_neg c] at h; cases h
  · rintro ⟨hq, ⟨h6, h8, e⟩ | ⟨c, e⟩⟩
    · subst e
      rw [if_neg (fun z => z.elim h6 h8), if_pos hq]
      exact Or.inl (by simp)
    · obtain ⟨t, ht, e2, -⟩ := sp_tt hok hn hp c
      have : q = t := (gi_eq (by omega) (by omega)).mp (e.trans e2)
      subst this
      rw [if_pos c, e2, gi_cl (by omega), if_pos hq]
      exact Or.inr (by simp)
def rq (n : Nat) (σ : gS) (L : List Nat) : Prop := gI σ 41 37 = nI L.length ∧ (∀ i x, L[i]? = some x → gA σ 62 i = nI x) ∧ (∀ p, p < n → gA σ 63 p = if p ∈ L then 1 else 0) ∧ L.Nodup ∧ ∀ x ∈ L, x < n
theorem rq_len {n : Nat} {σ : gS} {L : List Nat} (h : rq n σ L) : L.length ≤ n := bf_len h.2.2.2.1 h.2.2.2.2
theorem rq_visit {n q : Nat} {σ : gS} {L : List Nat} (hn : n ≤ 1040) (h2 : gI σ 41 2 = nI n) (h : rq n σ L) (hq : q ≤ n) : ∃ σ', F_M_visit (nI q) σ = some (.inl none, σ') ∧ rq n σ' (if q < n then bf_a L q else L) := by
  obtain ⟨h37, hqu, hse, hnd, hbd⟩ := id h
  unfold F_M_visit
  rw [h2]
  by_cases c : q < n
  · rw [if_neg (fun z => by have := (gi_le (by omega) (by omega)).mp z; omega), if_pos c]
    simp only [gd_gI (gi_in (show q < 1040 by omega) (by omega : 1040 ≤ 100000)), gi_cl (show q ≤ 100000 by omega)]
    rw [hse q c]
    by_cases m : q ∈ L
    · rw [if_pos m, if_neg (show ¬ (1 : Int32) = 0 by decide)]
      refine ⟨σ, rfl, ?_⟩
      unfold bf_a
      rw [if_pos m]
      exact h
    · have hnd2 : (bf_a L q).Nodup := bf_and hnd
      have hb2 : ∀ x ∈ bf_a L q, x < n := fun x hx => (bf_am.mp hx).elim (hbd x) (fun z => by rw [z]; exact c)
      have hl2 := bf_len hnd2 hb2
      have el : bf_a L q = L ++ [q] := by unfold bf_a; rw [if_neg m]
      rw [el] at hl2 hnd2 hb2 ⊢
      rw [List.length_append, List.length_singleton] at hl2
      rw [if_neg m, if_pos rfl]
      simp only [gd_s1, show gI (gs_A σ 63 q (vp_nar .boolean 1)) 41 37 = nI L.length from h37, gd_gI (gi_in (show L.length < 2081 by omega) (by omega : 2081 ≤ 100000)), gi_cl (show L.length ≤ 100000 by omega)]
      refine ⟨_, rfl, ?_, fun i x hx => ?_, fun p hp => ?_, hnd2, hb2⟩
      · show gI σ 41 37 + 1 = _
        rw [h37, nI_1, List.length_append, List.length_singleton]
      · show (if i = L.length then nI q else gA σ 62 i) = nI x
        by_cases hi : i < L.length
        · rw [List.getElem?_append_left hi] at hx
          rw [if_neg (by omega)]
          exact hqu i x hx
        · rw [List.getElem?_append_right (by omega)] at hx
          have hi2 : i = L.length := by
            have := (List.getElem?_eq_some_iff.mp hx).1
            simp at this
            omega
          subst hi2
          have : q = x := by simpa using hx
          rw [if_pos rfl, this]
      · show (if p = q then vp_nar .boolean 1 else gA σ 63 p) = _
        by_cases e : p = q
        · subst e
          rw [if_pos rfl, if_pos (by simp)]
          rfl
        · rw [if_neg e, hse p hp]
          by_cases m2 : p ∈ L
          · rw [if_pos m2, if_pos (List.mem_append_left _ m2)]
          · rw [if_neg m2, if_neg (fun z => (List.mem_append.mp z).elim m2 (fun y => e (by simpa using y)))]
  · rw [if_pos ((gi_le (by omega) (by omega)).mpr (by omega)), if_neg c]
    exact ⟨σ, rfl, h⟩
theorem bf_nap (L A B : List Nat) : bf_n L (A ++ B) = bf_n (bf_n L A) B := List.foldl_append
theorem rq_goOn {n p : Nat} {W : Nat → Int32} {σ : gS} {L : List Nat} (hW : gA σ 42 = W) (hok : sp_ok W n) (hn : n ≤ 1040) (h2 : gI σ 41 2 = nI n) (h : rq n σ L) (hp : p < n) : ∃ σ', F_M_goOn (nI p) σ = some (.inl none, σ') ∧ rq n σ' (bf_n L (sp_xs W n p)) := by
  unfold F_M_goOn sp_xs
  rw [bf_nap, br_kindN (by omega), gd_qi1, gd_j1, hW]
  have tail : ∀ (s : gS) (M : List Nat), gA s 42 = W → gI s 41 2 = nI n → rq n s M → ∃ σ', (gd_j (α := gR) (gd_qi (R_M_target (nI p) s) s fun r6 => gd_0 (F_M_visit r6 s) fun s7 => some (.inl none, s7)) fun J5 => if sp_k W p = 5 then J5 else if sp_k W p = 6 then J5 else some (.inl none, s)) = some (.inl none, σ') ∧ rq n σ' (bf_n M (if sp_k W p = 5 ∨ sp_k W p = 6 then (if (sp_t W p).toNatClampNeg < n then [(sp_t W p).toNatClampNeg] else []) else [])) := by
    intro s M w1 w2 hM
    rw [gd_j1]
    by_cases c : sp_k W p = 5 ∨ sp_k W p = 6
    · obtain ⟨t, ht, e1, e2⟩ := sp_tt hok hn hp c
      have tg := br_targetN (p := p) (by omega) s
      rw [w1, e2] at tg
      rw [if_pos c, e1, gi_cl (by omega), tg, gd_qi1]
      obtain ⟨s', v1, v2⟩ := rq_visit hn w2 hM ht
      have e3 : bf_n M (if t < n then [t] else []) = if t < n then bf_a M t else M := by
        by_cases z : t < n
        · rw [if_pos z, if_pos z]; rfl
        · rw [if_neg z, if_neg z]; rfl
      rw [e3, v1, gd_01]
      refine ⟨s', ?_, v2⟩
      rcases c with c | c
      · rw [if_pos c]
      · rw [if_neg (fun z => absurd (z.symm.trans c) (by decide)), if_pos c]
    · rw [if_neg c, if_neg (fun z => c (Or.inl z)), if_neg (fun z => c (Or.inr z))]
      exact ⟨s, rfl, hM⟩
  by_cases c6 : sp_k W p = 6
  · rw [if_pos c6, if_pos (show sp_k W p = 6 ∨ sp_k W p = 8 from Or.inl c6)]
    exact tail σ L hW h2 h
  · rw [if_neg c6]
    by_cases c8 : sp_k W p = 8
    · rw [if_pos c8, if_pos (show sp_k W p = 6 ∨ sp_k W p = 8 from Or.inr c8)]
      exact tail σ L hW h2 h
    · rw [if_neg c8, if_neg (show ¬ (sp_k W p = 6 ∨ sp_k W p = 8) from fun z => z.elim c6 c8), nI_1]
      obtain ⟨s', v1, v2⟩ := rq_visit hn h2 h (show p + 1 ≤ n by omega)
      have fr := K_M_visit _ _ _ v1
      have e3 : bf_n L (if p + 1 < n then [p + 1] else []) = if p + 1 < n then bf_a L (p + 1) else L := by
        by_cases z : p + 1 < n
        · rw [if_pos z, if_pos z]; rfl
        · rw [if_neg z, if_neg z]; rfl
      rw [e3, v1, gd_01]
      exact tail s' _ ((fm_A fr rfl).trans hW) ((fm_I fr rfl).trans h2) v2
theorem bb_xor (x y : Int32) (i : Nat) : bb (x ^^^ y) i = (bb x i ^^ bb y i) := by
  unfold bb; rw [Int32.toBitVec_xor, BitVec.getLsbD_xor]
theorem bb_1 {k i : Nat} (hk : k < 32) (hi : i < 32) : bb ((1 : Int32) <<< (nI k &&& 31)) i = decide (i = k) := by
  have h1 : ((nI k &&& 31).toBitVec.smod 32).toNat = k := (by decide : ∀ k, k < 32 → ((nI k &&& 31).toBitVec.smod 32).toNat = k) k hk
  rw [bb_shl h1 hi, (by decide : ∀ i, i < 32 → bb 1 i = decide (i = 0)) (i - k) (by omega)]
  by_cases e : i = k
  · subst e; rw [decide_eq_true (Nat.le_refl i), decide_eq_true (by omega : i - i = 0), decide_eq_true rfl]; rfl
  · rw [decide_eq_false e]
    by_cases c : k ≤ i
    · rw [decide_eq_false (by omega : ¬ i - k = 0), Bool.and_false]
    · rw [decide_eq_false c, Bool.false_and]
theorem bb_t {x : Int32} {k : Nat} (hk : k < 32) : (x >>> (nI k &&& 31)) &&& (1 : Int32) = 1 ↔ bb x k = true := by
  have h1 : ((nI k &&& 31).toBitVec.smod 32).toNat = k := (by decide : ∀ k, k < 32 → ((nI k &&& 31).toBitVec.smod 32).toNat = k) k hk
  have e : ∀ i, i < 32 → bb ((x >>> (nI k &&& 31)) &&& (1 : Int32)) i = (decide (i = 0) && bb x k) := by
    intro i hi
    rw [bb_and, bb_shr h1 hi, (by decide : ∀ i, i < 32 → bb 1 i = decide (i = 0)) i hi]
    by_cases z : i = 0
    · subst z; rw [Nat.add_zero, if_pos hk, decide_eq_true rfl, Bool.and_true, Bool.true_and]
    · rw [decide_eq_false z, Bool.and_false, Bool.false_and]
  constructor
  · intro z
    have := e 0 (by omega)
    rw [z] at this
    rw [decide_eq_true rfl, Bool.true_and] at this
    rw [← this]; decide
  · intro z
    refine bb_ext fun i hi => ?_
    rw [e i hi, z, Bool.and_true, (by decide : ∀ i, i < 32 → bb 1 i = decide (i = 0)) i hi]
