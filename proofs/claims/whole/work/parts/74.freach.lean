def sp_u (W : Nat → Int32) (v q : Nat) : Prop := sp_a W q = sp_r W v ∨ sp_b W q = sp_r W v
theorem fr_J {W : Nat → Int32} {n v p j : Nat} {s : gS} {L : List Nat} (hW : gA s 42 = W) (hok : sp_ok W n) (hn : n ≤ 1040) (h2 : gI s 41 2 = nI n) (hr : ¬ sp_r W v = 0) (h : rq n s L) (hp : p < n) (ag : Int32 → gS → gR) :
    ∃ s', (gd_qi (R_M_kind (nI p) s) s fun r30 => gd_j (α := gS → gR) (fun (s34 : gS) => ag (nI j + 1) s34) fun J31 => if r30 = 7 then J31 s else gd_qi (R_M_result (nI p) s) s fun r32 => if r32 = sp_r W v then J31 s else gd_0 (F_M_goOn (nI p) s) fun s33 => J31 s33) = ag (nI (j + 1)) s' ∧ rq n s' (bf_n L (sn_X W n v p)) ∧ gd_fm W_M_goOn s s' := by
  obtain ⟨d, hd, ed⟩ := sp_rl W v
  obtain ⟨d2, hd2, ed2⟩ := sp_rl W p
  have hd0 : ¬ d = 0 := fun z => hr (by rw [ed, z]; rfl)
  unfold sn_X
  rw [br_kindN (by omega), gd_qi1, gd_j1, hW, nI_1]
  by_cases c7 : sp_k W p = 7
  · rw [if_pos c7, if_pos (show sp_k W p = 7 ∨ sp_r W p = sp_r W v from Or.inl c7)]
    exact ⟨s, rfl, h, gd_fm0 _ _⟩
  · rw [if_neg c7, br_result (by omega), gd_qi1, hW]
    have e : (if sp_r W p = 0 then (-1 : Int32) else sp_r W p) = sp_r W v ↔ sp_r W p = sp_r W v := by
      by_cases c0 : sp_r W p = 0
      · rw [if_pos c0]
        constructor
        · intro z; rw [ed] at z; exact absurd z.symm (gi_m1 (by omega))
        · intro z; exact absurd (z.symm.trans c0) hr
      · rw [if_neg c0]
    by_cases cr : sp_r W p = sp_r W v
    · rw [if_pos (e.mpr cr), if_pos (show sp_k W p = 7 ∨ sp_r W p = sp_r W v from Or.inr cr)]
      exact ⟨s, rfl, h, gd_fm0 _ _⟩
    · rw [if_neg (fun z => cr (e.mp z)), if_neg (show ¬ (sp_k W p = 7 ∨ sp_r W p = sp_r W v) from fun z => z.elim c7 cr)]
      obtain ⟨s', g1, g2⟩ := rq_goOn hW hok hn h2 h hp
      rw [g1, gd_01]
      exact ⟨s', rfl, g2, K_M_goOn _ _ _ g1⟩
theorem fr_loop {W : Nat → Int32} {n v : Nat} {σ : gS} {L0 : List Nat} (hW : gA σ 42 = W) (hok : sp_ok W n) (hn : n ≤ 1040) (h2 : gI σ 41 2 = nI n) (hv : v < n) (hr : ¬ sp_r W v = 0) (h : rq n σ L0) (hb : ∀ q, q < n → rbt (gA σ 57) v q = false) :
    ∃ s, gd_lp (fun _ _ => none) (B_M_findReach_72 (nI v) (sp_r W v)) gd_N 0 σ = some (.inl none, s) ∧ (∀ q, q < n → (rbt (gA s 57) v q = true ↔ q ∈ bf (sn_X W n v) (n + 1) 0 L0 ∧ sp_u W v q)) ∧ (∀ v', ¬ v' = v → ∀ q, q < 1040 → rbt (gA s 57) v' q = rbt (gA σ 57) v' q) := by
  refine gd_it2 (I := fun m i s => ∃ j L, j ≤ L.length ∧ m = n + 1 - j ∧ i = nI j ∧ rq n s L ∧ gd_fm W_M_findReach σ s ∧ bf (sn_X W n v) (n + 1 - j) j L = bf (sn_X W n v) (n + 1) 0 L0 ∧ (∀ q, q < n → (rbt (gA s 57) v q = true ↔ (∃ i, i < j ∧ L[i]? = some q) ∧ sp_u W v q)) ∧ (∀ v', ¬ v' = v → ∀ q, q < 1040 → rbt (gA s 57) v' q = rbt (gA σ 57) v' q)) (E := fun (r : gR) => ∃ s, r = some (.inl none, s) ∧ (∀ q, q < n → (rbt (gA s 57) v q = true ↔ q ∈ bf (sn_X W n v) (n + 1) 0 L0 ∧ sp_u W v q)) ∧ (∀ v', ¬ v' = v → ∀ q, q < 1040 → rbt (gA s 57) v' q = rbt (gA σ 57) v' q)) ?_ gd_N (n + 1) 0 σ ⟨0, L0, Nat.zero_le _, rfl, rfl, h, gd_fm0 _ _, rfl, fun q hq => ?_, fun _ _ _ _ => rfl⟩ (gd_Nlt (by omega))
  · rintro m i s ag ⟨j, L, hj, rfl, rfl, hq, fr, hbf, hbi, hot⟩
    have w1 : gA s 42 = W := (fm_A fr rfl).trans hW
    have s1 : gI s 41 2 = nI n := (fm_I fr rfl).trans h2
    have hl := rq_len hq
    unfold B_M_findReach_72
    rw [hq.1]
    by_cases hjl : j = L.length
    · rw [if_pos ((gi_le (by omega) (by omega)).mpr (by omega))]
      refine Or.inr ⟨s, rfl, fun q hqn => ?_, hot⟩
      rw [hbi q hqn, ← hbf, bf_end (by omega)]
      constructor
      · rintro ⟨⟨i, _, hi⟩, hu⟩; exact ⟨List.mem_of_getElem? hi, hu⟩
      · rintro ⟨hm, hu⟩
        obtain ⟨i, hi⟩ := List.mem_iff_getElem?.mp hm
        exact ⟨⟨i, by have := (List.getElem?_eq_some_iff.mp hi).1; omega, hi⟩, hu⟩
    · have hlt : j < L.length := by omega
      obtain ⟨p, hp⟩ : ∃ p, L[j]? = some p := ⟨L[j], List.getElem?_eq_getElem hlt⟩
      have hpn : p < n := hq.2.2.2.2 p (List.mem_of_getElem? hp)
      have q1 : gA s 62 j = nI p := hq.2.1 j p hp
      have hk := sp_okk hok hpn
      rw [if_neg (fun z => by have := (gi_le (by omega) (by omega)).mp z; omega), gd_gI (gi_in (show j < 2081 by omega) (by omega)), gi_cl (by omega), q1]
      have fi := br_first (show p < 1040 by omega) s (by rw [w1]; exact hk)
      have se := br_second (show p < 1040 by omega) s (by rw [w1]; exact hk)
      rw [w1] at fi se
      rw [fi, gd_qi1, gd_j1, gd_j1, se, gd_qi1]
      have hfuel : n + 1 - j = (n + 1 - (j + 1)) + 1 := by omega
      rw [hfuel, bf_step hp] at hbf
      have hpre := bf_npre (sn_X W n v p) L
      have hnp : ∀ i, i < j → ¬ L[i]? = some p := by
        intro i hi z
        have := (List.getElem?_inj (i := i) (j := j) (show i < L.length by omega) hq.2.2.2.1).mp (z.trans hp.symm)
        omega
      have mem1 : ∀ q, (∃ i, i < j + 1 ∧ (bf_n L (sn_X W n v p))[i]? = some q) ↔ ((∃ i, i < j ∧ L[i]? = some q) ∨ q = p) := by
        intro q
        constructor
        · rintro ⟨i, hi, hx⟩
          rw [bf_pre hpre (by omega)] at hx
          by_cases e : i = j
          · subst e; rw [hp] at hx; exact Or.inr (by cases hx; rfl)
          · exact Or.inl ⟨i, by omega, hx⟩
        · rintro (⟨i, hi, hx⟩ | e)
          · exact ⟨i, by omega, by rw [bf_pre hpre (by omega)]; exact hx⟩
          · exact ⟨j, by omega, by rw [bf_pre hpre hlt, hp, e]⟩
      have hlen2 : j + 1 ≤ (bf_n L (sn_X W n v p)).length := by
        have := hpre.length_le
        omega
      have use : sp_u W v p → ∃ s', (gd_0 (F_M_turn_57 (nI v) (nI p) s) fun s28 => gd_qi (R_M_kind (nI p) s28) s28 fun r30 => gd_j (α := gS → gR) (fun (s34 : gS) => ag (nI j + 1) s34) fun J31 => if r30 = 7 then J31 s28 else gd_qi (R_M_result (nI p) s28) s28 fun r32 => if r32 = sp_r W v then J31 s28 else gd_0 (F_M_goOn (nI p) s28) fun s33 => J31 s33) = ag (nI (j + 1)) s' ∧ rq n s' (bf_n L (sn_X W n v p)) ∧ gd_fm W_M_findReach σ s' ∧ (∀ q, q < n → (rbt (gA s' 57) v q = true ↔ (∃ i, i < j + 1 ∧ (bf_n L (sn_X W n v p))[i]? = some q) ∧ sp_u W v q)) ∧ (∀ v', ¬ v' = v → ∀ q, q < 1040 → rbt (gA s' 57) v' q = rbt (gA σ 57) v' q) := by
        intro hu
        have tn := tn_57 (show v < 1040 by omega) (show p < 1040 by omega) s
        have ft := K_M_turn_57 _ _ _ _ tn
        rw [tn, gd_01]
        obtain ⟨s', g1, g2, g3⟩ := fr_J (j := j) (s := tn_s 57 s v p) (show gA (tn_s 57 s v p) 42 = W from w1) hok hn (show gI (tn_s 57 s v p) 41 2 = nI n from s1) hr (show rq n (tn_s 57 s v p) L from hq) hpn ag
        have e57 : gA s' 57 = gA (tn_s 57 s v p) 57 := fm_A g3 rfl
        refine ⟨s', g1, g2, gd_fmT (gd_sbI rfl) (gd_fmT (gd_sbI rfl) fr ft) g3, fun q hqn => ?_, fun v' hv' q hq' => ?_⟩
        · rw [e57, tn_bit 57 s (by omega) (by omega), mem1 q]
          by_cases e : q = p
          · subst e
            rw [if_pos ⟨rfl, rfl⟩]
            have hf : rbt (gA s 57) v q = false := by
              cases hc : rbt (gA s 57) v q with
              | false => rfl
              | true =>
                obtain ⟨⟨i, hi, hx⟩, -⟩ := (hbi q hqn).mp hc
                exact absurd hx (hnp i hi)
            rw [hf]
            exact ⟨fun _ => ⟨Or.inr rfl, hu⟩, fun _ => rfl⟩
          · rw [if_neg (fun z => e z.2), hbi q hqn]
            constructor
            · rintro ⟨a, b⟩; exact ⟨Or.inl a, b⟩
            · rintro ⟨a | a, b⟩
              · exact ⟨a, b⟩
              · exact absurd a e
        · rw [e57, tn_bit 57 s (by omega) hq', if_neg (fun z => hv' z.1)]
          exact hot v' hv' q hq'
      have fin : (∃ s', (if sp_a W p = sp_r W v then (gd_0 (F_M_turn_57 (nI v) (nI p) s) fun s28 => gd_qi (R_M_kind (nI p) s28) s28 fun r30 => gd_j (α := gS → gR) (fun (s34 : gS) => ag (nI j + 1) s34) fun J31 => if r30 = 7 then J31 s28 else gd_qi (R_M_result (nI p) s28) s28 fun r32 => if r32 = sp_r W v then J31 s28 else gd_0 (F_M_goOn (nI p) s28) fun s33 => J31 s33) else if sp_b W p = sp_r W v then (gd_0 (F_M_turn_57 (nI v) (nI p) s) fun s28 => gd_qi (R_M_kind (nI p) s28) s28 fun r30 => gd_j (α := gS → gR) (fun (s34 : gS) => ag (nI j + 1) s34) fun J31 => if r30 = 7 then J31 s28 else gd_qi (R_M_result (nI p) s28) s28 fun r32 => if r32 = sp_r W v then J31 s28 else gd_0 (F_M_goOn (nI p) s28) fun s33 => J31 s33) else (gd_qi (R_M_kind (nI p) s) s fun r30 => gd_j (α := gS → gR) (fun (s34 : gS) => ag (nI j + 1) s34) fun J31 => if r30 = 7 then J31 s else gd_qi (R_M_result (nI p) s) s fun r32 => if r32 = sp_r W v then J31 s else gd_0 (F_M_goOn (nI p) s) fun s33 => J31 s33)) = ag (nI (j + 1)) s' ∧ rq n s' (bf_n L (sn_X W n v p)) ∧ gd_fm W_M_findReach σ s' ∧ (∀ q, q < n → (rbt (gA s' 57) v q = true ↔ (∃ i, i < j + 1 ∧ (bf_n L (sn_X W n v p))[i]? = some q) ∧ sp_u W v q)) ∧ (∀ v', ¬ v' = v → ∀ q, q < 1040 → rbt (gA s' 57) v' q = rbt (gA σ 57) v' q)) := by
        by_cases ca : sp_a W p = sp_r W v
        · rw [if_pos ca]; exact use (Or.inl ca)
        · rw [if_neg ca]
          by_cases cb : sp_b W p = sp_r W v
          · rw [if_pos cb]; exact use (Or.inr cb)
          · rw [if_neg cb]
            obtain ⟨s', g1, g2, g3⟩ := fr_J (j := j) (s := s) w1 hok hn s1 hr hq hpn ag
            have e57 : gA s' 57 = gA s 57 := fm_A g3 rfl
            refine ⟨s', g1, g2, gd_fmT (gd_sbI rfl) fr g3, fun q hqn => ?_, fun v' hv' q hq' => ?_⟩
            · rw [e57, hbi q hqn, mem1 q]
              constructor
              · rintro ⟨a, b⟩; exact ⟨Or.inl a, b⟩
              · rintro ⟨a | a, b⟩
                · exact ⟨a, b⟩
                · subst a; exact absurd b (fun z => z.elim ca cb)
            · rw [e57]; exact hot v' hv' q hq'
      obtain ⟨s', k1, k2, k3, k4, k5⟩ := fin
      exact Or.inl ⟨nI (j + 1), s', n + 1 - (j + 1), by omega, ⟨j + 1, bf_n L (sn_X W n v p), hlen2, rfl, rfl, k2, k3, hbf, k4, k5⟩, k1⟩
  · rw [hb q hq]
    constructor
    · intro z; cases z
    · rintro ⟨⟨i, hi, _⟩, _⟩; exact absurd hi (Nat.not_lt_zero i)
theorem fr_all {W : Nat → Int32} {n v : Nat} {σ : gS} (hW : gA σ 42 = W) (hok : sp_ok W n) (hn : n ≤ 1040) (h2 : gI σ 41 2 = nI n) (hv : v < n) :
    ∃ s, F_M_findReach (nI v) σ = some (.inl none, s) ∧ (∀ q, q < n → (rbt (gA s 57) v q = true ↔ sp_c W n v q)) ∧ (∀ v', ¬ v' = v → ∀ q, q < 1040 → rbt (gA s 57) v' q = rbt (gA σ 57) v' q) := by
  have row : ∀ v' q, q < 1040 → rbt (mc_put (gA σ 57) (33 * v) 33 (fun _ => 0)) v' q = if v' = v then false else rbt (gA σ 57) v' q := by
    intro v' q hq
    unfold rbt
    rw [rr_pt (show q / 32 < 33 by omega)]
    by_cases e : v' = v
    · rw [if_pos e, if_pos e]
      exact (by decide : ∀ i, i < 32 → bb 0 i = false) _ (Nat.mod_lt _ (by omega))
    · rw [if_neg e, if_neg e]
  unfold F_M_findReach
  rw [gd_j1, fr_clr _ _ (by omega)]
  generalize hτ : gs_row σ 57 (mc_put (gA σ 57) (33 * v) 33 (fun _ => 0)) = τ
  have w1 : gA τ 42 = W := by rw [← hτ]; exact hW
  have s1 : gI τ 41 2 = nI n := by rw [← hτ]; exact h2
  have b1 : ∀ v' q, q < 1040 → rbt (gA τ 57) v' q = if v' = v then false else rbt (gA σ 57) v' q := by rw [← hτ]; exact row
  obtain ⟨d, hd, ed⟩ := sp_rl W v
  rw [br_result (by omega), w1, gd_qi1]
  by_cases hr : sp_r W v = 0
  · rw [if_pos hr, if_neg (show ¬ (0 : Int32) ≤ -1 by decide)]
    refine ⟨τ, rfl, fun q hq => ?_, fun v' hv' q hq => ?_⟩
    · rw [b1 v q (by omega), if_pos rfl]
      exact ⟨fun z => absurd z (by decide), fun z => absurd hr z.1⟩
    · rw [b1 v' q hq, if_neg hv']
  · rw [if_neg hr, if_pos (show 0 ≤ sp_r W v by rw [ed]; exact nI_pos' (by omega)), gd_j1, fr_sn _ _ _ _ hn s1, gd_s1]
    generalize hρ : gs_I (gs_row τ 63 (mc_put (gA τ 63) 0 n (fun _ => vp_nar .boolean 0))) 41 37 0 = ρ
    have w2 : gA ρ 42 = W := by rw [← hρ]; exact w1
    have s2 : gI ρ 41 2 = nI n := by rw [← hρ]; exact s1
    have b2 : gA ρ 57 = gA τ 57 := by rw [← hρ]; rfl
    have q0 : rq n ρ [] := by
      rw [← hρ]
      refine ⟨rfl, fun i x hx => by simp at hx, fun p hp => ?_, List.nodup_nil, fun x hx => by cases hx⟩
      rw [if_neg (by simp)]
      show mc_put (gA τ 63) 0 n (fun _ => vp_nar .boolean 0) p = 0
      unfold mc_put
      rw [if_pos (by omega)]
      rfl
    obtain ⟨s3, g1, g2⟩ := rq_goOn w2 hok hn s2 q0 hv
    have fr := K_M_goOn _ _ _ g1
    have b3 : gA s3 57 = gA τ 57 := (fm_A fr rfl).trans b2
    rw [g1, gd_01]
    obtain ⟨s4, l1, l2, l3⟩ := fr_loop (W := W) (σ := s3) ((fm_A fr rfl).trans w2) hok hn ((fm_I fr rfl).trans s2) hv hr g2 (fun q hq => by rw [b3, b1 v q (by omega), if_pos rfl])
    refine ⟨s4, l1, fun q hq => ?_, fun v' hv' q hq => ?_⟩
    · rw [l2 q hq]
      show q ∈ sn_L W n v ∧ sp_u W v q ↔ sp_c W n v q
      rw [sn_m hok hn hv]
      exact ⟨fun z => ⟨hr, z.1, z.2⟩, fun z => ⟨z.2.1, z.2.2⟩⟩
    · rw [l3 v' hv' q hq, b3, b1 v' q hq, if_neg hv']
