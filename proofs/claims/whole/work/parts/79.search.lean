theorem d2 (u : Nat) : (2 : Int32) * nI u = nI (2 * u) := by rw [show (2 : Int32) = nI 2 from rfl, pk_mul]
theorem d2v {d : Nat} (h : d ≤ 100000) : nI d / (2 : Int32) = nI (d / 2) := pk_div (d := 2) (by omega) (by omega) (by omega)
theorem d2m {d : Nat} (h : d ≤ 100000) : nI d - nI d / (2 : Int32) * (2 : Int32) = nI (d % 2) := pk_rem (d := 2) (by omega) (by omega) (by omega)
def sq (W : Nat → Int32) (n : Nat) (b : fl_F) (σ : gS) (L : List Nat) (f : Nat → Nat) : Prop := qq 41 37 62 σ L ∧ (∀ d, d < 2 * n → gA σ 61 d = if d ∈ L then nI (f d) else -1) ∧ L.Nodup ∧ (∀ d ∈ L, d < 2 * n ∧ sp_T W n (d / 2) ∧ f d < 2 * n) ∧ (∀ (i d : Nat), L[i]? = some d → (∃ s, d = 2 * s ∧ sp_S W n s ∧ f d = d) ∨ ∃ j : Nat, j < i ∧ L[j]? = some (f d) ∧ mv (sp_E W n) b (f d) d)
theorem sq_len {W : Nat → Int32} {n : Nat} {b : fl_F} {σ : gS} {L : List Nat} {f : Nat → Nat} (h : sq W n b σ L f) : L.length ≤ 2 * n := bf_len h.2.2.1 (fun x hx => (h.2.2.2.1 x hx).1)
theorem sq_find {W : Nat → Int32} {n d y : Nat} {b : fl_F} {σ : gS} {L : List Nat} {f : Nat → Nat} (hn : n ≤ 1040) (h : sq W n b σ L f) (hd : d < 2 * n) (hT : sp_T W n (d / 2)) (hy : y < 2 * n) (hc : (∃ s, d = 2 * s ∧ sp_S W n s ∧ y = d) ∨ (y ∈ L ∧ mv (sp_E W n) b y d)) :
    ∃ s L' f', F_M_find (nI d) (nI y) σ = some (.inl none, s) ∧ sq W n b s L' f' ∧ L <+: L' ∧ ∀ x, x ∈ L' ↔ x ∈ L ∨ x = d := by
  have hl := sq_len h
  unfold F_M_find
  simp only [gd_gI (gi_in (show d < 2080 by omega) (by omega : 2080 ≤ 100000)), gi_cl (show d ≤ 100000 by omega)]
  rw [h.2.1 d hd]
  by_cases c : d ∈ L
  · have hf := (h.2.2.2.1 d c).2.2
    rw [if_pos c, if_neg (gi_m1 (by omega))]
    exact ⟨σ, L, f, rfl, h, List.prefix_refl _, fun x => ⟨Or.inl, fun z => z.elim id (fun y => y ▸ c)⟩⟩
  · have hnd := qq_nd h.2.2.1 c
    have hl2 : L.length + 1 ≤ 2 * n := by
      have := bf_len hnd (fun x hx => (qq_m.mp hx).elim (fun z => (h.2.2.2.1 x z).1) (fun z => (by omega : x < 2 * n)))
      rwa [List.length_append, List.length_singleton] at this
    rw [if_neg c, if_pos rfl]
    simp only [gd_s1, gI_A, h.1.1, gd_gI (gi_in (show L.length < 2081 by omega) (by omega : 2081 ≤ 100000)), gi_cl (show L.length ≤ 100000 by omega)]
    refine ⟨_, L ++ [d], fun x => if x = d then y else f x, rfl, ⟨qq_push h.1 rfl (fun i => rfl), fun x hx => ?_, hnd, fun x hx => ?_, fun i x hx => ?_⟩, List.prefix_append L [d], fun x => qq_m⟩
    · show (if x = d then nI y else gA σ 61 x) = if x ∈ L ++ [d] then nI (if x = d then y else f x) else -1
      by_cases e : x = d
      · rw [if_pos e, if_pos (qq_m.mpr (Or.inr e)), if_pos e]
      · rw [if_neg e, if_neg e, h.2.1 x hx]
        by_cases z : x ∈ L
        · rw [if_pos z, if_pos (qq_m.mpr (Or.inl z))]
        · rw [if_neg z, if_neg (fun q => (qq_m.mp q).elim z e)]
    · by_cases e : x = d
      · subst e
        refine ⟨hd, hT, ?_⟩
        show (if x = x then y else f x) < _
        rw [if_pos rfl]; exact hy
      · have := h.2.2.2.1 x ((qq_m.mp hx).resolve_right e)
        refine ⟨this.1, this.2.1, ?_⟩
        show (if x = d then y else f x) < _
        rw [if_neg e]; exact this.2.2
    · show (∃ s, x = 2 * s ∧ sp_S W n s ∧ (if x = d then y else f x) = x) ∨ ∃ j, j < i ∧ (L ++ [d])[j]? = some (if x = d then y else f x) ∧ mv (sp_E W n) b (if x = d then y else f x) x
      by_cases hi : i < L.length
      · rw [List.getElem?_append_left hi] at hx
        have e : x ≠ d := fun z => c (z ▸ List.mem_of_getElem? hx)
        rw [if_neg e]
        rcases h.2.2.2.2 i x hx with z | ⟨j, hj, z1, z2⟩
        · exact Or.inl z
        · exact Or.inr ⟨j, hj, by rw [List.getElem?_append_left (by omega)]; exact z1, z2⟩
      · rw [List.getElem?_append_right (by omega)] at hx
        have hi2 : i = L.length := by
          have := (List.getElem?_eq_some_iff.mp hx).1
          simp at this
          omega
        subst hi2
        have e : d = x := by simpa using hx
        rw [if_pos e.symm, ← e]
        rcases hc with ⟨s, z1, z2, z3⟩ | ⟨z1, z2⟩
        · exact Or.inl ⟨s, z1, z2, z3⟩
        · obtain ⟨j, hj⟩ := List.mem_iff_getElem?.mp z1
          have hjl := (List.getElem?_eq_some_iff.mp hj).1
          exact Or.inr ⟨j, hjl, by rw [List.getElem?_append_left hjl]; exact hj, z2⟩
theorem sp_Tr {W : Nat → Int32} {n u : Nat} (h : sp_T W n u) : ¬ sp_r W u = 0 := h (fun u => ¬ sp_r W u = 0) (fun p _ _ _ hr => hr) (fun v u _ _ _ hr => hr)
theorem sp_ET {W : Nat → Int32} {n v u : Nat} (h : sp_E W n v u) : sp_T W n u := fun P h1 h2 => h2 v u (h.1 P h1 h2) h.2.1 h.2.2.1 h.2.2.2
theorem sp_El {W : Nat → Int32} {n v u : Nat} (h : sp_E W n v u) : u < n := sp_Tl (sp_ET h)
def rb (W : Nat → Int32) (n : Nat) (σ : gS) (b : fl_F) (Z : List Nat) : Prop := (∀ v, v < n → gA σ 59 v = sp_o (b v ≠ none)) ∧ (∀ u, u < n → ∀ v, v < n → (rbt (gA σ 58) u v = true ↔ b v = some (some u))) ∧ (∀ v, v < n → gA σ 60 v = sp_o (v ∈ Z)) ∧ (∀ v, v ∈ Z → v < n ∧ b v ≠ none ∧ ∀ w, b w ≠ some (some v)) ∧ Z.Nodup ∧ fl_ok n (sp_E W n) (sp_S W n) (sp_e W n) b ∧ (∀ v, b v ≠ some (some v))
def rk (W : Nat → Int32) (n : Nat) (σ : gS) : Prop := gA σ 42 = W ∧ sp_ok W n ∧ n ≤ 1040 ∧ gI σ 41 2 = nI n ∧ (∀ v, v < n → ∀ q, q < n → (rbt (gA σ 57) v q = true ↔ sp_c W n v q)) ∧ (∀ v, v < n → gA σ 53 v = nI (sp_i (sp_T W n v))) ∧ (∀ v, v < n → gA σ 55 v = sp_o (sp_e W n v))
theorem rk_fm {W : Nat → Int32} {n : Nat} {V : gW} {σ s : gS} (h : rk W n σ) (f : gd_fm V σ s) (hd : fm_dis V [(41, 2)] [42, 57, 53, 55] [] = true) : rk W n s := by
  have g := fm_sm f hd
  unfold rk at h ⊢
  rw [sm_I g (p := 41) (k := 2) rfl, sm_A g (p := 42) rfl, sm_A g (p := 57) rfl, sm_A g (p := 53) rfl, sm_A g (p := 55) rfl]
  exact h
theorem rb_fm {W : Nat → Int32} {n : Nat} {V : gW} {σ s : gS} {b : fl_F} {Z : List Nat} (h : rb W n σ b Z) (f : gd_fm V σ s) (hd : fm_dis V [] [58, 59, 60] [] = true) : rb W n s b Z := by
  have g := fm_sm f hd
  unfold rb at h ⊢
  rw [sm_A g (p := 58) rfl, sm_A g (p := 59) rfl, sm_A g (p := 60) rfl]
  exact h
theorem rs_x2 {W : Nat → Int32} {n v : Nat} {b : fl_F} {Z : List Nat} {σ : gS} {L0 : List Nat} {f0 : Nat → Nat} (κ : gS → gR) (hk : rk W n σ) (hb : rb W n σ b Z) (hv : v < n) (hT : sp_T W n v) (h : sq W n b σ L0 f0) (hL : 2 * v + 1 ∈ L0) :
    ∃ s L f, gd_lp (fun _ _ => none) (B_M_findFromExit_2 κ (nI v)) gd_N 0 σ = κ s ∧ sq W n b s L f ∧ L0 <+: L ∧ (∀ u, sp_E W n v u → ¬ b u = some (some v) → 2 * u ∈ L) ∧ gd_fm W_M_find σ s := by
  refine gd_it2 (I := fun m i s => ∃ j L f, j ≤ n ∧ m = n - j ∧ i = nI j ∧ sq W n b s L f ∧ L0 <+: L ∧ (∀ u, u < j → sp_E W n v u → ¬ b u = some (some v) → 2 * u ∈ L) ∧ gd_fm W_M_find σ s) (E := fun (r : gR) => ∃ s L f, r = κ s ∧ sq W n b s L f ∧ L0 <+: L ∧ (∀ u, sp_E W n v u → ¬ b u = some (some v) → 2 * u ∈ L) ∧ gd_fm W_M_find σ s) ?_ gd_N n 0 σ ⟨0, L0, f0, by omega, rfl, rfl, h, List.prefix_refl _, fun u hu => absurd hu (Nat.not_lt_zero u), gd_fm0 _ _⟩ (gd_Nlt (by have := hk.2.2.1; omega))
  rintro m i s ag ⟨j, L, f, hj, rfl, rfl, hq, hpre, hm, fr⟩
  obtain ⟨w1, hok, hn, s1, h57, h53, h55⟩ := rk_fm hk fr rfl
  obtain ⟨b59, b58, b60, bZ, bN, bo, bs⟩ := rb_fm hb fr rfl
  unfold B_M_findFromExit_2
  rw [s1]
  by_cases hjn : j = n
  · subst hjn
    rw [if_pos ((gi_le (by omega) (by omega)).mpr (Nat.le_refl _))]
    exact Or.inr ⟨s, L, f, rfl, hq, hpre, fun u hu => hm u (sp_El hu) hu, fr⟩
  · rw [if_neg (fun z => by have := (gi_le (by omega) (by omega)).mp z; omega), br_kindN (by omega), hs_57 (by omega) (by omega), hs_58 (by omega) (by omega), gd_j1, w1]
    simp only [gd_gI (gi_in (show j < 1040 by omega) (by omega : 1040 ≤ 100000)), gi_cl (show j ≤ 100000 by omega), gd_qi1, h53 j (by omega), d2, nI_1]
    refine Or.inl ?_
    have skip : (sp_E W n v j → ¬ b j = some (some v) → False) → ∃ a' b' m', m' < n - j ∧ (∃ j L f, j ≤ n ∧ m' = n - j ∧ a' = nI j ∧ sq W n b b' L f ∧ L0 <+: L ∧ (∀ u, u < j → sp_E W n v u → ¬ b u = some (some v) → 2 * u ∈ L) ∧ gd_fm W_M_find σ b') ∧ ag (nI (j + 1)) s = ag a' b' := by
      intro hc
      refine ⟨nI (j + 1), s, n - (j + 1), by omega, ⟨j + 1, L, f, by omega, rfl, rfl, hq, hpre, fun u hu he hne => ?_, fr⟩, rfl⟩
      by_cases e : u = j
      · subst e; exact (hc he hne).elim
      · exact hm u (by omega) he hne
    by_cases c1 : sp_T W n j
    · rw [sp_it c1, if_neg (show ¬ nI 1 = 0 by decide)]
      by_cases c2 : sp_k W j = 0 ∨ sp_k W j = 1
      · rw [if_neg (fun z => (sp_k2 (sp_okk hok (by omega))).mp z c2)]
        by_cases c3 : sp_c W n v j
        · rw [if_pos ((h57 v hv j (by omega)).mpr c3), if_neg (show ¬ (1 : Int32) = 0 by decide)]
          by_cases c4 : b j = some (some v)
          · rw [if_pos ((b58 v hv j (by omega)).mpr c4), if_neg (show ¬ (1 : Int32) = 0 by decide)]
            exact skip (fun _ z => z c4)
          · rw [if_neg (fun z => c4 ((b58 v hv j (by omega)).mp z)), if_pos (rfl : (0 : Int32) = 0)]
            have hE : sp_E W n v j := ⟨hT, c3, c2, sp_Tr c1⟩
            obtain ⟨s', L', f', k1, k2, k3, k4⟩ := sq_find (d := 2 * j) (y := 2 * v + 1) hn hq (by omega) (by rw [show 2 * j / 2 = j by omega]; exact c1) (by omega) (Or.inr ⟨hpre.subset hL, Or.inr (Or.inr (Or.inr ⟨v, j, rfl, rfl, hE⟩))⟩)
            rw [k1, gd_01]
            refine ⟨nI (j + 1), s', n - (j + 1), by omega, ⟨j + 1, L', f', by omega, rfl, rfl, k2, List.IsPrefix.trans hpre k3, fun u hu he hne => ?_, gd_fmT (gd_sbI rfl) fr (K_M_find _ _ _ _ k1)⟩, rfl⟩
            by_cases e : u = j
            · subst e; exact (k4 _).mpr (Or.inr rfl)
            · exact (k4 _).mpr (Or.inl (hm u (by omega) he hne))
        · rw [if_neg (fun z => c3 ((h57 v hv j (by omega)).mp z)), if_pos (rfl : (0 : Int32) = 0)]
          exact skip (fun z _ => c3 z.2.1)
      · rw [if_pos ((sp_k2 (sp_okk hok (by omega))).mpr c2)]
        exact skip (fun z _ => c2 z.2.2.1)
    · rw [sp_if c1, if_pos (show nI 0 = 0 from rfl)]
      exact skip (fun z _ => c1 (sp_ET z))
theorem sq_fl {W : Nat → Int32} {n v u : Nat} {b : fl_F} {σ : gS} {L : List Nat} {f : Nat → Nat} (ok : fl_ok n (sp_E W n) (sp_S W n) (sp_e W n) b) (h : sq W n b σ L f) (hv : 2 * v + 1 ∈ L) : b v = none ∨ ∃ w, b w = some (some v) ∧ 2 * w ∈ L := by
  obtain ⟨i, hi⟩ := List.mem_iff_getElem?.mp hv
  rcases h.2.2.2.2 i _ hi with ⟨s, z, _⟩ | ⟨j, hj, z1, z2⟩
  · omega
  · rcases mv_o z2 with ⟨_, z⟩ | ⟨w, z, y⟩
    · exact Or.inl z
    · exact Or.inr ⟨w, y, z ▸ List.mem_of_getElem? z1⟩
theorem rs_x {W : Nat → Int32} {n v : Nat} {b : fl_F} {Z : List Nat} {σ : gS} {L0 : List Nat} {f0 : Nat → Nat} (hk : rk W n σ) (hb : rb W n σ b Z) (hv : v < n) (hT : sp_T W n v) (h : sq W n b σ L0 f0) (hL : 2 * v + 1 ∈ L0) :
    ∃ s L f, F_M_findFromExit (nI v) σ = some (.inl none, s) ∧ sq W n b s L f ∧ L0 <+: L ∧ ∀ z, mv (sp_E W n) b (2 * v + 1) z → z ∈ L := by
  unfold F_M_findFromExit
  rw [gd_j1]
  obtain ⟨s, L, f, g1, g2, g3, g4, g5⟩ := rs_x2 (fun (s12 : gS) => gd_g (gd_in (nI v) 1040) <| if (gA s12 59 (nI v).toNatClampNeg) = 0 then some (.inl none, s12) else gd_0 (F_M_find ((2 : Int32) * (nI v)) (((2 : Int32) * (nI v)) + (1 : Int32)) s12) fun s13 => some (.inl none, s13)) hk hb hv hT h hL
  rw [g1]
  obtain ⟨w1, hok, hn, s1, h57, h53, h55⟩ := rk_fm hk g5 rfl
  obtain ⟨b59, b58, b60, bZ, bN, bo, bs⟩ := rb_fm hb g5 rfl
  have hL2 := g3.subset hL
  have cl : ∀ u, sp_E W n v u → 2 * u ∈ L := by
    intro u he
    by_cases c : b u = some (some v)
    · rcases sq_fl (u := u) bo g2 hL2 with z | ⟨w, z, y⟩
      · exact absurd z (bo.2.1 v u c).2.2
      · exact bo.2.2.1 v w u z c ▸ y
    · exact g4 u he c
  simp only [gd_gI (gi_in (show v < 1040 by omega) (by omega : 1040 ≤ 100000)), gi_cl (show v ≤ 100000 by omega), d2, nI_1, b59 v hv]
  by_cases c : b v = none
  · rw [if_pos (sp_o0.mpr (fun z => z c))]
    refine ⟨s, L, f, rfl, g2, g3, fun z hz => ?_⟩
    rcases mv_fo hz with ⟨_, y⟩ | ⟨u, y, he⟩
    · exact absurd c y
    · rw [y]; exact cl u he
  · rw [if_neg (fun z => sp_o0.mp z c)]
    obtain ⟨s', L', f', k1, k2, k3, k4⟩ := sq_find (d := 2 * v) (y := 2 * v + 1) hn g2 (by omega) (by rw [show 2 * v / 2 = v by omega]; exact hT) (by omega) (Or.inr ⟨hL2, Or.inr (Or.inr (Or.inl ⟨v, rfl, rfl, c⟩))⟩)
    rw [k1, gd_01]
    refine ⟨s', L', f', rfl, k2, List.IsPrefix.trans g3 k3, fun z hz => ?_⟩
    rcases mv_fo hz with ⟨y, _⟩ | ⟨u, y, he⟩
    · exact (k4 _).mpr (Or.inr y)
    · rw [y]; exact (k4 _).mpr (Or.inl (cl u he))
theorem rs_e23 {W : Nat → Int32} {n v : Nat} {b : fl_F} {Z : List Nat} {σ : gS} {L0 : List Nat} {f0 : Nat → Nat} (hk : rk W n σ) (hb : rb W n σ b Z) (hv : v < n) (h : sq W n b σ L0 f0) (hL : 2 * v ∈ L0) :
    ∃ s L f, gd_lp (fun _ _ => none) (B_M_findFromEntry_23 (nI v)) gd_N 0 σ = some (.inl none, s) ∧ sq W n b s L f ∧ L0 <+: L ∧ (∀ u, b v = some (some u) → 2 * u + 1 ∈ L) := by
  refine gd_it2 (I := fun m i s => ∃ j L f, j ≤ n ∧ m = n - j ∧ i = nI j ∧ sq W n b s L f ∧ L0 <+: L ∧ (∀ u, u < j → b v = some (some u) → 2 * u + 1 ∈ L) ∧ gd_fm W_M_find σ s) (E := fun (r : gR) => ∃ s L f, r = some (.inl none, s) ∧ sq W n b s L f ∧ L0 <+: L ∧ (∀ u, b v = some (some u) → 2 * u + 1 ∈ L)) ?_ gd_N n 0 σ ⟨0, L0, f0, by omega, rfl, rfl, h, List.prefix_refl _, fun u hu => absurd hu (Nat.not_lt_zero u), gd_fm0 _ _⟩ (gd_Nlt (by have := hk.2.2.1; omega))
  rintro m i s ag ⟨j, L, f, hj, rfl, rfl, hq, hpre, hm, fr⟩
  obtain ⟨w1, hok, hn, s1, h57, h53, h55⟩ := rk_fm hk fr rfl
  obtain ⟨b59, b58, b60, bZ, bN, bo, bs⟩ := rb_fm hb fr rfl
  unfold B_M_findFromEntry_23
  rw [s1]
  by_cases hjn : j = n
  · subst hjn
    rw [if_pos ((gi_le (by omega) (by omega)).mpr (Nat.le_refl _))]
    exact Or.inr ⟨s, L, f, rfl, hq, hpre, fun u hu => hm u (sp_Tl (bo.2.1 u v hu).2.1.1) hu⟩
  · rw [if_neg (fun z => by have := (gi_le (by omega) (by omega)).mp z; omega), hs_58 (by omega) (by omega), gd_j1]
    simp only [gd_gI (gi_in (show j < 1040 by omega) (by omega : 1040 ≤ 100000)), gi_cl (show j ≤ 100000 by omega), gd_qi1, h53 j (by omega), d2, nI_1]
    refine Or.inl ?_
    have skip : ¬ b v = some (some j) → ∃ a' b' m', m' < n - j ∧ (∃ j L f, j ≤ n ∧ m' = n - j ∧ a' = nI j ∧ sq W n b b' L f ∧ L0 <+: L ∧ (∀ u, u < j → b v = some (some u) → 2 * u + 1 ∈ L) ∧ gd_fm W_M_find σ b') ∧ ag (nI (j + 1)) s = ag a' b' := by
      intro hc
      refine ⟨nI (j + 1), s, n - (j + 1), by omega, ⟨j + 1, L, f, by omega, rfl, rfl, hq, hpre, fun u hu he => ?_, fr⟩, rfl⟩
      by_cases e : u = j
      · subst e; exact (hc he).elim
      · exact hm u (by omega) he
    by_cases c1 : sp_T W n j
    · rw [sp_it c1, if_neg (show ¬ nI 1 = 0 by decide)]
      by_cases c4 : b v = some (some j)
      · rw [if_pos ((b58 j (by omega) v hv).mpr c4), if_neg (show ¬ (1 : Int32) = 0 by decide)]
        obtain ⟨s', L', f', k1, k2, k3, k4⟩ := sq_find (d := 2 * j + 1) (y := 2 * v) hn hq (by omega) (by rw [show (2 * j + 1) / 2 = j by omega]; exact c1) (by omega) (Or.inr ⟨hpre.subset hL, Or.inr (Or.inl ⟨j, v, rfl, rfl, c4⟩)⟩)
        rw [k1, gd_01]
        refine ⟨nI (j + 1), s', n - (j + 1), by omega, ⟨j + 1, L', f', by omega, rfl, rfl, k2, List.IsPrefix.trans hpre k3, fun u hu he => ?_, gd_fmT (gd_sbI rfl) fr (K_M_find _ _ _ _ k1)⟩, rfl⟩
        by_cases e : u = j
        · subst e; exact (k4 _).mpr (Or.inr rfl)
        · exact (k4 _).mpr (Or.inl (hm u (by omega) he))
      · rw [if_neg (fun z => c4 ((b58 j (by omega) v hv).mp z)), if_pos (rfl : (0 : Int32) = 0)]
        exact skip c4
    · rw [sp_if c1, if_pos (show nI 0 = 0 from rfl)]
      exact skip (fun z => c1 (bo.2.1 j v z).2.1.1)
theorem rs_e {W : Nat → Int32} {n v : Nat} {b : fl_F} {Z : List Nat} {σ : gS} {L0 : List Nat} {f0 : Nat → Nat} (hk : rk W n σ) (hb : rb W n σ b Z) (hv : v < n) (hT : sp_T W n v) (h : sq W n b σ L0 f0) (hL : 2 * v ∈ L0) :
    ∃ s L f, F_M_findFromEntry (nI v) σ = some (.inl none, s) ∧ sq W n b s L f ∧ L0 <+: L ∧ ∀ z, mv (sp_E W n) b (2 * v) z → z ∈ L := by
  unfold F_M_findFromEntry
  have hn := hk.2.2.1
  rw [gd_j1]
  simp only [gd_gI (gi_in (show v < 1040 by omega) (by omega : 1040 ≤ 100000)), gi_cl (show v ≤ 100000 by omega), d2, nI_1, hb.1 v hv]
  by_cases c : b v = none
  · rw [if_pos (sp_o0.mpr (fun z => z c))]
    obtain ⟨s', L', f', k1, k2, k3, k4⟩ := sq_find (d := 2 * v + 1) (y := 2 * v) hn h (by omega) (by rw [show (2 * v + 1) / 2 = v by omega]; exact hT) (by omega) (Or.inr ⟨hL, Or.inl ⟨v, rfl, rfl, c⟩⟩)
    have fr := K_M_find _ _ _ _ k1
    obtain ⟨s, L, f, g1, g2, g3, g4⟩ := rs_e23 (rk_fm hk fr rfl) (rb_fm hb fr rfl) hv k2 (k3.subset hL)
    rw [k1, gd_01, g1]
    refine ⟨s, L, f, rfl, g2, List.IsPrefix.trans k3 g3, fun z hz => ?_⟩
    rcases mv_fi hz with ⟨y, _⟩ | ⟨u, y, he⟩
    · rw [y]; exact g3.subset ((k4 _).mpr (Or.inr rfl))
    · rw [y]; exact g4 u he
  · rw [if_neg (fun z => sp_o0.mp z c)]
    obtain ⟨s, L, f, g1, g2, g3, g4⟩ := rs_e23 hk hb hv h hL
    rw [g1]
    refine ⟨s, L, f, rfl, g2, g3, fun z hz => ?_⟩
    rcases mv_fi hz with ⟨_, y⟩ | ⟨u, y, he⟩
    · exact absurd y c
    · rw [y]; exact g4 u he
