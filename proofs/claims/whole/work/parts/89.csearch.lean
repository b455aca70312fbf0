theorem l1s {p : Nat} (h : p ≤ 100000) : nI p >>> ((1 : Int32) &&& 31) = nI (p / 2) := by
  refine Int32.toInt_inj.mp ?_
  rw [bi_shr (m := 1) (by decide), nI_toInt (by omega), nI_toInt (by omega)]
  omega
theorem l7 {p : Nat} (h : p ≤ 100000) : nI p >>> ((7 : Int32) &&& 31) = nI (p / 128) := by
  refine Int32.toInt_inj.mp ?_
  rw [bi_shr (m := 7) (by decide), nI_toInt (by omega), nI_toInt (by omega)]
  omega
theorem la1 {p : Nat} (h : p ≤ 100000) : nI p &&& (1 : Int32) = nI (p % 2) := pk_andN (by omega) 1 (by decide)
theorem gi_m2 {p : Nat} (h : p ≤ 100000) : ¬ nI p = -2 := fun z => by
  have h2 := congrArg Int32.toInt z
  rw [nI_toInt (by omega), show (-2 : Int32).toInt = -2 by decide] at h2
  omega
theorem sp_Tk {W : Nat → Int32} {n u : Nat} (h : sp_T W n u) : sp_k W u = 3 ∨ sp_k W u = 0 ∨ sp_k W u = 1 := h (fun u => sp_k W u = 3 ∨ sp_k W u = 0 ∨ sp_k W u = 1) (fun p _ h3 _ _ => Or.inl h3) (fun v u _ _ hk _ => Or.inr hk)
def pb : Option (Option Nat) → Int32
  | none => -1
  | some none => -2
  | some (some u) => nI u
def kq (W : Nat → Int32) (n : Nat) (b : fl_F) (Z : Nat → Prop) (s0 : Nat) (σ : gS) (L : List Nat) (f : Nat → Nat) : Prop :=
  qq 33 7 36 σ L ∧ (∀ d, d < 2 * n → (gA σ 35 d = -1 ↔ ¬ Z d ∧ d ∉ L)) ∧ (∀ d ∈ L, d ≠ 2 * s0 → gA σ 35 d = nI (f d)) ∧ L.Nodup ∧ (∀ d ∈ L, d < 2 * n ∧ sp_T W n (d / 2) ∧ ¬ Z d) ∧ (∀ (i d : Nat), L[i]? = some d → d = 2 * s0 ∨ ∃ j : Nat, j < i ∧ L[j]? = some (f d) ∧ mv (sp_E W n) b (f d) d) ∧ (∀ q, q < 1088 → (lb (gL σ 37) q = true ↔ q < n ∧ sp_T W n q ∧ ¬ sp_k W q = 3 ∧ ¬ Z (2 * q) ∧ 2 * q ∉ L))
theorem kq_len {W : Nat → Int32} {n s0 : Nat} {b : fl_F} {Z : Nat → Prop} {σ : gS} {L : List Nat} {f : Nat → Nat} (h : kq W n b Z s0 σ L f) : L.length ≤ 2 * n := bf_len h.2.2.2.1 (fun x hx => (h.2.2.2.2.1 x hx).1)
theorem kq_push {W : Nat → Int32} {n s0 d y : Nat} {b : fl_F} {Z : Nat → Prop} {σ s : gS} {L : List Nat} {f : Nat → Nat} {c : Int32} (h : kq W n b Z s0 σ L f) (hd : d < 2 * n) (hT : sp_T W n (d / 2)) (hZ : ¬ Z d) (hL : d ∉ L) (hc1 : c ≠ -1) (hc : d = 2 * s0 ∨ (c = nI y ∧ y ∈ L ∧ mv (sp_E W n) b y d)) (q1 : qq 33 7 36 s (L ++ [d])) (q2 : ∀ x, gA s 35 x = if x = d then c else gA σ 35 x) (q3 : ∀ q, q < 1088 → (lb (gL s 37) q = true ↔ lb (gL σ 37) q = true ∧ 2 * q ≠ d)) :
    kq W n b Z s0 s (L ++ [d]) (fun x => if x = d then y else f x) := by
  obtain ⟨h1, h2, h3, h4, h5, h6, h7⟩ := h
  refine ⟨q1, fun x hx => ?_, fun x hx hs => ?_, qq_nd h4 hL, fun x hx => ?_, fun i x hx => ?_, fun q hq => ?_⟩
  · rw [q2]
    by_cases e : x = d
    · rw [if_pos e]
      exact ⟨fun z => absurd z hc1, fun z => absurd (qq_m.mpr (Or.inr e)) z.2⟩
    · rw [if_neg e, h2 x hx, qq_m]
      exact ⟨fun z => ⟨z.1, fun y => y.elim z.2 e⟩, fun z => ⟨z.1, fun y => z.2 (Or.inl y)⟩⟩
  · rw [q2]
    show (if x = d then c else gA σ 35 x) = nI (if x = d then y else f x)
    by_cases e : x = d
    · rw [if_pos e, if_pos e]
      rcases hc with z | z
      · exact absurd (e.trans z) hs
      · exact z.1
    · rw [if_neg e, if_neg e]
      exact h3 x ((qq_m.mp hx).resolve_right e) hs
  · rcases qq_m.mp hx with z | z
    · exact h5 x z
    · rw [z]; exact ⟨hd, hT, hZ⟩
  · show x = 2 * s0 ∨ ∃ j, j < i ∧ (L ++ [d])[j]? = some (if x = d then y else f x) ∧ mv (sp_E W n) b (if x = d then y else f x) x
    by_cases hi : i < L.length
    · rw [List.getElem?_append_left hi] at hx
      have e : x ≠ d := fun z => hL (z ▸ List.mem_of_getElem? hx)
      rw [if_neg e]
      rcases h6 i x hx with z | ⟨j, hj, z1, z2⟩
      · exact Or.inl z
      · exact Or.inr ⟨j, hj, by rw [List.getElem?_append_left (by omega)]; exact z1, z2⟩
    · rw [List.getElem?_append_right (by omega)] at hx
      have hi2 : i = L.length := by
        have := (List.getElem?_eq_some_iff.mp hx).1
        simp at this
        omega
      subst hi2
      have e : d = x := by simpa using hx
      rw [if_pos e.symm, ← e]
      rcases hc with z | ⟨_, z1, z2⟩
      · exact Or.inl z
      · obtain ⟨j, hj⟩ := List.mem_iff_getElem?.mp z1
        have hjl := (List.getElem?_eq_some_iff.mp hj).1
        exact Or.inr ⟨j, hjl, by rw [List.getElem?_append_left hjl]; exact hj, z2⟩
  · rw [q3 q hq, h7 q hq, qq_m]
    constructor
    · rintro ⟨⟨a1, a2, a3, a4, a5⟩, a6⟩
      exact ⟨a1, a2, a3, a4, fun z => z.elim a5 a6⟩
    · rintro ⟨a1, a2, a3, a4, a5⟩
      exact ⟨⟨a1, a2, a3, a4, fun z => a5 (Or.inl z)⟩, fun z => a5 (Or.inr z)⟩
theorem kq_see {W : Nat → Int32} {n s0 d y : Nat} {b : fl_F} {Z : Nat → Prop} {σ : gS} {L : List Nat} {f : Nat → Nat} {c : Int32} (hn : n ≤ 1040) (h : kq W n b Z s0 σ L f) (hd : d < 2 * n) (hT : sp_T W n (d / 2)) (hc1 : c ≠ -1) (hc : d = 2 * s0 ∨ (c = nI y ∧ y ∈ L ∧ mv (sp_E W n) b y d)) :
    ∃ s L' f', F_Cut_see (nI d) c σ = some (.inl none, s) ∧ kq W n b Z s0 s L' f' ∧ L <+: L' ∧ (Z d ∨ d ∈ L') := by
  have hl := kq_len h
  unfold F_Cut_see
  simp only [gd_gI (gi_in (show d < 2080 by omega) (by omega : 2080 ≤ 100000)), gi_cl (show d ≤ 100000 by omega)]
  by_cases c0 : ¬ Z d ∧ d ∉ L
  · obtain ⟨hZ, hL⟩ := c0
    have hl2 : L.length + 1 ≤ 2 * n := by
      have := bf_len (qq_nd h.2.2.2.1 hL) (fun x hx => (qq_m.mp hx).elim (fun z => (h.2.2.2.2.1 x z).1) (fun z => (by omega : x < 2 * n)))
      rwa [List.length_append, List.length_singleton] at this
    rw [if_pos ((h.2.1 d hd).mpr ⟨hZ, hL⟩)]
    simp only [gd_s1, gI_A, h.1.1, gd_gI (gi_in (show L.length < 2080 by omega) (by omega : 2080 ≤ 100000)), gi_cl (show L.length ≤ 100000 by omega), la1 (show d ≤ 100000 by omega), l7 (show d ≤ 100000 by omega), l1s (show d ≤ 100000 by omega), l63 (show d / 2 ≤ 100000 by omega), gd_gI (gi_in (show d / 128 < 17 by omega) (by omega : 17 ≤ 100000)), gi_cl (show d / 128 ≤ 100000 by omega)]
    by_cases e : d % 2 = 0
    · rw [if_pos (by rw [e]; rfl)]
      refine ⟨_, L ++ [d], _, rfl, kq_push (y := y) h hd hT hZ hL hc1 hc (qq_push h.1 rfl (fun i => rfl)) (fun x => rfl) (fun q hq => ?_), List.prefix_append L [d], Or.inr (qq_m.mpr (Or.inr rfl))⟩
      show lb (fun i => if i = d / 128 then gL σ 37 (d / 128) &&& (((1 : Int64) <<< (Int32.toInt64 (nI (d / 2 % 64)) &&& 63)) ^^^ (-1 : Int64)) else gL σ 37 i) q = true ↔ _
      have e1 : d / 128 = d / 2 / 64 := by omega
      rw [e1, l1_cl (f := gL σ 37) (p := d / 2) (by omega) hq]
      by_cases e2 : q = d / 2
      · rw [if_pos e2]
        exact ⟨fun z => (by cases z), fun z => absurd (by omega) z.2⟩
      · rw [if_neg e2]
        exact ⟨fun z => ⟨z, by omega⟩, fun z => z.1⟩
    · rw [if_neg (by rw [show d % 2 = 1 by omega]; decide)]
      refine ⟨_, L ++ [d], _, rfl, kq_push (y := y) h hd hT hZ hL hc1 hc (qq_push h.1 rfl (fun i => rfl)) (fun x => rfl) (fun q hq => ?_), List.prefix_append L [d], Or.inr (qq_m.mpr (Or.inr rfl))⟩
      exact ⟨fun z => ⟨z, by omega⟩, fun z => z.1⟩
  · rw [if_neg (fun z => c0 ((h.2.1 d hd).mp z))]
    refine ⟨σ, L, f, rfl, h, List.prefix_refl _, ?_⟩
    by_cases z : Z d
    · exact Or.inl z
    · exact Or.inr (Classical.byContradiction fun y => c0 ⟨z, y⟩)
theorem le_all {W : Nat → Int32} {n s0 v : Nat} {b : fl_F} {Z : Nat → Prop} {σ : gS} {L : List Nat} {f : Nat → Nat} (hn : n ≤ 1040) (ok : fl_ok n (sp_E W n) (sp_S W n) (sp_e W n) b) (h34 : ∀ v, v < n → gA σ 34 v = pb (b v)) (h : kq W n b Z s0 σ L f) (hT : sp_T W n v) (hL : 2 * v ∈ L) :
    ∃ s L' f', F_Cut_leaveEntrance (nI v) σ = some (.inl none, s) ∧ kq W n b Z s0 s L' f' ∧ L <+: L' ∧ ∀ z, mv (sp_E W n) b (2 * v) z → Z z ∨ z ∈ L' := by
  have hv := sp_Tl hT
  unfold F_Cut_leaveEntrance
  simp only [gd_gI (gi_in (show v < 1040 by omega) (by omega : 1040 ≤ 100000)), gi_cl (show v ≤ 100000 by omega), h34 v hv, d2]
  cases hb : b v with
  | none =>
    rw [if_pos (show pb none = -1 from rfl), nI_1]
    obtain ⟨s, L', f', k1, k2, k3, k4⟩ := kq_see (d := 2 * v + 1) (y := 2 * v) (c := nI (2 * v)) hn h (by omega) (by rw [show (2 * v + 1) / 2 = v by omega]; exact hT) (gi_m1 (by omega)) (Or.inr ⟨rfl, hL, Or.inl ⟨v, rfl, rfl, hb⟩⟩)
    rw [k1, gd_01]
    refine ⟨s, L', f', rfl, k2, k3, fun z hz => ?_⟩
    rcases mv_fi hz with ⟨e, _⟩ | ⟨u, _, e⟩
    · rw [e]; exact k4
    · rw [hb] at e; cases e
  | some x =>
    cases x with
    | none =>
      rw [if_neg (show ¬ pb (some none) = -1 by decide), if_pos (show pb (some none) = -2 from rfl)]
      refine ⟨σ, L, f, rfl, h, List.prefix_refl _, fun z hz => ?_⟩
      rcases mv_fi hz with ⟨_, e⟩ | ⟨u, _, e⟩
      · rw [hb] at e; cases e
      · rw [hb] at e; cases e
    | some u =>
      have hE := (ok.2.1 u v hb).2.1
      have hu := sp_Tl hE.1
      show ∃ s L' f', (if nI u = -1 then _ else if nI u = -2 then _ else gd_0 (F_Cut_see ((2 : Int32) * nI u + 1) (nI (2 * v)) σ) fun s1 => some (.inl none, s1)) = _ ∧ _
      rw [if_neg (gi_m1 (by omega)), if_neg (gi_m2 (by omega)), d2, nI_1]
      obtain ⟨s, L', f', k1, k2, k3, k4⟩ := kq_see (d := 2 * u + 1) (y := 2 * v) (c := nI (2 * v)) hn h (by omega) (by rw [show (2 * u + 1) / 2 = u by omega]; exact hE.1) (gi_m1 (by omega)) (Or.inr ⟨rfl, hL, Or.inr (Or.inl ⟨u, v, rfl, rfl, hb⟩)⟩)
      rw [k1, gd_01]
      refine ⟨s, L', f', rfl, k2, k3, fun z hz => ?_⟩
      rcases mv_fi hz with ⟨_, e⟩ | ⟨u', e1, e2⟩
      · rw [hb] at e; cases e
      · rw [hb] at e2; cases e2
        rw [e1]; exact k4
def ck (W : Nat → Int32) (n : Nat) (σ : gS) (T : List Nat) : Prop := gA σ 42 = W ∧ rD n σ ∧ qq 26 9 29 σ T ∧ T.Nodup ∧ (∀ x, x ∈ T ↔ sp_T W n x) ∧ (∀ v, sp_T W n v → ∀ q, q < n → (lbt (gL σ 22) v q = true ↔ sp_c W n v q)) ∧ ∀ p, p < n → gA σ 30 p = sp_o (sp_e W n p)
theorem ck_fm {W : Nat → Int32} {n : Nat} {V : gW} {σ s : gS} {T : List Nat} (h : ck W n σ T) (f : gd_fm V σ s) (hd : fm_dis V [(2, 7)] [3, 4, 5, 6, 7, 8, 9, 42] [] = true) (hd2 : fm_dis V [(26, 9)] [29, 30] [22] = true) : ck W n s T := by
  have g := fm_sm f hd
  have g2 := fm_sm f hd2
  refine ⟨(sm_A g (p := 42) rfl).trans h.1, rD_sm h.2.1 g, ⟨(sm_I g2 (p := 26) (k := 9) rfl).trans h.2.2.1.1, fun i x hx => (congrFun (sm_A g2 (p := 29) rfl) i).trans (h.2.2.1.2 i x hx)⟩, h.2.2.2.1, h.2.2.2.2.1, ?_, ?_⟩
  · rw [sm_L g2 (p := 22) rfl]; exact h.2.2.2.2.2.1
  · rw [sm_A g2 (p := 30) rfl]; exact h.2.2.2.2.2.2
theorem lx_36 {W : Nat → Int32} {n s0 v r : Nat} {b : fl_F} {Z : Nat → Prop} {σ : gS} {T L0 : List Nat} {f0 : Nat → Nat} (hk : ck W n σ T) (h : kq W n b Z s0 σ L0 f0) (hT : sp_T W n v) (hL : 2 * v + 1 ∈ L0) (r0 : r ≤ n) (r1 : ∀ q, q < r → ¬ (lbt (gL σ 22) v q = true ∧ lb (gL σ 37) q = true)) (r2 : r < n → lbt (gL σ 22) v r = true ∧ lb (gL σ 37) r = true) :
    ∃ s L f, gd_lp (fun _ _ => none) (B_Cut_leaveExit_36 (nI v)) gd_N (nI r) σ = some (.inl none, s) ∧ kq W n b Z s0 s L f ∧ L0 <+: L ∧ ∀ u, sp_E W n v u → Z (2 * u) ∨ 2 * u ∈ L := by
  have hv := sp_Tl hT
  have hn := hk.2.1.2.1
  have hr := hk.2.2.2.2.2.1 v hT
  have no : ∀ {s : gS} {L : List Nat} {f : Nat → Nat} {q : Nat}, gL s 22 = gL σ 22 → kq W n b Z s0 s L f → ¬ (lbt (gL s 22) v q = true ∧ lb (gL s 37) q = true) → sp_E W n v q → Z (2 * q) ∨ 2 * q ∈ L := by
    intro s L f q e22 hq hc hE
    have hqn := sp_El hE
    refine Classical.byContradiction fun z => hc ⟨?_, (hq.2.2.2.2.2.2 q (by omega)).mpr ⟨hqn, sp_ET hE, fun k3 => ?_, fun y => z (Or.inl y), fun y => z (Or.inr y)⟩⟩
    · rw [e22]; exact (hr q hqn).mpr hE.2.1
    · rcases hE.2.2.1 with k | k <;> exact absurd (k.symm.trans k3) (by decide)
  refine gd_it2 (I := fun m i s => ∃ j L f, j ≤ n ∧ m = n - j ∧ i = nI j ∧ kq W n b Z s0 s L f ∧ L0 <+: L ∧ (∀ u, u < j → sp_E W n v u → Z (2 * u) ∨ 2 * u ∈ L) ∧ (j < n → lbt (gL s 22) v j = true ∧ lb (gL s 37) j = true) ∧ gd_fm W_Cut_leaveExit σ s) (E := fun (r : gR) => ∃ s L f, r = some (.inl none, s) ∧ kq W n b Z s0 s L f ∧ L0 <+: L ∧ ∀ u, sp_E W n v u → Z (2 * u) ∨ 2 * u ∈ L) ?_ gd_N (n - r) (nI r) σ ⟨r, L0, f0, r0, rfl, rfl, h, List.prefix_refl _, fun u hu hE => no rfl h (r1 u hu) hE, r2, gd_fm0 _ _⟩ (gd_Nlt (by omega))
  rintro m i s ag ⟨j, L, f, hj, rfl, rfl, hq, hpre, hc, hj2, fr⟩
  have hk1 := ck_fm hk fr rfl rfl
  unfold B_Cut_leaveExit_36
  rw [hk1.2.1.1]
  by_cases hjn : j = n
  · subst hjn
    rw [if_pos ((gi_le (by omega) (by omega)).mpr (Nat.le_refl _))]
    exact Or.inr ⟨s, L, f, rfl, hq, hpre, fun u hE => hc u (sp_El hE) hE⟩
  · have hjn' : j < n := by omega
    obtain ⟨j1, j2⟩ := hj2 hjn'
    rw [fm_L fr (p := 22) rfl] at j1
    have jc := (hr j hjn').mp j1
    obtain ⟨_, jT, jk, jZ, jL⟩ := (hq.2.2.2.2.2.2 j (by omega)).mp j2
    have hE : sp_E W n v j := ⟨hT, jc, (sp_Tk jT).resolve_left jk, sp_Tr jT⟩
    rw [if_neg (fun z => by have := (gi_le (by omega) (by omega)).mp z; omega), d2, d2, nI_1, nI_1]
    obtain ⟨s2, L2, f2, k1, k2, k3, k4⟩ := kq_see (d := 2 * j) (y := 2 * v + 1) (c := nI (2 * v + 1)) hn hq (by omega) (by rw [show 2 * j / 2 = j by omega]; exact jT) (gi_m1 (by omega)) (Or.inr ⟨rfl, hpre.subset hL, Or.inr (Or.inr (Or.inr ⟨v, j, rfl, rfl, hE⟩))⟩)
    have fr2 : gd_fm W_Cut_leaveExit σ s2 := gd_fmT (gd_sbI rfl) fr (K_Cut_see _ _ _ _ k1)
    have hk2 := ck_fm hk fr2 rfl rfl
    obtain ⟨r', g1, g2, g3, g4, g5⟩ := na_37 (v := v) (l := j + 1) hk2.2.1.1 hn (by omega) (fun q hq' hb' => ((k2.2.2.2.2.2.2 q hq').mp hb').1) (by omega)
    rw [k1, gd_01, g1, gd_qi1]
    refine Or.inl ⟨nI r', s2, n - r', by omega, ⟨r', L2, f2, g3, rfl, rfl, k2, List.IsPrefix.trans hpre k3, fun u hu hEu => ?_, g5, fr2⟩, rfl⟩
    by_cases e1 : u < j
    · exact (hc u e1 hEu).imp id (fun z => k3.subset z)
    · by_cases e2 : u = j
      · rw [e2]; exact k4
      · exact no (fm_L fr2 rfl) k2 (g4 u (by omega) hu) hEu
theorem lx_all {W : Nat → Int32} {n s0 v : Nat} {b : fl_F} {Z : Nat → Prop} {σ : gS} {T L : List Nat} {f : Nat → Nat} (hk : ck W n σ T) (h34 : ∀ v, v < n → gA σ 34 v = pb (b v)) (hbn : ∀ v u, b v = some (some u) → u < n) (h : kq W n b Z s0 σ L f) (hT : sp_T W n v) (hL : 2 * v + 1 ∈ L) :
    ∃ s L' f', F_Cut_leaveExit (nI v) σ = some (.inl none, s) ∧ kq W n b Z s0 s L' f' ∧ L <+: L' ∧ ∀ z, mv (sp_E W n) b (2 * v + 1) z → Z z ∨ z ∈ L' := by
  have hv := sp_Tl hT
  have hn := hk.2.1.2.1
  unfold F_Cut_leaveExit
  rw [gd_gI (gi_in (show v < 1040 by omega) (by omega : 1040 ≤ 100000)), gi_cl (show v ≤ 100000 by omega), h34 v hv, gd_j1, d2, nI_1]
  have rest : ∀ (s1 : gS) (L1 : List Nat) (f1 : Nat → Nat), gd_fm W_Cut_leaveExit σ s1 → kq W n b Z s0 s1 L1 f1 → L <+: L1 → (b v ≠ none → Z (2 * v) ∨ 2 * v ∈ L1) → ∃ s L' f', (gd_qi (R_Reach_nextAmong_37 (nI v) 0 s1) s1 fun r4 => gd_lp (fun _ _ => none) (B_Cut_leaveExit_36 (nI v)) gd_N r4 s1) = some (.inl none, s) ∧ kq W n b Z s0 s L' f' ∧ L <+: L' ∧ ∀ z, mv (sp_E W n) b (2 * v + 1) z → Z z ∨ z ∈ L' := by
    intro s1 L1 f1 fr1 q1 p1 c1
    have hk1 := ck_fm hk fr1 rfl rfl
    obtain ⟨r', g1, g2, g3, g4, g5⟩ := na_37 (v := v) (l := 0) hk1.2.1.1 hn (by omega) (fun q hq' hb' => ((q1.2.2.2.2.2.2 q hq').mp hb').1) (by omega)
    rw [show (0 : Int32) = nI 0 from rfl, g1, gd_qi1]
    obtain ⟨s, L', f', k1, k2, k3, k4⟩ := lx_36 hk1 q1 hT (p1.subset hL) g3 (fun q hq => g4 q (Nat.zero_le q) hq) g5
    refine ⟨s, L', f', k1, k2, List.IsPrefix.trans p1 k3, fun z hz => ?_⟩
    rcases mv_fo hz with ⟨e, e2⟩ | ⟨u, e, hE⟩
    · rw [e]; exact (c1 e2).imp id (fun y => k3.subset y)
    · rw [e]; exact k4 u hE
  by_cases hb : b v = none
  · rw [if_pos (by rw [hb]; rfl)]
    exact rest σ L f (gd_fm0 _ _) h (List.prefix_refl _) (fun z => absurd hb z)
  · rw [if_neg (fun z => by
      cases hbv : b v with
      | none => exact hb hbv
      | some x =>
        rw [hbv] at z
        cases x with
        | none => exact absurd z (by decide)
        | some u => exact gi_m1 (show u ≤ 100000 by have := hbn v u hbv; omega) z)]
    obtain ⟨s2, L2, f2, k1, k2, k3, k4⟩ := kq_see (d := 2 * v) (y := 2 * v + 1) (c := nI (2 * v + 1)) hn h (by omega) (by rw [show 2 * v / 2 = v by omega]; exact hT) (gi_m1 (by omega)) (Or.inr ⟨rfl, hL, Or.inr (Or.inr (Or.inl ⟨v, rfl, rfl, hb⟩))⟩)
    rw [k1, gd_01]
    exact rest s2 L2 f2 (gd_fmT (gd_sbI rfl) (gd_fm0 _ _) (K_Cut_see _ _ _ _ k1)) k2 k3 (fun _ => k4)
def kd (W : Nat → Int32) (n : Nat) (b : fl_F) (Z : Nat → Prop) (L : List Nat) (r : Int32) : Prop := (r = -1 ∧ (∀ y ∈ L, ∀ z, mv (sp_E W n) b y z → Z z ∨ z ∈ L) ∧ ∀ t, 2 * t + 1 ∈ L → ¬ sp_e W n t) ∨ ∃ t, r = nI t ∧ 2 * t + 1 ∈ L ∧ sp_e W n t
theorem cs_16 {W : Nat → Int32} {n s0 : Nat} {b : fl_F} {Z : Nat → Prop} {σ : gS} {T L0 : List Nat} {f0 : Nat → Nat} (hk : ck W n σ T) (ok : fl_ok n (sp_E W n) (sp_S W n) (sp_e W n) b) (h34 : ∀ v, v < n → gA σ 34 v = pb (b v)) (h : kq W n b Z s0 σ L0 f0) :
    ∃ s L f r, gd_lp (fun _ _ => none) B_Cut_search_16 gd_N 0 σ = some (.inl (some (.int r)), s) ∧ kq W n b Z s0 s L f ∧ L0 <+: L ∧ kd W n b Z L r := by
  have hn := hk.2.1.2.1
  have hbn : ∀ v u, b v = some (some u) → u < n := fun v u z => fl_lt ok (ok.2.1 u v z).2.2
  refine gd_it2 (I := fun m i s => ∃ j L f, j ≤ L.length ∧ m = 2 * n + 1 - j ∧ i = nI j ∧ kq W n b Z s0 s L f ∧ L0 <+: L ∧ (∀ (i d : Nat), i < j → L[i]? = some d → (∀ z, mv (sp_E W n) b d z → Z z ∨ z ∈ L) ∧ ∀ t, d = 2 * t + 1 → ¬ sp_e W n t) ∧ gd_fm W_Cut_search σ s) (E := fun (r : gR) => ∃ s L f r', r = some (.inl (some (.int r')), s) ∧ kq W n b Z s0 s L f ∧ L0 <+: L ∧ kd W n b Z L r') ?_ gd_N (2 * n + 1) 0 σ ⟨0, L0, f0, Nat.zero_le _, rfl, rfl, h, List.prefix_refl _, fun i d hi => absurd hi (Nat.not_lt_zero i), gd_fm0 _ _⟩ (gd_Nlt (by omega))
  rintro m i s ag ⟨j, L, f, hj, rfl, rfl, hq, hpre, hc, fr⟩
  have hk1 := ck_fm hk fr rfl rfl
  have hl := kq_len hq
  have h34' : ∀ v, v < n → gA s 34 v = pb (b v) := fun v hv => by rw [fm_A fr (p := 34) rfl]; exact h34 v hv
  unfold B_Cut_search_16
  rw [hq.1.1]
  by_cases hjl : j = L.length
  · rw [if_pos ((gi_le (by omega) (by omega)).mpr (by omega))]
    refine Or.inr ⟨s, L, f, -1, rfl, hq, hpre, Or.inl ⟨rfl, fun y hy z hz => ?_, fun t ht => ?_⟩⟩
    · obtain ⟨i, hi⟩ := List.mem_iff_getElem?.mp hy
      have := (List.getElem?_eq_some_iff.mp hi).1
      exact (hc i y (by omega) hi).1 z hz
    · obtain ⟨i, hi⟩ := List.mem_iff_getElem?.mp ht
      have := (List.getElem?_eq_some_iff.mp hi).1
      exact (hc i _ (by omega) hi).2 t rfl
  · have hlt : j < L.length := by omega
    obtain ⟨d, hd⟩ : ∃ d, L[j]? = some d := ⟨L[j], List.getElem?_eq_getElem hlt⟩
    have hdL := List.mem_of_getElem? hd
    obtain ⟨hdn, hdT, hdZ⟩ := hq.2.2.2.2.1 d hdL
    have q1 : gA s 36 j = nI d := hq.1.2 j d hd
    rw [if_neg (fun z => by have := (gi_le (by omega) (by omega)).mp z; omega), if_neg (fun z => by have := (gi_le (a := 2080) (by omega) (by omega)).mp z; omega)]
    simp only [gd_gI (gi_in (show j < 2080 by omega) (by omega : 2080 ≤ 100000)), gi_cl (show j ≤ 100000 by omega), q1, la1 (show d ≤ 100000 by omega), l1s (show d ≤ 100000 by omega), gd_t1, gd_j1, gd_gI (gi_in (show d / 2 < 1040 by omega) (by omega : 1040 ≤ 100000)), gi_cl (show d / 2 ≤ 100000 by omega), nI_1, hk1.2.2.2.2.2.2 (d / 2) (by omega)]
    have go : ∀ (s2 : gS) (L2 : List Nat) (f2 : Nat → Nat), gd_fm W_Cut_search s s2 → kq W n b Z s0 s2 L2 f2 → L <+: L2 → (∀ z, mv (sp_E W n) b d z → Z z ∨ z ∈ L2) → (∀ t, d = 2 * t + 1 → ¬ sp_e W n t) → ∃ a' b' m', m' < 2 * n + 1 - j ∧ (∃ j L f, j ≤ L.length ∧ m' = 2 * n + 1 - j ∧ a' = nI j ∧ kq W n b Z s0 b' L f ∧ L0 <+: L ∧ (∀ (i d : Nat), i < j → L[i]? = some d → (∀ z, mv (sp_E W n) b d z → Z z ∨ z ∈ L) ∧ ∀ t, d = 2 * t + 1 → ¬ sp_e W n t) ∧ gd_fm W_Cut_search σ b') ∧ ag (nI (j + 1)) s2 = ag a' b' := by
      intro s2 L2 f2 fr2 q2 p2 c2 t2
      have hle := p2.length_le
      refine ⟨nI (j + 1), s2, 2 * n + 1 - (j + 1), by omega, ⟨j + 1, L2, f2, by omega, rfl, rfl, q2, List.IsPrefix.trans hpre p2, fun i x hi hx => ?_, gd_fmT (gd_sbI rfl) fr fr2⟩, rfl⟩
      rw [bf_pre p2 (by omega)] at hx
      by_cases e : i = j
      · subst e; rw [hd] at hx; cases hx
        exact ⟨c2, t2⟩
      · exact ⟨fun z hz => ((hc i x (by omega) hx).1 z hz).imp id (fun y => p2.subset y), (hc i x (by omega) hx).2⟩
    by_cases e : d % 2 = 1
    · rw [e, if_pos (show nI 1 = 1 from rfl), if_neg (show ¬ (1 : Int32) = 0 by decide), if_neg (show ¬ (1 : Int32) = 0 by decide)]
      have ed : d = 2 * (d / 2) + 1 := by omega
      by_cases ce : sp_e W n (d / 2)
      · rw [sp_ot ce, if_neg (show ¬ (1 : Int32) = 0 by decide)]
        exact Or.inr ⟨s, L, f, _, rfl, hq, hpre, Or.inr ⟨d / 2, rfl, by rw [← ed]; exact hdL, ce⟩⟩
      · rw [sp_of ce, if_pos (rfl : (0 : Int32) = 0)]
        obtain ⟨s2, L2, f2, k1, k2, k3, k4⟩ := lx_all hk1 h34' hbn hq hdT (by rw [← ed]; exact hdL)
        rw [k1, gd_01]
        exact Or.inl (go s2 L2 f2 (gd_fmT (gd_sbI rfl) (gd_fm0 _ _) (K_Cut_leaveExit _ _ _ k1)) k2 k3 (by rw [← ed] at k4; exact k4) (fun t ht => by
          have : t = d / 2 := by omega
          rw [this]; exact ce))
    · rw [show d % 2 = 0 by omega, if_neg (show ¬ nI 0 = 1 by decide), if_pos (rfl : (0 : Int32) = 0), if_pos (rfl : (0 : Int32) = 0)]
      have ed : d = 2 * (d / 2) := by omega
      obtain ⟨s2, L2, f2, k1, k2, k3, k4⟩ := le_all hn ok h34' hq hdT (by rw [← ed]; exact hdL)
      rw [k1, gd_01]
      exact Or.inl (go s2 L2 f2 (gd_fmT (gd_sbI rfl) (gd_fm0 _ _) (K_Cut_leaveEntrance _ _ _ k1)) k2 k3 (by rw [← ed] at k4; exact k4) (fun t ht => by omega))
