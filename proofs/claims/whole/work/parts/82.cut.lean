theorem pt_0 {E : Nat → Nat → Prop} {b : fl_F} {f : Nat → Nat} {s t d : Nat} {D : List Nat} (h : pth E b f s t D) (hd : d ∈ D) (hs : d ≠ 2 * s) : f d ≠ 2 * t + 1 := by
  obtain ⟨k, hk⟩ := List.mem_iff_getElem?.mp hd
  have hkl := (List.getElem?_eq_some_iff.mp hk).1
  have k1 : k + 1 < D.length := by
    by_cases z : k + 1 < D.length
    · exact z
    · have : k = D.length - 1 := by omega
      rw [this, h.2.2.1] at hk
      exact absurd (Option.some.inj hk).symm hs
  have a := (h.2.2.2 k d _ hk (List.getElem?_eq_getElem k1)).1
  intro z
  have : D[k + 1]? = D[0]? := by rw [List.getElem?_eq_getElem k1, a, z, h.2.1]
  have := (List.getElem?_inj k1 h.1).mp this
  omega
theorem rc_9 {E : Nat → Nat → Prop} {b : fl_F} {f : Nat → Nat} {s t v : Nat} {D : List Nat} (h : pth E b f s t D) : c9 b f D (D.length - 1) v ↔ fl_u b f s D v ≠ none := by
  unfold c9
  rw [tk_e h.1 h.2.2.1, tk_e h.1 h.2.2.1]
  have hn : fl_u b f s D v ≠ none ↔ ¬ ((2 * v ∈ D ∧ v ≠ s ∧ f (2 * v) = 2 * v + 1) ∨ (2 * v ∉ D ∧ b v = none)) := not_congr fl_un
  rw [hn]
  constructor
  · rintro (⟨⟨z1, _⟩, z2⟩ | ⟨z1, z2⟩)
    · have hv := (pt_p h z1 (by omega)).1
      rw [z2] at hv
      rintro (⟨y1, y2, y3⟩ | ⟨y1, _⟩)
      · exact pt_2 h y1 (by omega) (by omega) (by rw [y3]; exact z2)
      · exact y1 hv
    · rintro (⟨y1, y2, y3⟩ | ⟨_, y2⟩)
      · exact z1 ⟨⟨y1, by omega⟩, y3⟩
      · exact z2 y2
  · intro z
    by_cases c : b v = none
    · have hv : 2 * v ∈ D := Classical.byContradiction fun y => z (Or.inr ⟨y, c⟩)
      obtain ⟨e, he, hes, hfe, hm⟩ := pt_n h hv (by omega)
      rcases mv_fi hm with ⟨a, _⟩ | ⟨u, a, y⟩
      · subst a
        exact Or.inl ⟨⟨he, hes⟩, hfe⟩
      · rw [c] at y; cases y
    · exact Or.inr ⟨fun y => z (Or.inl ⟨y.1.1, fun q => y.1.2 (by rw [q]), y.2⟩), c⟩
theorem rc_8 {E : Nat → Nat → Prop} {b : fl_F} {f : Nat → Nat} {s t u v : Nat} {D : List Nat} (h : pth E b f s t D) (ns : ∀ v, b v ≠ some (some v)) : c8 b f D (D.length - 1) u v ↔ fl_u b f s D v = some (some u) := by
  unfold c8
  rw [tk_e h.1 h.2.2.1, tk_e h.1 h.2.2.1, fl_ud h]
  constructor
  · rintro (⟨⟨z1, z2⟩, z3, z4⟩ | ⟨z1, z2⟩)
    · exact Or.inl ⟨z1, fun q => z2 (by rw [q]), z4, z3⟩
    · refine Or.inr ⟨fun hv => ?_, z2⟩
      obtain ⟨e, he, hes, hfe, hm⟩ := pt_n h hv (by omega)
      rcases mv_fi hm with ⟨a, y⟩ | ⟨u', a, y⟩
      · rw [z2] at y; cases y
      · rw [z2] at y
        have : u = u' := by simpa using y
        subst this
        subst a
        exact z1 ⟨⟨he, hes⟩, hfe, fun q => ns v (by rw [z2, q])⟩
  · rintro (⟨z1, z2, z3, z4⟩ | ⟨z1, z2⟩)
    · exact Or.inl ⟨⟨z1, by omega⟩, z4, z3⟩
    · refine Or.inr ⟨fun y => z1 ?_, z2⟩
      have := (pt_p h y.1.1 (by omega)).1
      rw [y.2.1] at this
      exact this
theorem rc_all {W : Nat → Int32} {n i t : Nat} {b : fl_F} {Z : List Nat} {σ : gS} {L : List Nat} {f : Nat → Nat} (hk : rk W n σ) (hb : rb W n σ b Z) (hq : sq W n b σ L f) (hi : L[i]? = some (2 * t + 1)) (ht : sp_e W n t) :
    ∃ s b', F_M_carry (nI (2 * t + 1)) σ = some (.inl none, s) ∧ rb W n s b' (t :: Z) := by
  have hn := hk.2.2.1
  obtain ⟨b59, b58, b60, bZ, bN, bo, bs⟩ := id hb
  have htn : t < n := sp_Tl ht.1
  obtain ⟨s0, D, a1, a2, a3, a4, a5, a6⟩ := pth_ex (E := sp_E W n) (b := b) (f := f) (st := fun s => sp_S W n s ∧ f (2 * s) = 2 * s) hq.2.2.1 (fun i d hd => by
    rcases hq.2.2.2.2 i d hd with ⟨s, z1, z2, z3⟩ | z
    · exact Or.inl ⟨s, z1, z2, by rw [← z1]; exact z3⟩
    · exact Or.inr z) (i + 1) i _ (by omega) hi
  have hp : pth (sp_E W n) b f s0 t D := ⟨a2, a3, a4, a5⟩
  have hDL : ∀ x ∈ D, x ∈ L := fun x hx => by
    obtain ⟨j, _, hj⟩ := a6 x hx
    exact List.mem_of_getElem? hj
  have ht1 : 2 * t + 1 ∈ D := List.mem_of_getElem? a3
  unfold F_M_carry
  rw [d2v (by omega), show (2 * t + 1) / 2 = t by omega]
  simp only [gd_gI (gi_in (show t < 1040 by omega) (by omega : 1040 ≤ 100000)), gi_cl (show t ≤ 100000 by omega)]
  rw [gd_s1]
  obtain ⟨s, g1, g2, g3, g4⟩ := rc_11 (σ := gs_A σ 60 t (vp_nar .boolean 1)) hn bo hp a1.2 hDL hq.2.1 (fun d hd => (hq.2.2.2.1 d hd).1) b59 b58
  rw [g1]
  refine ⟨s, fl_u b f s0 D, rfl, fun v hv => ?_, fun u hu v hv => ?_, fun v hv => ?_, fun v hv => ?_, ?_, fl_aug bo hp ⟨a1.1, sp_Tl a1.1.1⟩ ht (fun u v he => sp_El he), fun v hv => ?_⟩
  · rw [g2 v hv]
    exact congrArg nI (sp_i1 (rc_9 hp))
  · rw [g3 u hu v hv]
    exact rc_8 hp bs
  · rw [fm_A g4 (p := 60) rfl]
    show (if v = t then vp_nar .boolean 1 else gA σ 60 v) = _
    by_cases e : v = t
    · rw [if_pos e, sp_ot (P := (v ∈ t :: Z)) (by rw [e]; exact List.mem_cons_self)]; rfl
    · rw [if_neg e, b60 v hv]
      exact congrArg nI (sp_i1 ⟨fun z => List.mem_cons_of_mem _ z, fun z => (List.mem_cons.mp z).resolve_left e⟩)
  · rcases List.mem_cons.mp hv with e | e
    · subst e
      refine ⟨htn, fun z => ?_, fun w hw => ?_⟩
      · rcases fl_un.mp z with ⟨y1, y2, y3⟩ | ⟨y1, y2⟩
        · exact pt_0 hp y1 (by omega) y3
        · obtain ⟨q1, q2⟩ := pt_p hp ht1 (by omega)
          rcases mv_o q2 with ⟨x1, _⟩ | ⟨w, _, x2⟩
          · exact y1 (x1 ▸ q1)
          · exact (bo.2.1 v w x2).2.2 y2
      · rcases (fl_ud hp).mp hw with ⟨y1, y2, y3, y4⟩ | ⟨y1, y2⟩
        · exact pt_0 hp y1 (by omega) y4
        · obtain ⟨q1, q2⟩ := pt_p hp ht1 (by omega)
          rcases mv_o q2 with ⟨_, x1⟩ | ⟨w', x1, x2⟩
          · exact (bo.2.1 v w y2).2.2 x1
          · have : w' = w := bo.2.2.1 v w' w x2 y2
            subst this
            exact y1 (x1 ▸ q1)
    · obtain ⟨z1, z2, z3⟩ := bZ v e
      have no : 2 * v + 1 ∉ D := by
        intro q
        obtain ⟨q1, q2⟩ := pt_p hp q (by omega)
        rcases mv_o q2 with ⟨_, x1⟩ | ⟨w', x1, x2⟩
        · exact z2 x1
        · exact z3 w' x2
      refine ⟨z1, fun z => ?_, fun w hw => ?_⟩
      · rcases fl_un.mp z with ⟨y1, y2, y3⟩ | ⟨y1, y2⟩
        · have := (pt_p hp y1 (by omega)).1
          rw [y3] at this
          exact no this
        · exact z2 y2
      · rcases (fl_ud hp).mp hw with ⟨y1, y2, y3, y4⟩ | ⟨y1, y2⟩
        · have := (pt_p hp y1 (by omega)).1
          rw [y4] at this
          exact no this
        · exact z3 w y2
  · refine List.nodup_cons.mpr ⟨fun z => ?_, bN⟩
    obtain ⟨-, z2, z3⟩ := bZ t z
    rcases sq_fl (u := 0) bo hq (hDL _ ht1) with y | ⟨w, y, _⟩
    · exact z2 y
    · exact z3 w y
  · rcases (fl_ud hp).mp hv with ⟨y1, y2, y3, y4⟩ | ⟨y1, y2⟩
    · exact y3 rfl
    · exact bs v y2
def rdone (W : Nat → Int32) (n : Nat) (s : gS) : Prop := ∃ b Z L f, rb W n s b Z ∧ sq W n b s L f ∧ (∀ u, sp_S W n u → 2 * u ∈ L) ∧ sqc W n b L
theorem rf_61 {W : Nat → Int32} {n : Nat} {b : fl_F} {Z L : List Nat} {f : Nat → Nat} {σ : gS} {r0 : Int32} (κ : gS → gR) (hk : rk W n σ) (hb : rb W n σ b Z) (h : sq W n b σ L f) (hS : ∀ u, sp_S W n u → 2 * u ∈ L) (hr : srd W n b L r0) :
    ∃ s, gd_lp (fun _ _ => none) (B_M_findCut_61 κ) gd_N r0 σ = κ s ∧ rdone W n s ∧ gd_fm W_M_findCut σ s := by
  refine gd_it2 (I := fun m r s => ∃ b Z L f, m = n - Z.length ∧ rb W n s b Z ∧ sq W n b s L f ∧ (∀ u, sp_S W n u → 2 * u ∈ L) ∧ srd W n b L r ∧ gd_fm W_M_findCut σ s) (E := fun (r : gR) => ∃ s, r = κ s ∧ rdone W n s ∧ gd_fm W_M_findCut σ s) ?_ gd_N (n - Z.length) r0 σ ⟨b, Z, L, f, rfl, hb, h, hS, hr, gd_fm0 _ _⟩ (gd_Nlt (by have := hk.2.2.1; omega))
  rintro m r s ag ⟨b, Z, L, f, rfl, hb, h, hS, hr, fr⟩
  have hk' := rk_fm hk fr rfl
  have hn := hk'.2.2.1
  unfold B_M_findCut_61
  rcases hr with ⟨rfl, hc⟩ | ⟨i, t, rfl, hi, ht⟩
  · rw [if_pos rfl]
    exact Or.inr ⟨s, rfl, ⟨b, Z, L, f, hb, h, hS, hc⟩, fr⟩
  · have htn : t < n := sp_Tl ht.1
    rw [if_neg (gi_m1 (by omega))]
    obtain ⟨s1, b1, g1, g2⟩ := rc_all hk' hb h hi ht
    have f1 := gd_fmT (gd_sbI rfl) fr (K_M_carry _ _ _ g1)
    obtain ⟨r2, s2, L2, f2, k1, k2, k3, k4⟩ := rs_all (rk_fm hk f1 rfl) g2
    have f2' := K_M_search _ _ k1
    have hl : (t :: Z).length ≤ n := bf_len g2.2.2.2.2.1 (fun x hx => (g2.2.2.2.1 x hx).1)
    rw [List.length_cons] at hl
    rw [g1, gd_01, k1, gd_i1]
    exact Or.inl ⟨r2, s2, n - (t :: Z).length, by rw [List.length_cons]; omega, ⟨b1, t :: Z, L2, f2, rfl, rb_fm g2 f2' rfl, k2, k3, k4, gd_fmT (gd_sbI rfl) f1 f2'⟩, rfl⟩
theorem sq_min {W : Nat → Int32} {n : Nat} {b : fl_F} {σ : gS} {L : List Nat} {f : Nat → Nat} (h : sq W n b σ L f) {I O : Nat → Prop} (hc : fl_cl (sp_E W n) (sp_S W n) b I O) : ∀ N (i d : Nat), i < N → L[i]? = some d → (∀ v, d = 2 * v → I v) ∧ ∀ v, d = 2 * v + 1 → O v := by
  intro N
  induction N with
  | zero => intro i d h; exact absurd h (Nat.not_lt_zero i)
  | succ N ih =>
    intro i d hi hd
    rcases h.2.2.2.2 i d hd with ⟨s, z1, z2, -⟩ | ⟨j, hj, z1, z2⟩
    · exact ⟨fun v hv => (show s = v by omega) ▸ hc.1 s z2, fun v hv => by omega⟩
    · have := ih j _ (by omega) z1
      refine ⟨fun v hv => ?_, fun v hv => ?_⟩
      · rw [hv] at z2 this
        rcases mv_i z2 with ⟨y1, y2⟩ | ⟨u, y1, y2⟩
        · exact hc.2.2.2.2 v (this.2 v y1) y2
        · exact hc.2.2.1 u v (this.2 u y1) y2
      · rw [hv] at z2 this
        rcases mv_o z2 with ⟨y1, y2⟩ | ⟨u, y1, y2⟩
        · exact hc.2.1 v (this.1 v y1) y2
        · exact hc.2.2.2.1 v u (this.1 u y1) y2
theorem spc_eq {W : Nat → Int32} {n : Nat} {b : fl_F} {I O : Nat → Prop} (ok : fl_ok n (sp_E W n) (sp_S W n) (sp_e W n) b) (cl : fl_cl (sp_E W n) (sp_S W n) b I O) (hT : ∀ v, sp_e W n v → ¬ O v) (hI : ∀ v, I v → v < n) (hm : ∀ I' O', fl_cl (sp_E W n) (sp_S W n) b I' O' → ∀ v, (I v → I' v) ∧ (O v → O' v)) (v : Nat) : sp_C W n v ↔ I v ∧ ¬ O v := by
  constructor
  · rintro ⟨b1, I1, O1, h1, h2, h3, h4, h5, h6, h7⟩
    have := fl_one h1 ok h2 cl h3 hT h4 hI h5 hm v
    exact ⟨this.1.mp h6, fun z => h7 (this.2.mpr z)⟩
  · rintro ⟨h1, h2⟩
    exact ⟨b, I, O, ok, cl, hT, hI, hm, h1, h2⟩
theorem rd_C {W : Nat → Int32} {n : Nat} {s : gS} {b : fl_F} {Z L : List Nat} {f : Nat → Nat} (hb : rb W n s b Z) (h : sq W n b s L f) (hS : ∀ u, sp_S W n u → 2 * u ∈ L) (hc : sqc W n b L) (v : Nat) : sp_C W n v ↔ 2 * v ∈ L ∧ ¬ 2 * v + 1 ∈ L := by
  refine spc_eq (I := fun v => 2 * v ∈ L) (O := fun v => 2 * v + 1 ∈ L) hb.2.2.2.2.2.1 ⟨hS, fun v hv hn => ?_, fun u v hu he => ?_, fun u v hv he => ?_, fun v hv hn => ?_⟩ (fun v hv z => hc.2 v z hv) (fun v hv => by have := (h.2.2.2.1 _ hv).1; omega) (fun I' O' hcl v => ⟨fun z => ?_, fun z => ?_⟩) v
  · exact hc.1 _ hv _ (Or.inl ⟨v, rfl, rfl, hn⟩)
  · exact hc.1 _ hu _ (Or.inr (Or.inr (Or.inr ⟨u, v, rfl, rfl, he⟩)))
  · exact hc.1 _ hv _ (Or.inr (Or.inl ⟨u, v, rfl, rfl, he⟩))
  · exact hc.1 _ hv _ (Or.inr (Or.inr (Or.inl ⟨v, rfl, rfl, hn⟩)))
  · obtain ⟨i, hi⟩ := List.mem_iff_getElem?.mp z
    exact (sq_min h hcl (i + 1) i _ (by omega) hi).1 v rfl
  · obtain ⟨i, hi⟩ := List.mem_iff_getElem?.mp z
    exact (sq_min h hcl (i + 1) i _ (by omega) hi).2 v rfl
theorem rf_86 {W : Nat → Int32} {n : Nat} {σ : gS} (hk : rk W n σ) (h0 : gI σ 41 26 = 0) (h : ∀ p, p < n → (sp_C W n p ↔ ¬ gA σ 61 (2 * p) = -1 ∧ gA σ 61 (2 * p + 1) = -1)) :
    ∃ s, gd_lp (fun _ _ => none) B_M_findCut_86 gd_N 0 σ = some (.inl none, s) ∧ (∀ p, p < n → gA s 56 p = nI (sp_i (sp_C W n p))) ∧ gI s 41 26 = nI (sp_n (sp_C W n) n) := by
  refine gd_it2 (I := fun m i s => ∃ j, j ≤ n ∧ m = n - j ∧ i = nI j ∧ (∀ p, p < j → gA s 56 p = nI (sp_i (sp_C W n p))) ∧ gI s 41 26 = nI (sp_n (sp_C W n) j) ∧ gd_fm ([(41, 26)], [56], []) σ s) (E := fun (r : gR) => ∃ s, r = some (.inl none, s) ∧ (∀ p, p < n → gA s 56 p = nI (sp_i (sp_C W n p))) ∧ gI s 41 26 = nI (sp_n (sp_C W n) n)) ?_ gd_N n 0 σ ⟨0, by omega, rfl, rfl, fun p hp => absurd hp (Nat.not_lt_zero p), h0, gd_fm0 _ _⟩ (gd_Nlt (by have := hk.2.2.1; omega))
  rintro m i s ag ⟨j, hj, rfl, rfl, hq, hc, fr⟩
  obtain ⟨w1, hok, hn, s1, h57, h53, h55⟩ := rk_fm hk fr rfl
  have g1 : gA s 61 = gA σ 61 := fm_A fr rfl
  unfold B_M_findCut_86
  rw [s1]
  by_cases hjn : j = n
  · subst hjn
    rw [if_pos ((gi_le (by omega) (by omega)).mpr (Nat.le_refl _))]
    exact Or.inr ⟨s, rfl, hq, hc⟩
  · rw [if_neg (fun z => by have := (gi_le (by omega) (by omega)).mp z; omega)]
    simp only [d2, nI_1, gd_gI (gi_in (show j < 1040 by omega) (by omega : 1040 ≤ 100000)), gi_cl (show j ≤ 100000 by omega), gd_gI (gi_in (show 2 * j < 2080 by omega) (by omega : 2080 ≤ 100000)), gi_cl (show 2 * j ≤ 100000 by omega), gd_gI (gi_in (show 2 * j + 1 < 2080 by omega) (by omega : 2080 ≤ 100000)), gi_cl (show 2 * j + 1 ≤ 100000 by omega), show gA s 61 (2 * j) = gA σ 61 (2 * j) from congrFun g1 _, show gA s 61 (2 * j + 1) = gA σ 61 (2 * j + 1) from congrFun g1 _]
    refine Or.inl ?_
    have tree2 : ∀ J : Int32 → gR, gd_j (α := Int32 → gR) J (fun J29 => if gA σ 61 (2 * j) = -1 then J29 0 else if gA σ 61 (2 * j + 1) = -1 then J29 1 else J29 0) = J (sp_o (sp_C W n j)) := by
      intro J
      rw [gd_j1]
      by_cases c1 : gA σ 61 (2 * j) = -1
      · rw [if_pos c1, sp_of (fun z => ((h j (by omega)).mp z).1 c1)]
      · rw [if_neg c1]
        by_cases c2 : gA σ 61 (2 * j + 1) = -1
        · rw [if_pos c2, sp_ot ((h j (by omega)).mpr ⟨c1, c2⟩)]
        · rw [if_neg c2, sp_of (fun z => c2 ((h j (by omega)).mp z).2)]
    rw [tree2]
    have hnar : vp_nar .boolean (sp_o (sp_C W n j)) = sp_o (sp_C W n j) := by
      by_cases c : sp_C W n j
      · rw [sp_ot c]; rfl
      · rw [sp_of c]; rfl
    simp only [gd_s1, gd_t1, gI_A, hc, gA_A, if_pos, hnar]
    refine ⟨nI (j + 1), _, n - (j + 1), by omega, ⟨j + 1, by omega, rfl, rfl, fun p hp => ?_, ?_, gd_fmI (gd_fmA fr rfl) rfl⟩, rfl⟩
    · show (if p = j then sp_o (sp_C W n j) else gA s 56 p) = _
      by_cases e : p = j
      · rw [if_pos e, e]; rfl
      · rw [if_neg e]; exact hq p (by omega)
    · show (if sp_o (sp_C W n j) = 0 then nI (sp_n (sp_C W n) j) else nI (sp_n (sp_C W n) j) + 1) = nI (sp_n (sp_C W n) j + sp_i (sp_C W n j))
      by_cases c : sp_C W n j
      · rw [if_neg (fun z => sp_o0.mp z c), sp_it c, nI_1]
      · rw [if_pos (sp_o0.mpr c), sp_if c]; rfl
theorem rf_26 (κ : gS → gR) (σ : gS) {v : Nat} (hv : v < 1040) : gd_lp (fun _ _ => none) (B_M_findCut_26 κ (nI v)) gd_N 0 σ = κ (gs_row σ 58 (mc_put (gA σ 58) (33 * v) 33 (fun _ => 0))) := by
  refine cp_lp (B := fun κ => B_M_findCut_26 κ (nI v)) σ 58 (33 * v) 33 (fun _ => 0) (by omega) (fun ag j s hj hs => ?_) (fun ag s hs => ?_)
  · unfold B_M_findCut_26
    have e1 : (33 : Int32) * nI v + nI j = nI (33 * v + j) := by rw [show (33 : Int32) = nI 33 from rfl, pk_mul, nI_add]
    rw [if_neg (fun z => by have := (gi_le (a := 33) (by omega) (by omega)).mp z; omega)]
    simp only [e1, gd_gI (gi_in (show 33 * v + j < 34320 by omega) (by omega : 34320 ≤ 100000)), gi_cl (show 33 * v + j ≤ 100000 by omega), gd_s1]
  · unfold B_M_findCut_26
    rw [if_pos (show (33 : Int32) ≤ nI 33 by decide)]
theorem rf_2 {W : Nat → Int32} {n : Nat} {σ : gS} (κ : gS → gR) (hk : rk W n σ) :
    ∃ s, gd_lp (fun _ _ => none) (B_M_findCut_2 κ) gd_N 0 σ = κ s ∧ (∀ v, v < n → gA s 59 v = 0 ∧ gA s 60 v = 0) ∧ (∀ k, k < 33 * n → gA s 58 k = 0) ∧ gd_fm ([], [58, 59, 60], []) σ s := by
  refine gd_it2 (I := fun m i s => ∃ j, j ≤ n ∧ m = n - j ∧ i = nI j ∧ (∀ v, v < j → gA s 59 v = 0 ∧ gA s 60 v = 0) ∧ (∀ k, k < 33 * j → gA s 58 k = 0) ∧ gd_fm ([], [58, 59, 60], []) σ s) (E := fun (r : gR) => ∃ s, r = κ s ∧ (∀ v, v < n → gA s 59 v = 0 ∧ gA s 60 v = 0) ∧ (∀ k, k < 33 * n → gA s 58 k = 0) ∧ gd_fm ([], [58, 59, 60], []) σ s) ?_ gd_N n 0 σ ⟨0, by omega, rfl, rfl, fun p hp => absurd hp (Nat.not_lt_zero p), fun k hk => absurd hk (by omega), gd_fm0 _ _⟩ (gd_Nlt (by have := hk.2.2.1; omega))
  rintro m i s ag ⟨j, hj, rfl, rfl, hq, hc, fr⟩
  obtain ⟨w1, hok, hn, s1, h57, h53, h55⟩ := rk_fm hk fr rfl
  unfold B_M_findCut_2
  rw [s1]
  by_cases hjn : j = n
  · subst hjn
    rw [if_pos ((gi_le (by omega) (by omega)).mpr (Nat.le_refl _))]
    exact Or.inr ⟨s, rfl, hq, hc, fr⟩
  · rw [if_neg (fun z => by have := (gi_le (by omega) (by omega)).mp z; omega), gd_gI (gi_in (show j < 1040 by omega) (by omega : 1040 ≤ 100000)), gd_s1, gd_gI (gi_in (show j < 1040 by omega) (by omega : 1040 ≤ 100000)), gd_s1, gd_j1, gi_cl (show j ≤ 100000 by omega), rf_26 _ _ (by omega), nI_1]
    refine Or.inl ⟨nI (j + 1), _, n - (j + 1), by omega, ⟨j + 1, by omega, rfl, rfl, fun v hv => ⟨?_, ?_⟩, fun k hk => ?_, gd_fmR (gd_fmA (gd_fmA fr rfl) rfl) rfl⟩, rfl⟩
    · show (if v = j then vp_nar .boolean 0 else gA s 59 v) = 0
      by_cases e : v = j
      · rw [if_pos e]; rfl
      · rw [if_neg e]; exact (hq v (by omega)).1
    · show (if v = j then vp_nar .boolean 0 else gA s 60 v) = 0
      by_cases e : v = j
      · rw [if_pos e]; rfl
      · rw [if_neg e]; exact (hq v (by omega)).2
    · show mc_put (gA s 58) (33 * j) 33 (fun _ => 0) k = 0
      unfold mc_put
      by_cases e : 33 * j ≤ k ∧ k < 33 * j + 33
      · rw [if_pos e]
      · rw [if_neg e]; exact hc k (by omega)
theorem rf_all {W : Nat → Int32} {n : Nat} {σ : gS} (hk : rk W n σ) : ∃ s, F_M_findCut σ = some (.inl none, s) ∧ (∀ p, p < n → gA s 56 p = nI (sp_i (sp_C W n p))) ∧ gI s 41 26 = nI (sp_n (sp_C W n) n) := by
  unfold F_M_findCut
  rw [gd_j1]
  have hn := hk.2.2.1
  obtain ⟨s1, g1, g2, g3, g4⟩ := rf_2 (fun (s14 : gS) => gd_i (F_M_search s14) fun r15 s16 => gd_j (α := gS → gR) (fun (s24 : gS) => gd_s (gs_I s24 41 26 0) fun s25 => gd_lp (fun _ _ => none) (B_M_findCut_86) gd_N 0 s25) fun k20 => gd_lp (fun _ _ => none) (B_M_findCut_61 k20) gd_N r15 s16) hk
  have hk1 := rk_fm hk g4 rfl
  have hb1 : rb W n s1 (fun _ => none) [] := by
    refine ⟨fun v hv => ?_, fun u hu v hv => ?_, fun v hv => ?_, fun v hv => (by cases hv), List.nodup_nil, ⟨fun v hv => (by cases hv), fun u v hv => (by cases hv), fun u v v' hv => (by cases hv), fun v hv => absurd rfl hv⟩, fun v hv => (by cases hv)⟩
    · rw [(g2 v hv).1, sp_of (fun z => z rfl)]
    · have : rbt (gA s1 58) u v = false := by
        unfold rbt
        rw [g3 _ (by omega)]
        exact (by decide : ∀ k, k < 32 → bb 0 k = false) _ (Nat.mod_lt _ (by omega))
      rw [this]
      exact ⟨fun z => (by cases z), fun z => (by cases z)⟩
    · rw [(g2 v hv).2, sp_of (fun z => by cases z)]
  obtain ⟨r2, s2, L2, f2, k1, k2, k3, k4⟩ := rs_all hk1 hb1
  have fr2 := K_M_search _ _ k1
  obtain ⟨s3, l1, l2, l3⟩ := rf_61 (fun (s24 : gS) => gd_s (gs_I s24 41 26 0) fun s25 => gd_lp (fun _ _ => none) (B_M_findCut_86) gd_N 0 s25) (rk_fm hk1 fr2 rfl) (rb_fm hb1 fr2 rfl) k2 k3 k4
  obtain ⟨b3, Z3, L3, f3, m1, m2, m3, m4⟩ := l2
  have hk3 := rk_fm (rk_fm hk1 fr2 rfl) l3 rfl
  obtain ⟨s4, n1, n2, n3⟩ := rf_86 (σ := gs_I s3 41 26 0) (n := n) (W := W) ⟨hk3.1, hk3.2.1, hk3.2.2.1, hk3.2.2.2.1, hk3.2.2.2.2.1, hk3.2.2.2.2.2.1, hk3.2.2.2.2.2.2⟩ rfl (fun p hp => by
    rw [rd_C m1 m2 m3 m4 p]
    show 2 * p ∈ L3 ∧ ¬ 2 * p + 1 ∈ L3 ↔ ¬ gA s3 61 (2 * p) = -1 ∧ gA s3 61 (2 * p + 1) = -1
    rw [m2.2.1 (2 * p) (by omega), m2.2.1 (2 * p + 1) (by omega)]
    constructor
    · rintro ⟨z1, z2⟩
      rw [if_pos z1, if_neg z2]
      exact ⟨gi_m1 (by have := (m2.2.2.2.1 _ z1).2.2; omega), rfl⟩
    · rintro ⟨z1, z2⟩
      refine ⟨Classical.byContradiction fun y => z1 (if_neg y), fun y => ?_⟩
      rw [if_pos y] at z2
      exact gi_m1 (by have := (m2.2.2.2.1 _ y).2.2; omega) z2)
  rw [g1, k1, gd_i1, gd_j1, l1, gd_s1, n1]
  exact ⟨s4, rfl, n2, n3⟩
