theorem fm_A {V : gW} {σ s : gS} (h : gd_fm V σ s) {p : Nat} (hp : V.2.1.contains p = false) : gA s p = gA σ p := by
  funext j
  exact h.2.1 p (fun z => by rw [List.contains_iff_mem.mpr z] at hp; cases hp) j
theorem fm_L {V : gW} {σ s : gS} (h : gd_fm V σ s) {p : Nat} (hp : V.2.2.contains p = false) : gL s p = gL σ p := by
  funext j
  exact h.2.2.1 p (fun z => by rw [List.contains_iff_mem.mpr z] at hp; cases hp) j
theorem fm_I {V : gW} {σ s : gS} (h : gd_fm V σ s) {p k : Nat} (hp : V.1.contains (p, k) = false) : gI s p k = gI σ p k :=
  h.1 p k (fun z => by rw [List.contains_iff_mem.mpr z] at hp; cases hp)
def fm_dis (V : gW) (I : List (Nat × Nat)) (A : List Nat) (L : List Nat) : Bool := I.all (fun x => !V.1.contains x) && (A.all (fun x => !V.2.1.contains x) && L.all (fun x => !V.2.2.contains x))
def gd_sm (I : List (Nat × Nat)) (A L : List Nat) (σ s : gS) : Prop := (∀ x ∈ I, gI s x.1 x.2 = gI σ x.1 x.2) ∧ (∀ p ∈ A, gA s p = gA σ p) ∧ ∀ p ∈ L, gL s p = gL σ p
theorem fm_sm {V : gW} {σ s : gS} {I : List (Nat × Nat)} {A L : List Nat} (h : gd_fm V σ s) (hd : fm_dis V I A L = true) : gd_sm I A L σ s := by
  simp only [fm_dis, Bool.and_eq_true, List.all_eq_true, Bool.not_eq_true'] at hd
  exact ⟨fun x hx => fm_I h (hd.1 x hx), fun p hp => fm_A h (hd.2.1 p hp), fun p hp => fm_L h (hd.2.2 p hp)⟩
theorem rD_sm {n : Nat} {σ s : gS} (h : rD n σ) (g : gd_sm [(2, 7)] [3, 4, 5, 6, 7, 8, 9, 42] [] σ s) : rD n s :=
  rD_of h (g.1 (2, 7) (by decide)) (g.2.1 3 (by decide)) (g.2.1 4 (by decide)) (g.2.1 5 (by decide)) (g.2.1 6 (by decide)) (g.2.1 7 (by decide)) (g.2.1 8 (by decide)) (g.2.1 9 (by decide)) (g.2.1 42 (by decide))
def mc_ok (n : Nat) (m : mS) : Prop := m.1 ≤ n ∧ m.2.1 0 = 0 ∧ m.2.2.2.2 ≤ 2048
theorem mc_gll {W : Nat → Int32} {n p : Nat} (hok : sp_ok W n) (hn : n ≤ 1040) (hp : p < n) (hk : sp_k W p = 5) (x y : Int32) : mc_gl W p x y ≤ n := by
  obtain ⟨t, ht, et⟩ := sp_tgt hok hn hp (Or.inl hk)
  have e1 : sp_t W p = nI t := by unfold sp_t; rw [if_pos (show sp_k W p = 5 ∨ sp_k W p = 6 from Or.inl hk)]; exact et
  unfold mc_gl
  rw [e1, gi_cl (by omega)]
  split <;> omega
theorem mc_set0 {m : mS} {r : Nat} {v : Int32} (h : m.2.1 0 = 0) : (mc_set m r v).2.1 0 = 0 := by
  show (if 0 = r ∧ ¬ r = 0 then v else m.2.1 0) = 0
  rw [if_neg (fun z => z.2 z.1.symm)]
  exact h
theorem mc_sok {W : Nat → Int32} {n : Nat} {m : mS} (hok : sp_ok W n) (hn : n ≤ 1040) (h : mc_ok n m) (hp : m.1 < n) (hc : m.2.2.2.2 ≤ 2046) : mc_ok n (mc_step W m) := by
  obtain ⟨h1, h2, h3⟩ := h
  have e0 : (mc_go m (m.1 + 1)).2.1 0 = 0 := h2
  unfold mc_step
  by_cases k0 : sp_k W m.1 = 0
  · rw [if_pos k0]
    unfold mc_s0
    split
    · refine ⟨show m.1 + 1 ≤ n by omega, mc_set0 ?_, show m.2.2.2.2 + 1 + 1 ≤ 2048 by omega⟩
      exact h2
    · exact ⟨show m.1 + 1 ≤ n by omega, mc_set0 e0, show m.2.2.2.2 ≤ 2048 by omega⟩
  rw [if_neg k0]
  by_cases k1 : sp_k W m.1 = 1
  · rw [if_pos k1]; exact ⟨show m.1 + 1 ≤ n by omega, mc_set0 e0, show m.2.2.2.2 ≤ 2048 by omega⟩
  rw [if_neg k1]
  by_cases k2 : sp_k W m.1 = 2
  · rw [if_pos k2]; exact ⟨show m.1 + 1 ≤ n by omega, mc_set0 e0, show m.2.2.2.2 ≤ 2048 by omega⟩
  rw [if_neg k2]
  by_cases k3 : sp_k W m.1 = 3
  · rw [if_pos k3]; exact ⟨show m.1 + 1 ≤ n by omega, mc_set0 (m := mc_tell (mc_go m (m.1 + 1)) 1 (mc_x W m + mc_n W m)) h2, show m.2.2.2.2 + 1 ≤ 2048 by omega⟩
  rw [if_neg k3]
  by_cases k4 : sp_k W m.1 = 4
  · rw [if_pos k4]; exact ⟨show m.1 + 1 ≤ n by omega, h2, show m.2.2.2.2 + 1 ≤ 2048 by omega⟩
  rw [if_neg k4]
  by_cases k5 : sp_k W m.1 = 5
  · rw [if_pos k5]; exact ⟨mc_gll hok hn hp k5 _ _, h2, show m.2.2.2.2 + 1 ≤ 2048 by omega⟩
  rw [if_neg k5]
  by_cases k6 : sp_k W m.1 = 6
  · rw [if_pos k6]
    obtain ⟨t, ht, et⟩ := sp_tgt hok hn hp (Or.inr k6)
    have e1 : sp_t W m.1 = nI t := by unfold sp_t; rw [if_pos (show sp_k W m.1 = 5 ∨ sp_k W m.1 = 6 from Or.inr k6)]; exact et
    rw [e1, gi_cl (by omega)]
    exact ⟨ht, h2, show m.2.2.2.2 + 1 ≤ 2048 by omega⟩
  rw [if_neg k6]
  exact ⟨show m.1 + 1 ≤ n by omega, h2, show m.2.2.2.2 ≤ 2048 by omega⟩
abbrev mc_can (W : Nat → Int32) (n : Nat) (m : mS) : Prop := m.1 < n ∧ ¬ sp_k W m.1 = 8 ∧ m.2.2.2.2 ≤ 2046
noncomputable def mc_run (W : Nat → Int32) (n : Nat) : Nat → mS → Nat × mS
  | 0, m => (0, m)
  | t + 1, m => if mc_can W n m then ((mc_run W n t (mc_step W m)).1 + 1, (mc_run W n t (mc_step W m)).2) else (0, m)
theorem mc_runT {W : Nat → Int32} {n t : Nat} {m : mS} (h : mc_can W n m) : mc_run W n (t + 1) m = ((mc_run W n t (mc_step W m)).1 + 1, (mc_run W n t (mc_step W m)).2) := if_pos h
theorem mc_runF {W : Nat → Int32} {n t : Nat} {m : mS} (h : ¬ mc_can W n m) : mc_run W n t m = (0, m) := by
  cases t with
  | zero => rfl
  | succ t => exact if_neg h
theorem st_room {σ : gS} {m : mS} (h : aC σ m) (hc : m.2.2.2.2 ≤ 2048) : R_Leaks_hasRoom σ = some (.inl (some (.int (if m.2.2.2.2 ≤ 2046 then 1 else 0)))) := by
  unfold R_Leaks_hasRoom
  rw [h.2.2.2.1]
  by_cases z : m.2.2.2.2 ≤ 2046
  · rw [if_neg (fun y => by have := (gi_lt (a := 2046) (by omega) (by omega)).mp y; omega), if_pos z]
  · rw [if_pos (show (2046 : Int32) < nI m.2.2.2.2 from (gi_lt (a := 2046) (by omega) (by omega)).mpr (by omega)), if_neg z]
theorem st_can {W : Nat → Int32} {n : Nat} {σ : gS} {m : mS} (hW : gA σ 42 = W) (hD : rD n σ) (h : aC σ m) (hm : mc_ok n m) : R_Machine_canRun σ = some (.inl (some (.int (if mc_can W n m then 1 else 0)))) := by
  obtain ⟨d1, hn, hok, hr⟩ := hD
  obtain ⟨h1, h2, h3⟩ := hm
  unfold R_Machine_canRun
  rw [h.1, d1, if_neg (nI_pos (by omega))]
  by_cases z : m.1 < n
  · have q3 := (hr m.1 z).1
    rw [hW] at q3
    rw [if_neg (fun y => by have := (gi_le (by omega) (by omega)).mp y; omega), gd_gI (gi_in (by omega) (by omega)), gi_cl (by omega), q3]
    by_cases k8 : sp_k W m.1 = 8
    · rw [if_pos k8, if_neg (show ¬ mc_can W n m from fun y => y.2.1 k8)]
    · rw [if_neg k8, st_room h h3, gd_pi1]
      by_cases c : m.2.2.2.2 ≤ 2046
      · rw [if_pos c, if_neg (by decide), if_pos (show mc_can W n m from ⟨z, k8, c⟩)]
      · rw [if_neg c, if_pos rfl, if_neg (show ¬ mc_can W n m from fun y => c y.2.2)]
  · rw [if_pos ((gi_le (by omega) (by omega)).mpr (by omega)), if_neg (show ¬ mc_can W n m from fun y => z y.1)]
theorem st_crun {W : Nat → Int32} {n : Nat} {σ : gS} {m : mS} (hW : gA σ 42 = W) (hD : rD n σ) (h : aC σ m) (hm : mc_ok n m) {t : Nat} (ht : t ≤ 1000) :
    ∃ σ', F_Machine_runInOrder (nI t) σ = some (.inl (some (.int (nI (mc_run W n t m).1))), σ') ∧ aC σ' (mc_run W n t m).2 ∧ mc_ok n (mc_run W n t m).2 := by
  unfold F_Machine_runInOrder
  refine gd_it2 (I := fun r i s => ∃ j m1, j ≤ t ∧ r = t - j ∧ i = nI j ∧ gA s 42 = W ∧ rD n s ∧ aC s m1 ∧ mc_ok n m1 ∧ mc_run W n t m = (j + (mc_run W n (t - j) m1).1, (mc_run W n (t - j) m1).2)) (E := fun (r : gR) => ∃ σ', r = some (.inl (some (.int (nI (mc_run W n t m).1))), σ') ∧ aC σ' (mc_run W n t m).2 ∧ mc_ok n (mc_run W n t m).2) ?_ gd_N t 0 σ ⟨0, m, by omega, rfl, rfl, hW, hD, h, hm, by rw [Nat.sub_zero, Nat.zero_add]⟩ (gd_Nlt (by omega))
  rintro r i s ag ⟨j, m1, hj, rfl, rfl, w1, d1, a1, o1, e⟩
  unfold B_Machine_runInOrder_2
  by_cases hjt : j = t
  · subst hjt
    rw [if_pos ((gi_le (by omega) (by omega)).mpr (Nat.le_refl j))]
    rw [Nat.sub_self] at e
    rw [e]
    exact Or.inr ⟨s, rfl, a1, o1⟩
  rw [if_neg (fun z => by have := (gi_le (by omega) (by omega)).mp z; omega), st_can w1 d1 a1 o1, gd_qi1]
  by_cases c : mc_can W n m1
  · rw [if_pos c, if_neg (by decide)]
    have hn := d1.2.1
    have hok := d1.2.2.1
    rw [w1] at hok
    obtain ⟨s', f1, f2⟩ := st_cstep w1 d1 a1 o1.2.1 c.1 c.2.2
    have fr := K_Machine_step s _ f1
    rw [f1, gd_01]
    refine Or.inl ⟨nI (j + 1), s', t - (j + 1), by omega, ⟨j + 1, mc_step W m1, by omega, rfl, rfl, (fm_A fr rfl).trans w1, rD_sm d1 (fm_sm fr rfl), f2, mc_sok hok hn o1 c.1 c.2.2, ?_⟩, by rw [nI_1]⟩
    rw [e, show t - j = (t - (j + 1)) + 1 by omega, mc_runT c]
    show (j + ((mc_run W n (t - (j + 1)) (mc_step W m1)).1 + 1), _) = (j + 1 + _, _)
    rw [show j + ((mc_run W n (t - (j + 1)) (mc_step W m1)).1 + 1) = j + 1 + (mc_run W n (t - (j + 1)) (mc_step W m1)).1 by omega]
  · rw [if_neg c, if_pos rfl]
    rw [mc_runF c] at e
    rw [e]
    exact Or.inr ⟨s, rfl, a1, o1⟩
theorem st_rrun {W : Nat → Int32} {n : Nat} {σ : gS} {m : mS} (hW : gA σ 42 = W) (hok : sp_ok W n) (hn : n ≤ 1040) (hs : gI σ 41 2 = nI n) (h0 : gI σ 41 0 = 0) (h : aR σ m) (hm : mc_ok n m) {t : Nat} (ht : t ≤ 1000) :
    ∃ σ', gd_lp (fun _ _ => none) (B_M_run_40 (nI t)) gd_N 0 σ = some (.inl (some (.int (nI (mc_run W n t m).1))), σ') ∧ aR σ' (mc_run W n t m).2 ∧ gd_fm W_M_runOne σ σ' := by
  refine gd_it2 (I := fun r i s => ∃ j m1, j ≤ t ∧ r = t - j ∧ i = nI j ∧ gd_fm W_M_runOne σ s ∧ aR s m1 ∧ mc_ok n m1 ∧ mc_run W n t m = (j + (mc_run W n (t - j) m1).1, (mc_run W n (t - j) m1).2)) (E := fun (r : gR) => ∃ σ', r = some (.inl (some (.int (nI (mc_run W n t m).1))), σ') ∧ aR σ' (mc_run W n t m).2 ∧ gd_fm W_M_runOne σ σ') ?_ gd_N t 0 σ ⟨0, m, by omega, rfl, rfl, gd_fm0 _ _, h, hm, by rw [Nat.sub_zero, Nat.zero_add]⟩ (gd_Nlt (by omega))
  rintro r i s ag ⟨j, m1, hj, rfl, rfl, fr0, a1, o1, e⟩
  have w1 : gA s 42 = W := (fm_A fr0 rfl).trans hW
  have s1 : gI s 41 2 = nI n := (fm_I fr0 rfl).trans hs
  have t1 : gI s 41 0 = 0 := (fm_I fr0 rfl).trans h0
  obtain ⟨p1, p2, p3⟩ := o1
  unfold B_M_run_40
  rw [t1, if_pos rfl]
  by_cases hjt : j = t
  · subst hjt
    rw [if_pos ((gi_le (by omega) (by omega)).mpr (Nat.le_refl j))]
    rw [Nat.sub_self] at e
    rw [e]
    exact Or.inr ⟨s, rfl, a1, fr0⟩
  rw [if_neg (fun z => by have := (gi_le (by omega) (by omega)).mp z; omega), s1, a1.1, a1.2.2.2.1]
  by_cases z : m1.1 < n
  · rw [if_neg (fun y => by have := (gi_le (by omega) (by omega)).mp y; omega), br_kindN (by omega), gd_qi1, w1]
    by_cases k8 : sp_k W m1.1 = 8
    · rw [if_pos k8]
      rw [mc_runF (fun y => y.2.1 k8)] at e
      rw [e]
      exact Or.inr ⟨s, rfl, a1, fr0⟩
    · rw [if_neg k8]
      by_cases c : m1.2.2.2.2 ≤ 2046
      · rw [if_neg (fun y => by have := (gi_lt (a := 2046) (by omega) (by omega)).mp y; omega)]
        obtain ⟨s', f1, f2⟩ := st_rstep w1 hok hn a1 z c
        have fr := K_M_runOne s _ f1
        rw [f1, gd_01]
        refine Or.inl ⟨nI (j + 1), s', t - (j + 1), by omega, ⟨j + 1, mc_step W m1, by omega, rfl, rfl, gd_fmT (gd_sbI rfl) fr0 fr, f2, mc_sok hok hn ⟨p1, p2, p3⟩ z c, ?_⟩, by rw [nI_1]⟩
        rw [e, show t - j = (t - (j + 1)) + 1 by omega, mc_runT ⟨z, k8, c⟩]
        show (j + ((mc_run W n (t - (j + 1)) (mc_step W m1)).1 + 1), _) = (j + 1 + _, _)
        rw [show j + ((mc_run W n (t - (j + 1)) (mc_step W m1)).1 + 1) = j + 1 + (mc_run W n (t - (j + 1)) (mc_step W m1)).1 by omega]
      · rw [if_pos (show (2046 : Int32) < nI m1.2.2.2.2 from (gi_lt (a := 2046) (by omega) (by omega)).mpr (by omega))]
        rw [mc_runF (fun y => c y.2.2)] at e
        rw [e]
        exact Or.inr ⟨s, rfl, a1, fr0⟩
  · rw [if_pos ((gi_le (by omega) (by omega)).mpr (by omega))]
    rw [mc_runF (fun y => z y.1)] at e
    rw [e]
    exact Or.inr ⟨s, rfl, a1, fr0⟩
