def mv (E : Nat → Nat → Prop) (b : fl_F) (y z : Nat) : Prop := (∃ v, y = 2 * v ∧ z = 2 * v + 1 ∧ b v = none) ∨ (∃ u v, y = 2 * v ∧ z = 2 * u + 1 ∧ b v = some (some u)) ∨ (∃ v, y = 2 * v + 1 ∧ z = 2 * v ∧ b v ≠ none) ∨ (∃ u v, y = 2 * u + 1 ∧ z = 2 * v ∧ E u v)
theorem mv_o {E : Nat → Nat → Prop} {b : fl_F} {y u : Nat} (h : mv E b y (2 * u + 1)) : (y = 2 * u ∧ b u = none) ∨ ∃ v, y = 2 * v ∧ b v = some (some u) := by
  rcases h with ⟨v, a, c, d⟩ | ⟨u', v, a, c, d⟩ | ⟨v, a, c, d⟩ | ⟨u', v, a, c, d⟩
  · have : v = u := by omega
    subst this; exact Or.inl ⟨a, d⟩
  · have : u' = u := by omega
    subst this; exact Or.inr ⟨v, a, d⟩
  · omega
  · omega
theorem mv_i {E : Nat → Nat → Prop} {b : fl_F} {y v : Nat} (h : mv E b y (2 * v)) : (y = 2 * v + 1 ∧ b v ≠ none) ∨ ∃ u, y = 2 * u + 1 ∧ E u v := by
  rcases h with ⟨v', a, c, d⟩ | ⟨u', v', a, c, d⟩ | ⟨v', a, c, d⟩ | ⟨u', v', a, c, d⟩
  · omega
  · omega
  · have : v' = v := by omega
    subst this; exact Or.inl ⟨a, d⟩
  · have : v' = v := by omega
    subst this; exact Or.inr ⟨u', a, d⟩
theorem mv_fi {E : Nat → Nat → Prop} {b : fl_F} {v z : Nat} (h : mv E b (2 * v) z) : (z = 2 * v + 1 ∧ b v = none) ∨ ∃ u, z = 2 * u + 1 ∧ b v = some (some u) := by
  rcases h with ⟨v', a, c, d⟩ | ⟨u', v', a, c, d⟩ | ⟨v', a, c, d⟩ | ⟨u', v', a, c, d⟩
  · have : v' = v := by omega
    subst this; exact Or.inl ⟨c, d⟩
  · have : v' = v := by omega
    subst this; exact Or.inr ⟨u', c, d⟩
  · omega
  · omega
theorem mv_fo {E : Nat → Nat → Prop} {b : fl_F} {u z : Nat} (h : mv E b (2 * u + 1) z) : (z = 2 * u ∧ b u ≠ none) ∨ ∃ v, z = 2 * v ∧ E u v := by
  rcases h with ⟨v', a, c, d⟩ | ⟨u', v', a, c, d⟩ | ⟨v', a, c, d⟩ | ⟨u', v', a, c, d⟩
  · omega
  · omega
  · have : v' = u := by omega
    subst this; exact Or.inl ⟨c, d⟩
  · have : u' = u := by omega
    subst this; exact Or.inr ⟨v', c, d⟩
def pth (E : Nat → Nat → Prop) (b : fl_F) (f : Nat → Nat) (s t : Nat) (D : List Nat) : Prop := D.Nodup ∧ D[0]? = some (2 * t + 1) ∧ D[D.length - 1]? = some (2 * s) ∧ (∀ k x y, D[k]? = some x → D[k + 1]? = some y → y = f x ∧ mv E b y x)
noncomputable def fl_u (b : fl_F) (f : Nat → Nat) (s : Nat) (D : List Nat) : fl_F := fun v => if 2 * v ∈ D then (if v = s then some none else if f (2 * v) = 2 * v + 1 then none else some (some (f (2 * v) / 2))) else b v
theorem pt_p {E : Nat → Nat → Prop} {b : fl_F} {f : Nat → Nat} {s t d : Nat} {D : List Nat} (h : pth E b f s t D) (hd : d ∈ D) (hs : d ≠ 2 * s) : f d ∈ D ∧ mv E b (f d) d := by
  obtain ⟨k, hk⟩ := List.mem_iff_getElem?.mp hd
  have hkl := (List.getElem?_eq_some_iff.mp hk).1
  by_cases e : k + 1 < D.length
  · have h1 : D[k + 1]? = some D[k + 1] := List.getElem?_eq_getElem e
    obtain ⟨a, c⟩ := h.2.2.2 k d _ hk h1
    rw [← a]
    exact ⟨List.mem_of_getElem? h1, c⟩
  · have : k = D.length - 1 := by omega
    rw [this, h.2.2.1] at hk
    exact absurd (Option.some.inj hk).symm hs
theorem pt_n {E : Nat → Nat → Prop} {b : fl_F} {f : Nat → Nat} {s t d : Nat} {D : List Nat} (h : pth E b f s t D) (hd : d ∈ D) (ht : d ≠ 2 * t + 1) : ∃ e, e ∈ D ∧ e ≠ 2 * s ∧ f e = d ∧ mv E b d e := by
  obtain ⟨k, hk⟩ := List.mem_iff_getElem?.mp hd
  have hkl := (List.getElem?_eq_some_iff.mp hk).1
  cases k with
  | zero =>
    rw [h.2.1] at hk
    exact absurd (Option.some.inj hk).symm ht
  | succ k =>
    have h1 : D[k]? = some D[k] := List.getElem?_eq_getElem (by omega)
    obtain ⟨a, c⟩ := h.2.2.2 k _ d h1 hk
    refine ⟨D[k], List.mem_of_getElem? h1, fun z => ?_, a.symm, c⟩
    rw [z] at h1
    have := (List.getElem?_inj (by omega : k < D.length) h.1).mp (h1.trans h.2.2.1.symm)
    omega
theorem pt_ij {E : Nat → Nat → Prop} {b : fl_F} {f : Nat → Nat} {s t d e : Nat} {D : List Nat} (h : pth E b f s t D) (hd : d ∈ D) (he : e ∈ D) (hs : d ≠ 2 * s) (hs2 : e ≠ 2 * s) (hf : f d = f e) : d = e := by
  obtain ⟨k, hk⟩ := List.mem_iff_getElem?.mp hd
  obtain ⟨l, hl⟩ := List.mem_iff_getElem?.mp he
  have hkl := (List.getElem?_eq_some_iff.mp hk).1
  have hll := (List.getElem?_eq_some_iff.mp hl).1
  have k1 : k + 1 < D.length := by
    by_cases z : k + 1 < D.length
    · exact z
    · have : k = D.length - 1 := by omega
      rw [this, h.2.2.1] at hk
      exact absurd (Option.some.inj hk).symm hs
  have l1 : l + 1 < D.length := by
    by_cases z : l + 1 < D.length
    · exact z
    · have : l = D.length - 1 := by omega
      rw [this, h.2.2.1] at hl
      exact absurd (Option.some.inj hl).symm hs2
  have a := (h.2.2.2 k d _ hk (List.getElem?_eq_getElem k1)).1
  have c := (h.2.2.2 l e _ hl (List.getElem?_eq_getElem l1)).1
  have : D[k + 1]? = D[l + 1]? := by rw [List.getElem?_eq_getElem k1, List.getElem?_eq_getElem l1, a, c, hf]
  have := (List.getElem?_inj k1 h.1).mp this
  have : k = l := by omega
  subst this
  rw [hk] at hl
  exact Option.some.inj hl
theorem pt_2 {E : Nat → Nat → Prop} {b : fl_F} {f : Nat → Nat} {s t d : Nat} {D : List Nat} (h : pth E b f s t D) (hd : d ∈ D) (hs : d ≠ 2 * s) (hs2 : f d ≠ 2 * s) (hf : f (f d) = d) : False := by
  obtain ⟨k, hk⟩ := List.mem_iff_getElem?.mp hd
  have hkl := (List.getElem?_eq_some_iff.mp hk).1
  have k1 : k + 1 < D.length := by
    by_cases z : k + 1 < D.length
    · exact z
    · have : k = D.length - 1 := by omega
      rw [this, h.2.2.1] at hk
      exact absurd (Option.some.inj hk).symm hs
  have a := (h.2.2.2 k d _ hk (List.getElem?_eq_getElem k1)).1
  have hk2 : D[k + 1]? = some (f d) := by rw [List.getElem?_eq_getElem k1, a]
  have k2 : k + 1 + 1 < D.length := by
    by_cases z : k + 1 + 1 < D.length
    · exact z
    · have : k + 1 = D.length - 1 := by omega
      rw [this, h.2.2.1] at hk2
      exact absurd (Option.some.inj hk2).symm hs2
  have c := (h.2.2.2 (k + 1) _ _ hk2 (List.getElem?_eq_getElem k2)).1
  have : D[k + 1 + 1]? = D[k]? := by rw [List.getElem?_eq_getElem k2, c, hf, hk]
  have := (List.getElem?_inj k2 h.1).mp this
  omega
theorem fl_un {b : fl_F} {f : Nat → Nat} {s v : Nat} {D : List Nat} : fl_u b f s D v = none ↔ (2 * v ∈ D ∧ v ≠ s ∧ f (2 * v) = 2 * v + 1) ∨ (2 * v ∉ D ∧ b v = none) := by
  unfold fl_u
  by_cases c : 2 * v ∈ D
  · rw [if_pos c]
    by_cases c1 : v = s
    · rw [if_pos c1]; subst c1; simp [c]
    · rw [if_neg c1]
      by_cases c2 : f (2 * v) = 2 * v + 1
      · rw [if_pos c2]; simp [c, c1, c2]
      · rw [if_neg c2]; simp [c, c1, c2]
  · rw [if_neg c]; simp [c]
theorem fl_us {b : fl_F} {f : Nat → Nat} {s v : Nat} {D : List Nat} : fl_u b f s D v = some none ↔ (2 * v ∈ D ∧ v = s) ∨ (2 * v ∉ D ∧ b v = some none) := by
  unfold fl_u
  by_cases c : 2 * v ∈ D
  · rw [if_pos c]
    by_cases c1 : v = s
    · rw [if_pos c1]; subst c1; simp [c]
    · rw [if_neg c1]
      by_cases c2 : f (2 * v) = 2 * v + 1
      · rw [if_pos c2]; simp [c, c1]
      · rw [if_neg c2]; simp [c, c1]
  · rw [if_neg c]; simp [c]
theorem fl_ud {E : Nat → Nat → Prop} {b : fl_F} {f : Nat → Nat} {s t u v : Nat} {D : List Nat} (h : pth E b f s t D) : fl_u b f s D v = some (some u) ↔ (2 * v ∈ D ∧ v ≠ s ∧ u ≠ v ∧ f (2 * v) = 2 * u + 1) ∨ (2 * v ∉ D ∧ b v = some (some u)) := by
  unfold fl_u
  by_cases c : 2 * v ∈ D
  · rw [if_pos c]
    by_cases c1 : v = s
    · rw [if_pos c1]; subst c1; simp [c]
    · rw [if_neg c1]
      have hm := pt_p h c (by omega)
      by_cases c2 : f (2 * v) = 2 * v + 1
      · rw [if_pos c2]; simp [c, c1, c2]; omega
      · rw [if_neg c2]
        rcases mv_i hm.2 with z | ⟨w, z, _⟩
        · exact absurd z.1 c2
        · rw [z]
          have : (2 * w + 1) / 2 = w := by omega
          rw [this]
          constructor
          · intro y
            have : w = u := by simpa using y
            subst this
            exact Or.inl ⟨c, c1, fun q => c2 (by rw [z, q]), rfl⟩
          · rintro (⟨_, _, _, y⟩ | y)
            · have : w = u := by omega
              rw [this]
            · exact absurd c y.1
  · rw [if_neg c]; simp [c]
theorem fl_aug {n : Nat} {E : Nat → Nat → Prop} {S T : Nat → Prop} {b : fl_F} (ok : fl_ok n E S T b) {f : Nat → Nat} {s t : Nat} {D : List Nat} (h : pth E b f s t D) (hs : S s ∧ s < n) (ht : T t) (hn : ∀ u v, E u v → v < n) : fl_ok n E S T (fl_u b f s D) := by
  have o1 := ok.1
  have o2 := ok.2.1
  have o3 := ok.2.2.1
  have o4 := ok.2.2.2
  have ex : ∀ v, b v ≠ none → ¬ (2 * v ∈ D ∧ v ≠ s ∧ f (2 * v) = 2 * v + 1) → T v ∨ ∃ w, fl_u b f s D w = some (some v) := by
    intro v hb hc
    rcases o4 v hb with z | ⟨w, hw⟩
    · exact Or.inl z
    · by_cases hP : 2 * w ∈ D
      · obtain ⟨e, he, hes, hfe, hm⟩ := pt_n h hP (by omega)
        have heo : e = 2 * v + 1 := by
          rcases mv_fi hm with ⟨_, z⟩ | ⟨u, a, z⟩
          · rw [hw] at z; cases z
          · rw [hw] at z
            have : v = u := by simpa using z
            rw [this]; exact a
        subst heo
        by_cases et : v = t
        · subst et; exact Or.inl ht
        · obtain ⟨e2, he2, hes2, hfe2, hm2⟩ := pt_n h he (by omega)
          rcases mv_fo hm2 with ⟨a, _⟩ | ⟨x, a, _⟩
          · subst a
            exact absurd ⟨he2, fun q => hes2 (by rw [q]), hfe2⟩ hc
          · subst a
            by_cases xv : x = v
            · subst xv
              exact absurd ⟨he2, fun q => hes2 (by rw [q]), hfe2⟩ hc
            · exact Or.inr ⟨x, (fl_ud h).mpr (Or.inl ⟨he2, fun q => hes2 (by rw [q]), fun q => xv q.symm, hfe2⟩)⟩
      · exact Or.inr ⟨w, (fl_ud h).mpr (Or.inr ⟨hP, hw⟩)⟩
  have outb : ∀ u, 2 * u + 1 ∈ D → (2 * u ∈ D ∧ b u = none ∧ f (2 * u + 1) = 2 * u) ∨ ∃ w, 2 * w ∈ D ∧ b w = some (some u) ∧ f (2 * u + 1) = 2 * w := by
    intro u hu
    obtain ⟨a, c⟩ := pt_p h hu (by omega)
    rcases mv_o c with ⟨z, y⟩ | ⟨w, z, y⟩
    · exact Or.inl ⟨z ▸ a, y, z⟩
    · exact Or.inr ⟨w, z ▸ a, y, z⟩
  refine ⟨fun v hv => ?_, fun u v hv => ?_, fun u v v' hv hv' => ?_, fun v hv => ?_⟩
  · rcases fl_us.mp hv with ⟨_, z⟩ | ⟨_, z⟩
    · rw [z]; exact ⟨hs.2, hs.1⟩
    · exact o1 v z
  · rcases (fl_ud h).mp hv with ⟨a, c, d, e⟩ | ⟨a, c⟩
    · obtain ⟨p1, p2⟩ := pt_p h a (by omega)
      have hE : E u v := by
        rcases mv_i p2 with ⟨z, _⟩ | ⟨w, z, y⟩
        · omega
        · have : w = u := by omega
          rw [← this]; exact y
      refine ⟨hn u v hE, hE, fun z => ?_⟩
      rw [e] at p1
      rcases fl_un.mp z with ⟨x1, x2, x3⟩ | ⟨x1, x2⟩
      · have := pt_ij h x1 a (by omega) (by omega) (x3.trans e.symm)
        omega
      · rcases outb u p1 with y | ⟨w, y1, y2, y3⟩
        · exact x1 y.1
        · exact (o2 u w y2).2.2 x2
    · refine ⟨(o2 u v c).1, (o2 u v c).2.1, fun z => ?_⟩
      rcases fl_un.mp z with ⟨x1, x2, x3⟩ | ⟨x1, x2⟩
      · have p1 := (pt_p h x1 (by omega)).1
        rw [x3] at p1
        rcases outb u p1 with y | ⟨w, y1, y2, y3⟩
        · exact (o2 u v c).2.2 y.2.1
        · exact a (o3 u w v y2 c ▸ y1)
      · exact (o2 u v c).2.2 x2
  · rcases (fl_ud h).mp hv with ⟨a, c, d, e⟩ | ⟨a, c⟩
    · rcases (fl_ud h).mp hv' with ⟨a', c', d', e'⟩ | ⟨a', c'⟩
      · have := pt_ij h a a' (by omega) (by omega) (e.trans e'.symm)
        omega
      · have p1 := (pt_p h a (by omega)).1
        rw [e] at p1
        rcases outb u p1 with y | ⟨w, y1, y2, y3⟩
        · exact absurd y.2.1 (o2 u v' c').2.2
        · exact absurd (o3 u w v' y2 c' ▸ y1) a'
    · rcases (fl_ud h).mp hv' with ⟨a', c', d', e'⟩ | ⟨a', c'⟩
      · have p1 := (pt_p h a' (by omega)).1
        rw [e'] at p1
        rcases outb u p1 with y | ⟨w, y1, y2, y3⟩
        · exact absurd y.2.1 (o2 u v c).2.2
        · exact absurd (o3 u w v y2 c ▸ y1) a
      · exact o3 u v v' c c'
  · have hv : ¬ fl_u b f s D v = none := hv
    rw [fl_un] at hv
    have hc : ¬ (2 * v ∈ D ∧ v ≠ s ∧ f (2 * v) = 2 * v + 1) := fun z => hv (Or.inl z)
    by_cases hP : 2 * v ∈ D
    · obtain ⟨e, he, hes, hfe, hm⟩ := pt_n h hP (by omega)
      rcases mv_fi hm with ⟨a, z⟩ | ⟨u, a, z⟩
      · subst a
        by_cases et : v = t
        · subst et; exact Or.inl ht
        · obtain ⟨e2, he2, hes2, hfe2, hm2⟩ := pt_n h he (by omega)
          rcases mv_fo hm2 with ⟨a, _⟩ | ⟨x, a, _⟩
          · subst a
            exact absurd ⟨he2, fun q => hes2 (by rw [q]), hfe2⟩ hc
          · subst a
            by_cases xv : x = v
            · subst xv
              exact absurd ⟨he2, fun q => hes2 (by rw [q]), hfe2⟩ hc
            · exact Or.inr ⟨x, (fl_ud h).mpr (Or.inl ⟨he2, fun q => hes2 (by rw [q]), fun q => xv q.symm, hfe2⟩)⟩
      · exact ex v (by rw [z]; simp) hc
    · exact ex v (fun z => hv (Or.inr ⟨hP, z⟩)) hc
theorem pth_ex {E : Nat → Nat → Prop} {b : fl_F} {f : Nat → Nat} {st : Nat → Prop} {L : List Nat} (hnd : L.Nodup) (hL : ∀ (i d : Nat), L[i]? = some d → (∃ s, d = 2 * s ∧ st s) ∨ ∃ j, j < i ∧ L[j]? = some (f d) ∧ mv E b (f d) d) :
    ∀ (N i d : Nat), i < N → L[i]? = some d → ∃ (s : Nat) (D : List Nat), st s ∧ D.Nodup ∧ D[0]? = some d ∧ D[D.length - 1]? = some (2 * s) ∧ (∀ k x y, D[k]? = some x → D[k + 1]? = some y → y = f x ∧ mv E b y x) ∧ (∀ x ∈ D, ∃ j, j ≤ i ∧ L[j]? = some x) := by
  intro N
  induction N with
  | zero => intro i d h; exact absurd h (Nat.not_lt_zero i)
  | succ N ih =>
    intro i d hi hd
    rcases hL i d hd with ⟨s, e, hs⟩ | ⟨j, hj, hfd, hm⟩
    · subst e
      refine ⟨s, [2 * s], hs, by simp, rfl, rfl, fun k x y _ h2 => by simp at h2, fun x hx => ⟨i, Nat.le_refl i, ?_⟩⟩
      have : x = 2 * s := by simpa using hx
      rw [this]; exact hd
    · obtain ⟨s, D, a1, a2, a3, a4, a5, a6⟩ := ih j (f d) (by omega) hfd
      have hl : 0 < D.length := (List.getElem?_eq_some_iff.mp a3).1
      refine ⟨s, d :: D, a1, List.nodup_cons.mpr ⟨fun z => ?_, a2⟩, rfl, ?_, fun k x y hx hy => ?_, fun x hx => ?_⟩
      · obtain ⟨l, hl, hl2⟩ := a6 d z
        have := (List.getElem?_inj (List.getElem?_eq_some_iff.mp hd).1 hnd).mp (hd.trans hl2.symm)
        omega
      · have : (d :: D).length - 1 = (D.length - 1) + 1 := by rw [List.length_cons]; omega
        rw [this, List.getElem?_cons_succ]; exact a4
      · rw [List.getElem?_cons_succ] at hy
        cases k with
        | zero =>
          rw [a3] at hy
          have e1 : d = x := by simpa using hx
          have e2 : f d = y := Option.some.inj hy
          rw [← e1, ← e2]
          exact ⟨rfl, hm⟩
        | succ k =>
          rw [List.getElem?_cons_succ] at hx
          exact a5 k x y hx hy
      · rcases List.mem_cons.mp hx with z | z
        · exact ⟨i, Nat.le_refl i, by rw [z]; exact hd⟩
        · obtain ⟨l, hl, hl2⟩ := a6 x z
          exact ⟨l, by omega, hl2⟩
