def bf_a (L : List Nat) (q : Nat) : List Nat := if q ∈ L then L else L ++ [q]
theorem bf_am {L : List Nat} {q x : Nat} : x ∈ bf_a L q ↔ x ∈ L ∨ x = q := by
  unfold bf_a
  split
  · constructor
    · exact Or.inl
    · rintro (h | h)
      · exact h
      · subst h; assumption
  · simp
theorem bf_and {L : List Nat} {q : Nat} (h : L.Nodup) : (bf_a L q).Nodup := by
  unfold bf_a
  split
  · exact h
  · rename_i hq
    rw [List.nodup_append]
    refine ⟨h, by simp, ?_⟩
    intro a ha b hb
    simp at hb
    subst hb
    intro z
    subst z
    exact hq ha
theorem bf_apre (L : List Nat) (q : Nat) : L <+: bf_a L q := by
  unfold bf_a
  split
  · exact List.prefix_refl L
  · exact List.prefix_append L [q]
def bf_n (L : List Nat) (qs : List Nat) : List Nat := qs.foldl bf_a L
theorem bf_nm {qs : List Nat} : ∀ {L : List Nat} {x : Nat}, x ∈ bf_n L qs ↔ x ∈ L ∨ x ∈ qs := by
  induction qs with
  | nil => intro L x; simp [bf_n]
  | cons q qs ih =>
    intro L x
    show x ∈ bf_n (bf_a L q) qs ↔ _
    rw [ih, bf_am, List.mem_cons, or_assoc]
theorem bf_nnd {qs : List Nat} : ∀ {L : List Nat}, L.Nodup → (bf_n L qs).Nodup := by
  induction qs with
  | nil => intro L h; exact h
  | cons q qs ih => intro L h; exact ih (bf_and h)
theorem bf_npre (qs : List Nat) : ∀ (L : List Nat), L <+: bf_n L qs := by
  induction qs with
  | nil => intro L; exact List.prefix_refl L
  | cons q qs ih => intro L; exact List.IsPrefix.trans (bf_apre L q) (ih (bf_a L q))
theorem bf_pre {L M : List Nat} (h : L <+: M) {i : Nat} (hi : i < L.length) : M[i]? = L[i]? := by
  obtain ⟨t, rfl⟩ := h
  exact List.getElem?_append_left hi
theorem bf_len {n : Nat} : ∀ {L : List Nat}, L.Nodup → (∀ x ∈ L, x < n) → L.length ≤ n := by
  induction n with
  | zero =>
    intro L _ h
    cases L with
    | nil => exact Nat.le_refl 0
    | cons a t => exact absurd (h a (List.mem_cons_self)) (Nat.not_lt_zero a)
  | succ n ih =>
    intro L hd h
    by_cases hn : n ∈ L
    · have h1 : (L.erase n).length = L.length - 1 := List.length_erase_of_mem hn
      have h2 := ih (L := L.erase n) (hd.erase n) (fun x hx => by
        have h3 := (List.Nodup.mem_erase_iff hd).mp hx
        have h4 := h x h3.2
        have h5 := h3.1
        omega)
      omega
    · have := ih hd (fun x hx => by
        have h4 := h x hx
        have : x ≠ n := fun z => hn (z ▸ hx)
        omega)
      omega
def bf (X : Nat → List Nat) : Nat → Nat → List Nat → List Nat
  | 0, _, L => L
  | f + 1, h, L => match L[h]? with
    | none => L
    | some p => bf X f (h + 1) (bf_n L (X p))
theorem bf_end {X : Nat → List Nat} {f h : Nat} {L : List Nat} (hl : L.length ≤ h) : bf X f h L = L := by
  cases f with
  | zero => rfl
  | succ f => simp only [bf, List.getElem?_eq_none hl]
theorem bf_step {X : Nat → List Nat} {f h p : Nat} {L : List Nat} (hp : L[h]? = some p) : bf X (f + 1) h L = bf X f (h + 1) (bf_n L (X p)) := by
  simp only [bf, hp]
def bf_r (X : Nat → List Nat) (S : Nat → Prop) (x : Nat) : Prop := ∀ P : Nat → Prop, (∀ x, S x → P x) → (∀ p q, P p → q ∈ X p → P q) → P x
theorem bf_rb {X : Nat → List Nat} {S : Nat → Prop} {x : Nat} (h : S x) : bf_r X S x := fun _ hb _ => hb x h
theorem bf_rs {X : Nat → List Nat} {S : Nat → Prop} {p q : Nat} (h : bf_r X S p) (hq : q ∈ X p) : bf_r X S q := fun P hb hs => hs p q (h P hb hs) hq
theorem bf_sound {X : Nat → List Nat} {S : Nat → Prop} : ∀ (f h : Nat) (L : List Nat), (∀ x ∈ L, bf_r X S x) → ∀ x ∈ bf X f h L, bf_r X S x := by
  intro f
  induction f with
  | zero => intro h L hL x hx; exact hL x hx
  | succ f ih =>
    intro h L hL x hx
    cases hp : L[h]? with
    | none => simp only [bf, hp] at hx; exact hL x hx
    | some p =>
      rw [bf_step hp] at hx
      refine ih (h + 1) _ (fun y hy => ?_) x hx
      rcases bf_nm.mp hy with hy | hy
      · exact hL y hy
      · exact bf_rs (hL p (List.mem_of_getElem? hp)) hy
theorem bf_comp {X : Nat → List Nat} {n : Nat} (hX : ∀ p, p < n → ∀ q ∈ X p, q < n) : ∀ (f h : Nat) (L : List Nat), L.Nodup → (∀ x ∈ L, x < n) → (∀ i p, i < h → L[i]? = some p → ∀ q ∈ X p, q ∈ L) → n < f + h → (bf X f h L).Nodup ∧ (∀ x ∈ bf X f h L, x < n) ∧ (∀ x ∈ L, x ∈ bf X f h L) ∧ ∀ p ∈ bf X f h L, ∀ q ∈ X p, q ∈ bf X f h L := by
  intro f
  induction f with
  | zero =>
    intro h L hd hb hc hf
    refine ⟨hd, hb, fun x hx => hx, fun p hp q hq => ?_⟩
    obtain ⟨i, hi⟩ := List.mem_iff_getElem?.mp hp
    have hi : L[i]? = some p := hi
    have hl := bf_len hd hb
    have h2 := (List.getElem?_eq_some_iff.mp hi).1
    exact hc i p (by omega) hi q hq
  | succ f ih =>
    intro h L hd hb hc hf
    cases hp : L[h]? with
    | none =>
      have hl : L.length ≤ h := List.getElem?_eq_none_iff.mp hp
      rw [bf_end hl]
      refine ⟨hd, hb, fun x hx => hx, fun p hp q hq => ?_⟩
      obtain ⟨i, hi⟩ := List.mem_iff_getElem?.mp hp
      have h2 := (List.getElem?_eq_some_iff.mp hi).1
      exact hc i p (by omega) hi q hq
    | some p =>
      rw [bf_step hp]
      have hpm := List.mem_of_getElem? hp
      have hpre := bf_npre (X p) L
      obtain ⟨a1, a2, a3, a4⟩ := ih (h + 1) (bf_n L (X p)) (bf_nnd hd) (fun x hx => by
        rcases bf_nm.mp hx with hx | hx
        · exact hb x hx
        · exact hX p (hb p hpm) x hx) (fun i p' hi hp' q hq => by
        have hlt : i < L.length := by
          have := (List.getElem?_eq_some_iff.mp hp).1
          omega
        rw [bf_pre hpre hlt] at hp'
        by_cases hih : i < h
        · exact bf_nm.mpr (Or.inl (hc i p' hih hp' q hq))
        · have : i = h := by omega
          subst this
          rw [hp] at hp'
          cases hp'
          exact bf_nm.mpr (Or.inr hq)) (by omega)
      exact ⟨a1, a2, fun x hx => a3 x (bf_nm.mpr (Or.inl hx)), a4⟩
theorem bf_all {X : Nat → List Nat} {S : Nat → Prop} {n : Nat} (hX : ∀ p, p < n → ∀ q ∈ X p, q < n) {L : List Nat} (hd : L.Nodup) (hb : ∀ x ∈ L, x < n) (hS : ∀ x, x ∈ L ↔ S x) (x : Nat) : x ∈ bf X (n + 1) 0 L ↔ bf_r X S x := by
  obtain ⟨-, -, a3, a4⟩ := bf_comp hX (n + 1) 0 L hd hb (fun i p hi => absurd hi (Nat.not_lt_zero i)) (by omega)
  constructor
  · exact bf_sound _ _ _ (fun y hy => bf_rb ((hS y).mp hy)) x
  · intro h
    exact h (fun x => x ∈ bf X (n + 1) 0 L) (fun x hx => a3 _ ((hS _).mpr hx)) (fun p q hp hq => a4 p hp q hq)
