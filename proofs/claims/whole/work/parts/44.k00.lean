abbrev gW : Type := List (Nat × Nat) × List Nat × List Nat
def gd_fm (W : gW) (σ s : gS) : Prop := (∀ p k, (p, k) ∉ W.1 → gI s p k = gI σ p k) ∧ (∀ p, p ∉ W.2.1 → ∀ j, gA s p j = gA σ p j) ∧ (∀ p, p ∉ W.2.2 → ∀ j, gL s p j = gL σ p j) ∧ s.2.2.2 = σ.2.2.2
def gd_sb (V W : gW) : Prop := (∀ x ∈ V.1, x ∈ W.1) ∧ (∀ x ∈ V.2.1, x ∈ W.2.1) ∧ ∀ x ∈ V.2.2, x ∈ W.2.2
def gd_sbb (V W : gW) : Bool := V.1.all (fun x => W.1.contains x) && (V.2.1.all (fun x => W.2.1.contains x) && V.2.2.all (fun x => W.2.2.contains x))
theorem gd_sbI {V W : gW} (h : gd_sbb V W = true) : gd_sb V W := by
  simp only [gd_sbb, Bool.and_eq_true, List.all_eq_true, List.contains_iff_mem] at h
  exact ⟨h.1, h.2.1, h.2.2⟩
theorem gd_fm0 (W : gW) (σ : gS) : gd_fm W σ σ := ⟨fun _ _ _ => rfl, fun _ _ _ => rfl, fun _ _ _ => rfl, rfl⟩
theorem gd_fmT {V W : gW} {σ s t : gS} (hs : gd_sb V W) (h : gd_fm W σ s) (g : gd_fm V s t) : gd_fm W σ t :=
  ⟨fun p k hp => (g.1 p k fun z => hp (hs.1 _ z)).trans (h.1 p k hp), fun p hp j => (g.2.1 p (fun z => hp (hs.2.1 _ z)) j).trans (h.2.1 p hp j), fun p hp j => (g.2.2.1 p (fun z => hp (hs.2.2 _ z)) j).trans (h.2.2.1 p hp j), g.2.2.2.trans h.2.2.2⟩
theorem gd_fmI {W : gW} {σ s : gS} {p k : Nat} {v : Int32} (h : gd_fm W σ s) (hm : W.1.contains (p, k) = true) : gd_fm W σ (gs_I s p k v) :=
  ⟨fun q j hq => by
    rw [gI_I]
    by_cases h1 : q = p
    · by_cases h2 : j = k
      · subst h1; subst h2; exact absurd (List.contains_iff_mem.mp hm) hq
      · rw [if_pos h1, if_neg h2]; exact h.1 q j hq
    · rw [if_neg h1]; exact h.1 q j hq, h.2.1, h.2.2.1, h.2.2.2⟩
theorem gd_fmA {W : gW} {σ s : gS} {p k : Nat} {v : Int32} (h : gd_fm W σ s) (hm : W.2.1.contains p = true) : gd_fm W σ (gs_A s p k v) :=
  ⟨h.1, fun q hq j => by
    have hne : q ≠ p := fun z => hq (by rw [z]; exact List.contains_iff_mem.mp hm)
    rw [gA_A, if_neg hne]; exact h.2.1 q hq j, h.2.2.1, h.2.2.2⟩
theorem gd_fmL {W : gW} {σ s : gS} {p k : Nat} {v : Int64} (h : gd_fm W σ s) (hm : W.2.2.contains p = true) : gd_fm W σ (gs_L s p k v) :=
  ⟨h.1, h.2.1, fun q hq j => by
    have hne : q ≠ p := fun z => hq (by rw [z]; exact List.contains_iff_mem.mp hm)
    rw [gL_L, if_neg hne]; exact h.2.2.1 q hq j, h.2.2.2⟩
theorem gd_fmR {W : gW} {σ s : gS} {p : Nat} {g : Nat → Int32} (h : gd_fm W σ s) (hm : W.2.1.contains p = true) : gd_fm W σ (gs_row s p g) :=
  ⟨h.1, fun q hq j => by
    have hne : q ≠ p := fun z => hq (by rw [z]; exact List.contains_iff_mem.mp hm)
    rw [gA_row, if_neg hne]; exact h.2.1 q hq j, h.2.2.1, h.2.2.2⟩
theorem gd_fmRL {W : gW} {σ s : gS} {p : Nat} {g : Nat → Int64} (h : gd_fm W σ s) (hm : W.2.2.contains p = true) : gd_fm W σ (gs_rowL s p g) :=
  ⟨h.1, h.2.1, fun q hq j => by
    have hne : q ≠ p := fun z => hq (by rw [z]; exact List.contains_iff_mem.mp hm)
    rw [gL_rowL, if_neg hne]; exact h.2.2.1 q hq j, h.2.2.2⟩
theorem gd_ks {s : gS} {f : gS → gR} {r : gQ × gS} {C : gS → Prop} {G : Prop} (hc : C s) (h : gd_s s f = some r) (kk : ∀ s', C s' → f s' = some r → G) : G := kk s hc h
theorem gd_kt {α : Type} {x : α} {f : α → gR} {r : gQ × gS} {G : Prop} (h : gd_t x f = some r) (kk : ∀ v, f v = some r → G) : G := kk x h
theorem gd_ki {c : Prop} {i : Decidable c} {x y : gR} {r : gQ × gS} {G : Prop} (h : @ite gR c i x y = some r) (h1 : x = some r → G) (h2 : y = some r → G) : G := by
  by_cases hc : c
  · rw [if_pos hc] at h; exact h1 h
  · rw [if_neg hc] at h; exact h2 h
theorem gd_ke {W : gW} {σ s : gS} {o : gQ} {r : gQ × gS} (hf : gd_fm W σ s) (h : (some (o, s) : gR) = some r) : gd_fm W σ r.2 := by cases h; exact hf
theorem gd_kci {W V : gW} {σ s : gS} {x : gR} {f : Int32 → gS → gR} {r : gQ × gS} (hf : gd_fm W σ s) (hK : ∀ r1, x = some r1 → gd_fm V s r1.2) (hs : gd_sbb V W = true) (h : gd_i x f = some r) (kk : ∀ a s', gd_fm W σ s' → f a s' = some r → gd_fm W σ r.2) : gd_fm W σ r.2 := by
  match x, hK, h with
  | some (.inl (some (.int a)), s'), hK, h => exact kk a s' (gd_fmT (gd_sbI hs) hf (hK _ rfl)) h
  | some (.inr m, s'), hK, h => exact gd_ke (gd_fmT (gd_sbI hs) hf (hK _ rfl)) h
theorem gd_kcl {W V : gW} {σ s : gS} {x : gR} {f : Int64 → gS → gR} {r : gQ × gS} (hf : gd_fm W σ s) (hK : ∀ r1, x = some r1 → gd_fm V s r1.2) (hs : gd_sbb V W = true) (h : gd_l x f = some r) (kk : ∀ a s', gd_fm W σ s' → f a s' = some r → gd_fm W σ r.2) : gd_fm W σ r.2 := by
  match x, hK, h with
  | some (.inl (some (.long a)), s'), hK, h => exact kk a s' (gd_fmT (gd_sbI hs) hf (hK _ rfl)) h
  | some (.inr m, s'), hK, h => exact gd_ke (gd_fmT (gd_sbI hs) hf (hK _ rfl)) h
theorem gd_kc0 {W V : gW} {σ s : gS} {x : gR} {f : gS → gR} {r : gQ × gS} (hf : gd_fm W σ s) (hK : ∀ r1, x = some r1 → gd_fm V s r1.2) (hs : gd_sbb V W = true) (h : gd_0 x f = some r) (kk : ∀ s', gd_fm W σ s' → f s' = some r → gd_fm W σ r.2) : gd_fm W σ r.2 := by
  match x, hK, h with
  | some (.inl none, s'), hK, h => exact kk s' (gd_fmT (gd_sbI hs) hf (hK _ rfl)) h
  | some (.inr m, s'), hK, h => exact gd_ke (gd_fmT (gd_sbI hs) hf (hK _ rfl)) h
theorem gd_kqi {W : gW} {σ s : gS} {x : gP} {f : Int32 → gR} {r : gQ × gS} (hf : gd_fm W σ s) (h : gd_qi x s f = some r) (kk : ∀ a, f a = some r → gd_fm W σ r.2) : gd_fm W σ r.2 := by
  match x, h with
  | some (.inl (some (.int a))), h => exact kk a h
  | some (.inr m), h => exact gd_ke hf h
theorem gd_kql {W : gW} {σ s : gS} {x : gP} {f : Int64 → gR} {r : gQ × gS} (hf : gd_fm W σ s) (h : gd_ql x s f = some r) (kk : ∀ a, f a = some r → gd_fm W σ r.2) : gd_fm W σ r.2 := by
  match x, h with
  | some (.inl (some (.long a))), h => exact kk a h
  | some (.inr m), h => exact gd_ke hf h
theorem gd_kq0 {W : gW} {σ s : gS} {x : gP} {f : gR} {r : gQ × gS} (hf : gd_fm W σ s) (h : gd_q0 x s f = some r) (kk : f = some r → gd_fm W σ r.2) : gd_fm W σ r.2 := by
  match x, h with
  | some (.inl none), h => exact kk h
  | some (.inr m), h => exact gd_ke hf h
