theorem gd_Nlt {m : Nat} (h : m ≤ 99999) : m < gd_N := by unfold gd_N; omega
theorem gd_i1 (r : Int32) (s : gS) (f : Int32 → gS → gR) : gd_i (some (.inl (some (.int r)), s)) f = f r s := rfl
theorem gd_l1 (r : Int64) (s : gS) (f : Int64 → gS → gR) : gd_l (some (.inl (some (.long r)), s)) f = f r s := rfl
theorem gd_01 (s : gS) (f : gS → gR) : gd_0 (some (.inl none, s)) f = f s := rfl
theorem gd_qi1 (r : Int32) (s : gS) (f : Int32 → gR) : gd_qi (some (.inl (some (.int r)))) s f = f r := rfl
theorem gd_ql1 (r : Int64) (s : gS) (f : Int64 → gR) : gd_ql (some (.inl (some (.long r)))) s f = f r := rfl
theorem gd_q01 (s : gS) (f : gR) : gd_q0 (some (.inl none)) s f = f := rfl
theorem gd_q02 (s : gS) (n : Nat) (f : gR) : gd_q0 (some (.inr n)) s f = some (.inr n, s) := rfl
theorem gd_pi1 (r : Int32) (f : Int32 → gP) : gd_pi (some (.inl (some (.int r)))) f = f r := rfl
theorem gd_pl1 (r : Int64) (f : Int64 → gP) : gd_pl (some (.inl (some (.long r)))) f = f r := rfl
theorem gd_p01 (f : gP) : gd_p0 (some (.inl none)) f = f := rfl
theorem gd_p02 (n : Nat) (f : gP) : gd_p0 (some (.inr n)) f = some (.inr n) := rfl
theorem gd_s1 {β : Type} (s : gS) (f : gS → β) : gd_s s f = f s := rfl
theorem gd_t1 {α β : Type} (a : α) (f : α → β) : gd_t a f = f a := rfl
theorem gd_j1 {α β : Type} (J : α) (b : α → β) : gd_j J b = b J := rfl
theorem gd_it1 {α ρ : Type} {z : α → ρ} {B : (α → ρ) → α → ρ} (I : Nat → α → Prop) (E : ρ → Prop) (step : ∀ m a ag, I m a → (∃ a' m', m' < m ∧ I m' a' ∧ B ag a = ag a') ∨ E (B ag a)) :
    ∀ n m a, I m a → m < n → E (gd_lp z B n a)
  | 0, m, _, _, h => absurd h (Nat.not_lt_zero _)
  | n + 1, m, a, hI, h => by
    show E (B (gd_lp z B n) a)
    rcases step m a (gd_lp z B n) hI with ⟨a', m', hm, hI', e⟩ | hE
    · rw [e]; exact gd_it1 I E step n m' a' hI' (by omega)
    · exact hE
theorem gd_it2 {α β ρ : Type} {z : α → β → ρ} {B : (α → β → ρ) → α → β → ρ} (I : Nat → α → β → Prop) (E : ρ → Prop) (step : ∀ m a b ag, I m a b → (∃ a' b' m', m' < m ∧ I m' a' b' ∧ B ag a b = ag a' b') ∨ E (B ag a b)) :
    ∀ n m a b, I m a b → m < n → E (gd_lp z B n a b)
  | 0, m, _, _, _, h => absurd h (Nat.not_lt_zero _)
  | n + 1, m, a, b, hI, h => by
    show E (B (gd_lp z B n) a b)
    rcases step m a b (gd_lp z B n) hI with ⟨a', b', m', hm, hI', e⟩ | hE
    · rw [e]; exact gd_it2 I E step n m' a' b' hI' (by omega)
    · exact hE
theorem gd_it3 {α β γ ρ : Type} {z : α → β → γ → ρ} {B : (α → β → γ → ρ) → α → β → γ → ρ} (I : Nat → α → β → γ → Prop) (E : ρ → Prop) (step : ∀ m a b c ag, I m a b c → (∃ a' b' c' m', m' < m ∧ I m' a' b' c' ∧ B ag a b c = ag a' b' c') ∨ E (B ag a b c)) :
    ∀ n m a b c, I m a b c → m < n → E (gd_lp z B n a b c)
  | 0, m, _, _, _, _, h => absurd h (Nat.not_lt_zero _)
  | n + 1, m, a, b, c, hI, h => by
    show E (B (gd_lp z B n) a b c)
    rcases step m a b c (gd_lp z B n) hI with ⟨a', b', c', m', hm, hI', e⟩ | hE
    · rw [e]; exact gd_it3 I E step n m' a' b' c' hI' (by omega)
    · exact hE
theorem gd_it4 {α β γ δ ρ : Type} {z : α → β → γ → δ → ρ} {B : (α → β → γ → δ → ρ) → α → β → γ → δ → ρ} (I : Nat → α → β → γ → δ → Prop) (E : ρ → Prop) (step : ∀ m a b c d ag, I m a b c d → (∃ a' b' c' d' m', m' < m ∧ I m' a' b' c' d' ∧ B ag a b c d = ag a' b' c' d') ∨ E (B ag a b c d)) :
    ∀ n m a b c d, I m a b c d → m < n → E (gd_lp z B n a b c d)
  | 0, m, _, _, _, _, _, h => absurd h (Nat.not_lt_zero _)
  | n + 1, m, a, b, c, d, hI, h => by
    show E (B (gd_lp z B n) a b c d)
    rcases step m a b c d (gd_lp z B n) hI with ⟨a', b', c', d', m', hm, hI', e⟩ | hE
    · rw [e]; exact gd_it4 I E step n m' a' b' c' d' hI' (by omega)
    · exact hE
theorem gd_it5 {α β γ δ ε ρ : Type} {z : α → β → γ → δ → ε → ρ} {B : (α → β → γ → δ → ε → ρ) → α → β → γ → δ → ε → ρ} (I : Nat → α → β → γ → δ → ε → Prop) (E : ρ → Prop) (step : ∀ m a b c d e ag, I m a b c d e → (∃ a' b' c' d' e' m', m' < m ∧ I m' a' b' c' d' e' ∧ B ag a b c d e = ag a' b' c' d' e') ∨ E (B ag a b c d e)) :
    ∀ n m a b c d e, I m a b c d e → m < n → E (gd_lp z B n a b c d e)
  | 0, m, _, _, _, _, _, _, h => absurd h (Nat.not_lt_zero _)
  | n + 1, m, a, b, c, d, e, hI, h => by
    show E (B (gd_lp z B n) a b c d e)
    rcases step m a b c d e (gd_lp z B n) hI with ⟨a', b', c', d', e', m', hm, hI', e⟩ | hE
    · rw [e]; exact gd_it5 I E step n m' a' b' c' d' e' hI' (by omega)
    · exact hE
