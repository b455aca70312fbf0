noncomputable def sp_i (P : Prop) : Nat := @ite Nat P (Classical.propDecidable P) 1 0
theorem sp_it {P : Prop} (h : P) : sp_i P = 1 := if_pos h
theorem sp_if {P : Prop} (h : ¬ P) : sp_i P = 0 := if_neg h
noncomputable def sp_n (P : Nat → Prop) : Nat → Nat
  | 0 => 0
  | n + 1 => sp_n P n + sp_i (P n)
theorem sp_n_le (P : Nat → Prop) : ∀ n, sp_n P n ≤ n
  | 0 => Nat.le_refl 0
  | n + 1 => by
    have h := sp_n_le P n
    have h2 : sp_i (P n) ≤ 1 := by
      by_cases z : P n
      · rw [sp_it z]; exact Nat.le_refl 1
      · rw [sp_if z]; exact Nat.zero_le 1
    show sp_n P n + sp_i (P n) ≤ n + 1
    omega
theorem sp_n_congr {P Q : Nat → Prop} : ∀ {n : Nat}, (∀ i, i < n → (P i ↔ Q i)) → sp_n P n = sp_n Q n
  | 0, _ => rfl
  | n + 1, h => by
    have h1 := sp_n_congr (n := n) (fun i hi => h i (Nat.lt_succ_of_lt hi))
    have h2 : sp_i (P n) = sp_i (Q n) := by
      by_cases z : P n
      · rw [sp_it z, sp_it ((h n (Nat.lt_succ_self n)).mp z)]
      · rw [sp_if z, sp_if (fun y => z ((h n (Nat.lt_succ_self n)).mpr y))]
    show sp_n P n + sp_i (P n) = sp_n Q n + sp_i (Q n)
    rw [h1, h2]
abbrev sp_k (W : Nat → Int32) (p : Nat) : Int32 := f_M_kindOf (W p)
def sp_r (W : Nat → Int32) (p : Nat) : Int32 := if 3 < sp_k W p then 0 else f_M_d (W p)
def sp_a (W : Nat → Int32) (p : Nat) : Int32 := if sp_k W p = 0 ∨ sp_k W p = 1 ∨ sp_k W p = 3 ∨ sp_k W p = 4 ∨ sp_k W p = 5 then f_M_a (W p) else -1
def sp_b (W : Nat → Int32) (p : Nat) : Int32 := if sp_k W p = 0 ∨ sp_k W p = 4 ∨ sp_k W p = 5 then f_M_b (W p) else -1
def sp_t (W : Nat → Int32) (p : Nat) : Int32 := if sp_k W p = 5 ∨ sp_k W p = 6 then nI p + f_M_offset (W p) / 4 else -1
def sp_ok (W : Nat → Int32) (n : Nat) : Prop := ∀ p, p < n → f_fo (W p) (nI p) (nI n) = 0
def sp_x (W : Nat → Int32) (n : Nat) (p q : Nat) : Prop := q < n ∧ ((¬ sp_k W p = 6 ∧ ¬ sp_k W p = 8 ∧ q = p + 1) ∨ ((sp_k W p = 5 ∨ sp_k W p = 6) ∧ nI q = sp_t W p))
def sp_g (W : Nat → Int32) (n q : Nat) : Prop := ∀ P : Nat → Prop, (∀ p q, p < n → sp_k W p = 5 → sp_x W n p q → P q) → (∀ p q, P p → ¬ sp_k W p = 7 → sp_x W n p q → P q) → P q
def sp_s (W : Nat → Int32) (n v q : Nat) : Prop := ∀ P : Nat → Prop, (∀ q, sp_x W n v q → P q) → (∀ p q, P p → ¬ sp_k W p = 7 → ¬ sp_r W p = sp_r W v → sp_x W n p q → P q) → P q
def sp_c (W : Nat → Int32) (n v p : Nat) : Prop := ¬ sp_r W v = 0 ∧ sp_s W n v p ∧ (sp_a W p = sp_r W v ∨ sp_b W p = sp_r W v)
def sp_T (W : Nat → Int32) (n u : Nat) : Prop := ∀ P : Nat → Prop, (∀ p, p < n → sp_k W p = 3 → sp_g W n p → ¬ sp_r W p = 0 → P p) → (∀ v u, P v → sp_c W n v u → (sp_k W u = 0 ∨ sp_k W u = 1) → ¬ sp_r W u = 0 → P u) → P u
def sp_B (W : Nat → Int32) (p : Nat) (r : Int32) : Prop := ((sp_k W p = 3 ∨ sp_k W p = 4) ∧ f_M_a (W p) = r) ∨ ((sp_k W p = 5 ∨ f_M_isDivision (W p) = 1) ∧ (f_M_a (W p) = r ∨ f_M_b (W p) = r))
def sp_X (W : Nat → Int32) (n u : Nat) : Prop := ∃ v, sp_T W n v ∧ sp_c W n v u ∧ sp_B W u (sp_r W v)
def sp_e (W : Nat → Int32) (n v : Nat) : Prop := sp_T W n v ∧ ∃ u, sp_c W n v u ∧ sp_B W u (sp_r W v)
def sp_E (W : Nat → Int32) (n v u : Nat) : Prop := sp_T W n v ∧ sp_c W n v u ∧ (sp_k W u = 0 ∨ sp_k W u = 1) ∧ ¬ sp_r W u = 0
def sp_S (W : Nat → Int32) (n v : Nat) : Prop := sp_T W n v ∧ sp_k W v = 3
def sp_C (W : Nat → Int32) (n v : Nat) : Prop := ∃ (b : fl_F) (I O : Nat → Prop), fl_ok n (sp_E W n) (sp_S W n) (sp_e W n) b ∧ fl_cl (sp_E W n) (sp_S W n) b I O ∧ (∀ v, sp_e W n v → ¬ O v) ∧ (∀ v, I v → v < n) ∧ (∀ I' O', fl_cl (sp_E W n) (sp_S W n) b I' O' → ∀ v, (I v → I' v) ∧ (O v → O' v)) ∧ I v ∧ ¬ O v
