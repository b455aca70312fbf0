noncomputable def fl_i (P : Prop) : Int := @ite Int P (Classical.propDecidable P) 1 0
theorem fl_it {P : Prop} (h : P) : fl_i P = 1 := if_pos h
theorem fl_if {P : Prop} (h : ¬ P) : fl_i P = 0 := if_neg h
def fl_s (f : Nat → Int) : Nat → Int
  | 0 => 0
  | n + 1 => fl_s f n + f n
theorem fl_s_congr {f g : Nat → Int} : ∀ {n : Nat}, (∀ i, i < n → f i = g i) → fl_s f n = fl_s g n
  | 0, _ => rfl
  | n + 1, h => by
    show fl_s f n + f n = fl_s g n + g n
    rw [fl_s_congr (fun i hi => h i (Nat.lt_succ_of_lt hi)), h n (Nat.lt_succ_self n)]
theorem fl_s_add (f g : Nat → Int) : ∀ n, fl_s (fun i => f i + g i) n = fl_s f n + fl_s g n
  | 0 => rfl
  | n + 1 => by
    show fl_s (fun i => f i + g i) n + (f n + g n) = (fl_s f n + f n) + (fl_s g n + g n)
    rw [fl_s_add f g n]; omega
theorem fl_s_le {f g : Nat → Int} : ∀ {n : Nat}, (∀ i, i < n → f i ≤ g i) → fl_s f n ≤ fl_s g n
  | 0, _ => Int.le_refl 0
  | n + 1, h => by
    have h1 := fl_s_le (fun i hi => h i (Nat.lt_succ_of_lt hi))
    have h2 := h n (Nat.lt_succ_self n)
    show fl_s f n + f n ≤ fl_s g n + g n
    omega
theorem fl_s_eq {f g : Nat → Int} : ∀ {n : Nat}, (∀ i, i < n → f i ≤ g i) → fl_s g n ≤ fl_s f n → ∀ i, i < n → f i = g i
  | 0, _, _, i, hi => absurd hi (Nat.not_lt_zero i)
  | n + 1, h, h2, i, hi => by
    have h3 : fl_s g n + g n ≤ fl_s f n + f n := h2
    have h4 := fl_s_le (fun i hi => h i (Nat.lt_succ_of_lt hi))
    have h5 := h n (Nat.lt_succ_self n)
    by_cases e : i = n
    · subst e; omega
    · exact fl_s_eq (fun i hi => h i (Nat.lt_succ_of_lt hi)) (by omega) i (by omega)
theorem fl_s_0 {f : Nat → Int} {n : Nat} (h : ∀ i, i < n → f i = 0) : fl_s f n = 0 := by
  rw [fl_s_congr (g := fun _ => 0) h]
  induction n with
  | zero => rfl
  | succ n ih =>
    show fl_s (fun _ => 0) n + 0 = 0
    rw [ih (fun i hi => h i (Nat.lt_succ_of_lt hi))]; rfl
theorem fl_s_1 {f : Nat → Int} {j : Nat} : ∀ {n : Nat}, j < n → (∀ i, i < n → i ≠ j → f i = 0) → fl_s f n = f j
  | 0, hj, _ => absurd hj (Nat.not_lt_zero j)
  | n + 1, hj, h => by
    show fl_s f n + f n = f j
    by_cases e : j = n
    · subst e
      rw [fl_s_0 (fun i hi => h i (Nat.lt_succ_of_lt hi) (Nat.ne_of_lt hi))]; omega
    · rw [fl_s_1 (by omega : j < n) (fun i hi hne => h i (Nat.lt_succ_of_lt hi) hne), h n (Nat.lt_succ_self n) (fun z => e z.symm)]; omega
theorem fl_s_swap (f : Nat → Nat → Int) (m : Nat) : ∀ n, fl_s (fun i => fl_s (fun j => f i j) m) n = fl_s (fun j => fl_s (fun i => f i j) n) m
  | 0 => (fl_s_0 (fun _ _ => rfl)).symm
  | n + 1 => by
    show fl_s (fun i => fl_s (fun j => f i j) m) n + fl_s (fun j => f n j) m = fl_s (fun j => fl_s (fun i => f i j) n + f n j) m
    rw [fl_s_swap f m n, fl_s_add]
abbrev fl_F : Type := Nat → Option (Option Nat)
def fl_ok (n : Nat) (E : Nat → Nat → Prop) (S T : Nat → Prop) (b : fl_F) : Prop :=
  (∀ v, b v = some none → v < n ∧ S v) ∧ (∀ u v, b v = some (some u) → v < n ∧ E u v ∧ b u ≠ none) ∧ (∀ u v v', b v = some (some u) → b v' = some (some u) → v = v') ∧ (∀ v, b v ≠ none → T v ∨ ∃ w, b w = some (some v))
def fl_cl (E : Nat → Nat → Prop) (S : Nat → Prop) (b : fl_F) (I O : Nat → Prop) : Prop :=
  (∀ v, S v → I v) ∧ (∀ v, I v → b v = none → O v) ∧ (∀ u v, O u → E u v → I v) ∧ (∀ u v, I v → b v = some (some u) → O u) ∧ (∀ v, O v → b v ≠ none → I v)
theorem fl_lt {n : Nat} {E : Nat → Nat → Prop} {S T : Nat → Prop} {b : fl_F} (h : fl_ok n E S T b) {v : Nat} (hv : b v ≠ none) : v < n := by
  cases hb : b v with
  | none => exact absurd hb hv
  | some x =>
    cases x with
    | none => exact (h.1 v hb).1
    | some u => exact (h.2.1 u v hb).1
noncomputable def fl_k (b : fl_F) (n : Nat) : Int := fl_s (fun v => fl_i (b v = some none)) n
noncomputable def fl_t (b : fl_F) (I O : Nat → Prop) (v : Nat) : Int := match b v with
  | none => 0
  | some _ => fl_i (I v) - fl_i (O v)
noncomputable def fl_a (b : fl_F) (I O : Nat → Prop) (v : Nat) : Int := match b v with
  | some (some u) => fl_i (O u) - fl_i (I v)
  | _ => 0
noncomputable def fl_m (b : fl_F) (O : Nat → Prop) (v u : Nat) : Int := fl_i (b v = some (some u)) * fl_i (O u)
theorem fl_m1 {b : fl_F} {O : Nat → Prop} {v u : Nat} (h : b v = some (some u)) : fl_m b O v u = fl_i (O u) := by
  unfold fl_m; rw [fl_it h, Int.one_mul]
theorem fl_m0 {b : fl_F} {O : Nat → Prop} {v u : Nat} (h : ¬ b v = some (some u)) : fl_m b O v u = 0 := by
  unfold fl_m; rw [fl_if h, Int.zero_mul]
noncomputable def fl_p (b : fl_F) (O : Nat → Prop) (v : Nat) : Int := match b v with
  | some (some u) => fl_i (O u)
  | _ => 0
noncomputable def fl_o (b : fl_F) (O : Nat → Prop) (v : Nat) : Int := match b v with
  | none => 0
  | some _ => fl_i (O v)
theorem fl_net {n : Nat} {E : Nat → Nat → Prop} {S T : Nat → Prop} {b : fl_F} (h : fl_ok n E S T b) {I O : Nat → Prop} (hS : ∀ v, S v → I v) (hT : ∀ v, T v → ¬ O v) :
    fl_k b n = fl_s (fl_t b I O) n + fl_s (fl_a b I O) n := by
  have hM : fl_s (fl_p b O) n = fl_s (fl_o b O) n := by
    have e1 : ∀ v, v < n → fl_p b O v = fl_s (fun u => fl_m b O v u) n := by
      intro v hv
      unfold fl_p
      cases hb : b v with
      | none => exact (fl_s_0 (fun u _ => fl_m0 (by rw [hb]; simp))).symm
      | some x =>
        cases x with
        | none => exact (fl_s_0 (fun u _ => fl_m0 (by rw [hb]; simp))).symm
        | some u =>
          have hu : u < n := fl_lt h (h.2.1 u v hb).2.2
          have e2 : fl_s (fun u => fl_m b O v u) n = fl_m b O v u := fl_s_1 hu (fun i _ hne => fl_m0 (by rw [hb]; simp; exact fun z => hne z.symm))
          rw [e2, fl_m1 hb]
    rw [fl_s_congr e1, fl_s_swap]
    refine fl_s_congr fun u hu => ?_
    unfold fl_o
    cases hb : b u with
    | none => exact fl_s_0 fun v _ => fl_m0 fun z => (h.2.1 u v z).2.2 hb
    | some x =>
      by_cases hw : ∃ w, b w = some (some u)
      · obtain ⟨w, hw⟩ := hw
        have e2 : fl_s (fun i => fl_m b O i u) n = fl_m b O w u := fl_s_1 (h.2.1 u w hw).1 (fun i _ hne => fl_m0 fun z => hne (h.2.2.1 u i w z hw))
        rw [e2, fl_m1 hw]
      · have hTu : T u := by
          rcases h.2.2.2 u (by rw [hb]; simp) with z | z
          · exact z
          · exact absurd z hw
        show _ = fl_i (O u)
        rw [fl_if (hT u hTu)]
        exact fl_s_0 fun v _ => fl_m0 fun z => hw ⟨v, z⟩
  have hq : ∀ v, v < n → fl_t b I O v + fl_a b I O v + fl_o b O v = fl_i (b v = some none) + fl_p b O v := by
    intro v _
    unfold fl_t fl_a fl_o fl_p
    cases hb : b v with
    | none => rw [fl_if (P := (none : Option (Option Nat)) = some none) (by simp)]; rfl
    | some x =>
      cases x with
      | none =>
        rw [fl_it (P := (some none : Option (Option Nat)) = some none) rfl]
        show fl_i (I v) - fl_i (O v) + 0 + fl_i (O v) = 1 + 0
        rw [fl_it (hS v (h.1 v hb).2)]; omega
      | some u =>
        rw [fl_if (P := (some (some u) : Option (Option Nat)) = some none) (by simp)]
        show fl_i (I v) - fl_i (O v) + (fl_i (O u) - fl_i (I v)) + fl_i (O v) = 0 + fl_i (O u)
        omega
  have h1 := fl_s_congr hq
  rw [fl_s_add (fun v => fl_t b I O v + fl_a b I O v), fl_s_add (fl_t b I O), fl_s_add (fun v => fl_i (b v = some none)), hM] at h1
  unfold fl_k
  omega
theorem fl_bd (P : Prop) : 0 ≤ fl_i P ∧ fl_i P ≤ 1 := by
  by_cases h : P
  · rw [fl_it h]; omega
  · rw [fl_if h]; omega
theorem fl_cut {n : Nat} {E : Nat → Nat → Prop} {S T : Nat → Prop} {b : fl_F} (h : fl_ok n E S T b) {I O : Nat → Prop} (hc : fl_cl E S b I O) (hT : ∀ v, T v → ¬ O v) :
    fl_k b n = fl_s (fun v => fl_i (b v ≠ none ∧ I v ∧ ¬ O v)) n := by
  rw [fl_net h hc.1 hT]
  have h1 : fl_s (fl_a b I O) n = 0 := fl_s_0 fun v _ => by
    unfold fl_a
    cases hb : b v with
    | none => rfl
    | some x =>
      cases x with
      | none => rfl
      | some u =>
        show fl_i (O u) - fl_i (I v) = 0
        by_cases z : O u
        · rw [fl_it z, fl_it (hc.2.2.1 u v z (h.2.1 u v hb).2.1)]; rfl
        · rw [fl_if z, fl_if (fun y => z (hc.2.2.2.1 u v y hb))]; rfl
  have h2 : fl_s (fl_t b I O) n = fl_s (fun v => fl_i (b v ≠ none ∧ I v ∧ ¬ O v)) n := fl_s_congr fun v _ => by
    unfold fl_t
    cases hb : b v with
    | none => rw [fl_if (P := ((none : Option (Option Nat)) ≠ none ∧ I v ∧ ¬ O v)) (by simp)]
    | some x =>
      show fl_i (I v) - fl_i (O v) = _
      by_cases z : O v
      · rw [fl_it z, fl_it (hc.2.2.2.2 v z (by rw [hb]; simp)), fl_if (fun y => y.2.2 z)]; rfl
      · by_cases y : I v
        · rw [fl_it y, fl_if z, fl_it ⟨by simp, y, z⟩]; rfl
        · rw [fl_if y, fl_if z, fl_if (fun q => y q.2.1)]; rfl
  rw [h1, h2]; omega
theorem fl_weak {n : Nat} {E : Nat → Nat → Prop} {S T : Nat → Prop} {b1 b2 : fl_F} (h2 : fl_ok n E S T b2) {I O : Nat → Prop} (hc : fl_cl E S b1 I O) (hT : ∀ v, T v → ¬ O v) :
    fl_k b2 n ≤ fl_s (fun v => fl_i (b1 v ≠ none ∧ I v ∧ ¬ O v)) n := by
  rw [fl_net h2 hc.1 hT, ← fl_s_add]
  refine fl_s_le fun v _ => ?_
  have ha : fl_a b2 I O v ≤ 0 := by
    unfold fl_a
    cases hb : b2 v with
    | none => exact Int.le_refl 0
    | some x =>
      cases x with
      | none => exact Int.le_refl 0
      | some u =>
        show fl_i (O u) - fl_i (I v) ≤ 0
        by_cases z : O u
        · rw [fl_it z, fl_it (hc.2.2.1 u v z (h2.2.1 u v hb).2.1)]; omega
        · rw [fl_if z]; have := fl_bd (I v); omega
  have ht : fl_t b2 I O v ≤ fl_i (b1 v ≠ none ∧ I v ∧ ¬ O v) := by
    unfold fl_t
    have hb0 := fl_bd (b1 v ≠ none ∧ I v ∧ ¬ O v)
    cases hb : b2 v with
    | none => exact hb0.1
    | some x =>
      show fl_i (I v) - fl_i (O v) ≤ _
      by_cases z : O v
      · rw [fl_it z]; have := fl_bd (I v); omega
      · by_cases y : I v
        · have h1 : b1 v ≠ none := fun q => z (hc.2.1 v y q)
          rw [fl_it y, fl_if z, fl_it (P := (b1 v ≠ none ∧ I v ∧ ¬ O v)) ⟨h1, y, z⟩]; omega
        · rw [fl_if y, fl_if z]; omega
  omega
theorem fl_also {n : Nat} {E : Nat → Nat → Prop} {S T : Nat → Prop} {b1 b2 : fl_F} (h1 : fl_ok n E S T b1) (h2 : fl_ok n E S T b2) {I O : Nat → Prop} (hc : fl_cl E S b1 I O) (hT : ∀ v, T v → ¬ O v) (hn : ∀ v, I v → v < n) (hk : fl_k b1 n ≤ fl_k b2 n) : fl_cl E S b2 I O := by
  have e1 := fl_cut h1 hc hT
  have e2 := fl_net h2 hc.1 hT
  rw [← fl_s_add] at e2
  have ha : ∀ v, fl_a b2 I O v ≤ 0 := fun v => by
    unfold fl_a
    cases hb : b2 v with
    | none => exact Int.le_refl 0
    | some x =>
      cases x with
      | none => exact Int.le_refl 0
      | some u =>
        show fl_i (O u) - fl_i (I v) ≤ 0
        by_cases z : O u
        · rw [fl_it z, fl_it (hc.2.2.1 u v z (h2.2.1 u v hb).2.1)]; omega
        · rw [fl_if z]; have := fl_bd (I v); omega
  have ht : ∀ v, fl_t b2 I O v ≤ fl_i (b1 v ≠ none ∧ I v ∧ ¬ O v) := fun v => by
    unfold fl_t
    have hb0 := fl_bd (b1 v ≠ none ∧ I v ∧ ¬ O v)
    cases hb : b2 v with
    | none => exact hb0.1
    | some x =>
      show fl_i (I v) - fl_i (O v) ≤ _
      by_cases z : O v
      · rw [fl_it z]; have := fl_bd (I v); omega
      · by_cases y : I v
        · have h1 : b1 v ≠ none := fun q => z (hc.2.1 v y q)
          rw [fl_it y, fl_if z, fl_it (P := (b1 v ≠ none ∧ I v ∧ ¬ O v)) ⟨h1, y, z⟩]; omega
        · rw [fl_if y, fl_if z]; omega
  have key : ∀ v, v < n → fl_t b2 I O v + fl_a b2 I O v = fl_i (b1 v ≠ none ∧ I v ∧ ¬ O v) :=
    fl_s_eq (fun v _ => by have := ha v; have := ht v; omega) (by rw [← e1, ← e2]; exact hk)
  have key2 : ∀ v, v < n → fl_t b2 I O v = fl_i (b1 v ≠ none ∧ I v ∧ ¬ O v) ∧ fl_a b2 I O v = 0 := fun v hv => by
    have := key v hv; have := ha v; have := ht v
    constructor <;> omega
  refine ⟨hc.1, fun v hI hb => ?_, hc.2.2.1, fun u v hI hb => ?_, fun v hO hb => ?_⟩
  · by_cases z : O v
    · exact z
    · exfalso
      have h3 := (key2 v (hn v hI)).1
      have h4 : b1 v ≠ none := fun q => z (hc.2.1 v hI q)
      rw [fl_it ⟨h4, hI, z⟩] at h3
      unfold fl_t at h3
      rw [hb] at h3
      have h5 : (0 : Int) = 1 := h3
      omega
  · by_cases z : O u
    · exact z
    · exfalso
      have h3 := (key2 v (hn v hI)).2
      unfold fl_a at h3
      rw [hb] at h3
      have h4 : fl_i (O u) - fl_i (I v) = 0 := h3
      rw [fl_if z, fl_it hI] at h4
      omega
  · by_cases z : I v
    · exact z
    · exfalso
      have h3 := (key2 v (fl_lt h2 hb)).1
      rw [fl_if (fun q => z q.2.1)] at h3
      unfold fl_t at h3
      cases hb2 : b2 v with
      | none => exact hb hb2
      | some x =>
        rw [hb2] at h3
        have h4 : fl_i (I v) - fl_i (O v) = 0 := h3
        rw [fl_if z, fl_it hO] at h4
        omega
theorem fl_one {n : Nat} {E : Nat → Nat → Prop} {S T : Nat → Prop} {b1 b2 : fl_F} (h1 : fl_ok n E S T b1) (h2 : fl_ok n E S T b2) {I1 O1 I2 O2 : Nat → Prop} (c1 : fl_cl E S b1 I1 O1) (c2 : fl_cl E S b2 I2 O2) (t1 : ∀ v, T v → ¬ O1 v) (t2 : ∀ v, T v → ¬ O2 v)
    (n1 : ∀ v, I1 v → v < n) (n2 : ∀ v, I2 v → v < n) (m1 : ∀ I O, fl_cl E S b1 I O → ∀ v, (I1 v → I v) ∧ (O1 v → O v)) (m2 : ∀ I O, fl_cl E S b2 I O → ∀ v, (I2 v → I v) ∧ (O2 v → O v)) : ∀ v, (I1 v ↔ I2 v) ∧ (O1 v ↔ O2 v) := by
  have k1 : fl_k b2 n ≤ fl_k b1 n := by rw [fl_cut h1 c1 t1]; exact fl_weak h2 c1 t1
  have k2 : fl_k b1 n ≤ fl_k b2 n := by rw [fl_cut h2 c2 t2]; exact fl_weak h1 c2 t2
  have a1 := fl_also h1 h2 c1 t1 n1 k2
  have a2 := fl_also h2 h1 c2 t2 n2 k1
  intro v
  exact ⟨⟨(m1 I2 O2 a2 v).1, (m2 I1 O1 a1 v).1⟩, ⟨(m1 I2 O2 a2 v).2, (m2 I1 O1 a1 v).2⟩⟩
