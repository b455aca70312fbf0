theorem ai_int {n : Nat} (h : n < 2147483648) : (Int32.ofNat n).toInt = n := Int32.toInt_ofNat_of_lt h
theorem ai_cl {n : Nat} (h : n < 2147483648) : (Int32.ofNat n).toNatClampNeg = n := Int32.toNatClampNeg_ofNat_of_lt h
theorem ai_le {a b : Nat} (ha : a < 2147483648) (hb : b < 2147483648) : Int32.ofNat a ≤ Int32.ofNat b ↔ a ≤ b := by
  rw [Int32.le_iff_toInt_le, ai_int ha, ai_int hb]; omega
theorem ai_lt {a b : Nat} (ha : a < 2147483648) (hb : b < 2147483648) : Int32.ofNat a < Int32.ofNat b ↔ a < b := by
  rw [Int32.lt_iff_toInt_lt, ai_int ha, ai_int hb]; omega
theorem ai_inj {a b : Nat} (ha : a < 2147483648) (hb : b < 2147483648) : Int32.ofNat a = Int32.ofNat b ↔ a = b := by
  rw [← Int32.toInt_inj, ai_int ha, ai_int hb]; omega
theorem ai_nn {a : Nat} (ha : a < 2147483648) : ¬ Int32.ofNat a < 0 := by
  rw [Int32.lt_iff_toInt_lt, ai_int ha]; have h0 : (0 : Int32).toInt = 0 := by decide
  omega
theorem ai_in {i n : Nat} (h : i < n) (hn : n ≤ 2147483648) : vp_in (Int32.ofNat i) n := by
  intro z
  rcases z with z | z
  · exact ai_nn (by omega) z
  · rw [ai_cl (by omega)] at z; omega
theorem ai_s (i : Nat) : Int32.ofNat i + 1 = Int32.ofNat (i + 1) := (Int32.ofNat_add i 1).symm
theorem ai_a (i j : Nat) : Int32.ofNat i + Int32.ofNat j = Int32.ofNat (i + j) := (Int32.ofNat_add i j).symm
theorem ai_of {x : Int32} (h : ¬ x < 0) : x = Int32.ofNat x.toNatClampNeg := (Int32.ofNat_toNatClampNeg x (by rw [Int32.le_iff_toInt_le]; rw [Int32.lt_iff_toInt_lt] at h; omega)).symm
theorem gv_upto {V : Nat → Prop} {n : Nat} (hend : V n) (hstep : ∀ i, i < n → V (i + 1) → V i) : ∀ i, i ≤ n → V i := by
  have key : ∀ d i, i + d = n → V i := by
    intro d
    induction d with
    | zero => intro i h; have : i = n := by omega
              subst this; exact hend
    | succ d ih => intro i h; exact hstep i (by omega) (ih (i + 1) (by omega))
  intro i hi
  exact key (n - i) i (by omega)
theorem gv_to {μ : gM} {k pc : Nat} {w : Bool} {ls ls' : List (Option Value)} {st : List Value} {σ σ' : gS} {Q : gQ → gS → Prop} (h : gv_V μ k w pc ls st σ Q) (e : σ' = σ) (e2 : ls' = ls) : gv_V μ k w pc ls' st σ' Q := by
  subst e; subst e2; exact h
theorem gv_fr {μ : gM} {k pc : Nat} {w : Bool} {ls ls' : List (Option Value)} {st : List Value} {σ σ' : gS} {Q : gQ → gS → Prop} (h : gv_V μ k false pc ls st σ Q) (e : σ' = σ) (e2 : ls' = ls) : gv_V μ k w pc ls' st σ' Q := by
  subst e; subst e2
  intro p l e R s m args below meth c D cA ad Z hC hE H locs cells slots sl _ hc hs hX hP hS hl
  exact h p l e R s m args below meth c D cA ad Z hC hE H locs cells slots sl (fun z => by cases z) hc hs hX hP hS hl
theorem gv_Kto {μ : gM} {As : List Value} {σ σ1 σ2 : gS} {o : gQ} (h : gv_K μ As σ (gv_is o σ1)) (e : σ1 = σ2) : gv_K μ As σ (gv_is o σ2) := by
  subst e; exact h
def gs_row (σ : gS) (p : Nat) (f : Nat → Int32) : gS := (σ.1, (fun q => if q = p then f else σ.2.1 q), σ.2.2)
def gs_rowL (σ : gS) (p : Nat) (f : Nat → Int64) : gS := (σ.1, σ.2.1, (fun q => if q = p then f else σ.2.2.1 q), σ.2.2.2)
theorem gI_row (σ : gS) (p : Nat) (f : Nat → Int32) (q j : Nat) : gI (gs_row σ p f) q j = gI σ q j := rfl
theorem gA_row (σ : gS) (p : Nat) (f : Nat → Int32) (q j : Nat) : gA (gs_row σ p f) q j = if q = p then f j else gA σ q j := by
  show (if q = p then f else σ.2.1 q) j = _
  split <;> rfl
theorem gL_row (σ : gS) (p : Nat) (f : Nat → Int32) (q j : Nat) : gL (gs_row σ p f) q j = gL σ q j := rfl
theorem gI_rowL (σ : gS) (p : Nat) (f : Nat → Int64) (q j : Nat) : gI (gs_rowL σ p f) q j = gI σ q j := rfl
theorem gA_rowL (σ : gS) (p : Nat) (f : Nat → Int64) (q j : Nat) : gA (gs_rowL σ p f) q j = gA σ q j := rfl
theorem gL_rowL (σ : gS) (p : Nat) (f : Nat → Int64) (q j : Nat) : gL (gs_rowL σ p f) q j = if q = p then f j else gL σ q j := by
  show (if q = p then f else σ.2.2.1 q) j = _
  split <;> rfl
theorem gx_I (σ : gS) (p k : Nat) (v : Int32) : (gs_I σ p k v).2.2.2 = σ.2.2.2 := rfl
theorem gx_A (σ : gS) (p k : Nat) (v : Int32) : (gs_A σ p k v).2.2.2 = σ.2.2.2 := rfl
theorem gx_L (σ : gS) (p k : Nat) (v : Int64) : (gs_L σ p k v).2.2.2 = σ.2.2.2 := rfl
theorem gx_row (σ : gS) (p : Nat) (f : Nat → Int32) : (gs_row σ p f).2.2.2 = σ.2.2.2 := rfl
theorem gx_rowL (σ : gS) (p : Nat) (f : Nat → Int64) : (gs_rowL σ p f).2.2.2 = σ.2.2.2 := rfl
theorem gs_rowA (σ : gS) (p j : Nat) (f g : Nat → Int32) (v : Int32) (h : ∀ i, g i = if i = j then v else f i) : gs_A (gs_row σ p f) p j v = gs_row σ p g := by
  refine Prod.ext rfl (Prod.ext ?_ rfl)
  funext q i
  show (if q = p then (if i = j then v else (if q = p then f else σ.2.1 q) i) else (if q = p then f else σ.2.1 q) i) = (if q = p then g else σ.2.1 q) i
  by_cases hq : q = p
  · simp only [hq, if_true, h i]
  · simp only [hq, if_false]
theorem gs_rowLL (σ : gS) (p j : Nat) (f g : Nat → Int64) (v : Int64) (h : ∀ i, g i = if i = j then v else f i) : gs_L (gs_rowL σ p f) p j v = gs_rowL σ p g := by
  refine Prod.ext rfl (Prod.ext rfl (Prod.ext ?_ rfl))
  funext q i
  show (if q = p then (if i = j then v else (if q = p then f else σ.2.2.1 q) i) else (if q = p then f else σ.2.2.1 q) i) = (if q = p then g else σ.2.2.1 q) i
  by_cases hq : q = p
  · simp only [hq, if_true, h i]
  · simp only [hq, if_false]
theorem gs_row0 (σ : gS) (p : Nat) (f : Nat → Int32) (h : ∀ i, f i = gA σ p i) : σ = gs_row σ p f := by
  refine Prod.ext rfl (Prod.ext ?_ rfl)
  funext q i
  show σ.2.1 q i = (if q = p then f else σ.2.1 q) i
  by_cases hq : q = p
  · subst hq; simp only [if_true]; exact (h i).symm
  · simp only [hq, if_false]
theorem gs_rowL0 (σ : gS) (p : Nat) (f : Nat → Int64) (h : ∀ i, f i = gL σ p i) : σ = gs_rowL σ p f := by
  refine Prod.ext rfl (Prod.ext rfl (Prod.ext ?_ rfl))
  funext q i
  show σ.2.2.1 q i = (if q = p then f else σ.2.2.1 q) i
  by_cases hq : q = p
  · subst hq; simp only [if_true]; exact (h i).symm
  · simp only [hq, if_false]
def f_fill (f : Nat → Int32) (a b : Nat) (v : Int32) : Nat → Int32 := fun j => if a ≤ j ∧ j < b then v else f j
def f_fillL (f : Nat → Int64) (a b : Nat) (v : Int64) : Nat → Int64 := fun j => if a ≤ j ∧ j < b then v else f j
theorem f_fill0 (f : Nat → Int32) (a : Nat) (v : Int32) (i : Nat) : f_fill f a a v i = f i := if_neg (by omega)
theorem f_fillL0 (f : Nat → Int64) (a : Nat) (v : Int64) (i : Nat) : f_fillL f a a v i = f i := if_neg (by omega)
theorem f_fill1 (f : Nat → Int32) {a b : Nat} (h : a ≤ b) (v : Int32) (i : Nat) : f_fill f a (b + 1) v i = if i = b then v else f_fill f a b v i := by
  unfold f_fill
  by_cases h1 : i = b
  · rw [if_pos h1, if_pos (by omega)]
  · rw [if_neg h1]
    by_cases h2 : a ≤ i ∧ i < b
    · rw [if_pos h2, if_pos (by omega)]
    · rw [if_neg h2, if_neg (by omega)]
theorem f_fillL1 (f : Nat → Int64) {a b : Nat} (h : a ≤ b) (v : Int64) (i : Nat) : f_fillL f a (b + 1) v i = if i = b then v else f_fillL f a b v i := by
  unfold f_fillL
  by_cases h1 : i = b
  · rw [if_pos h1, if_pos (by omega)]
  · rw [if_neg h1]
    by_cases h2 : a ≤ i ∧ i < b
    · rw [if_pos h2, if_pos (by omega)]
    · rw [if_neg h2, if_neg (by omega)]
