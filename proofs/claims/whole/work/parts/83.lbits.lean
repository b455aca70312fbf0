theorem kn_all {W : Nat → Int32} {n : Nat} {σ : gS} (hW : gA σ 42 = W) (hok : sp_ok W n) (hn : n ≤ 1040) (h2 : gI σ 41 2 = nI n) (h : rSR n σ) : ∃ s, F_M_know σ = some (.inl none, s) ∧ gI s 41 20 = 1 ∧ rSR n s := by
  unfold F_M_know
  rcases h.1.2 with h0 | h1
  · rw [if_pos h0]
    obtain ⟨s1, a1, a2⟩ := fg_all hW hok hn h2
    have f1 := K_M_findGuessed _ _ a1
    rw [a1, gd_01, gd_j1]
    obtain ⟨s2, b1, b2, f2⟩ := kn_reach (σ := s1) (fun (s7 : gS) => gd_0 (F_M_findTaint s7) fun s8 => gd_0 (F_M_findExposed s8) fun s9 => gd_0 (F_M_findCut s9) fun s10 => gd_s (gs_I s10 41 20 1) fun s11 => some (.inl none, s11)) ((fm_A f1 rfl).trans hW) hok hn ((fm_I f1 rfl).trans h2)
    have w2 : gA s2 42 = W := (fm_A f2 rfl).trans ((fm_A f1 rfl).trans hW)
    have z2 : gI s2 41 2 = nI n := (fm_I f2 rfl).trans ((fm_I f1 rfl).trans h2)
    obtain ⟨s3, c1, c2⟩ := ti_all w2 hok hn z2 (by rw [fm_A f2 (p := 52) rfl]; exact a2) b2
    have f3 := K_M_findTaint _ _ c1
    have w3 : gA s3 42 = W := (fm_A f3 rfl).trans w2
    have z3 : gI s3 41 2 = nI n := (fm_I f3 rfl).trans z2
    obtain ⟨s4, d1, d2⟩ := ex_all w3 hn z3 (by rw [fm_A f3 (p := 57) rfl]; exact b2) c2
    have f4 := K_M_findExposed _ _ d1
    have w4 : gA s4 42 = W := (fm_A f4 rfl).trans w3
    have z4 : gI s4 41 2 = nI n := (fm_I f4 rfl).trans z3
    obtain ⟨s5, e1, e2, e3⟩ := rf_all (σ := s4) (W := W) (n := n) ⟨w4, hok, hn, z4, by rw [fm_A f4 (p := 57) rfl, fm_A f3 (p := 57) rfl]; exact b2, by rw [fm_A f4 (p := 53) rfl]; exact c2, d2.2.1⟩
    have f5 := K_M_findCut _ _ e1
    rw [b1, c1, gd_01, d1, gd_01, e1, gd_01, gd_s1]
    have w5 : gA s5 42 = W := (fm_A f5 rfl).trans w4
    have k6 : gI s5 41 6 = -1 := by rw [fm_I f5 (p := 41) (k := 6) rfl, fm_I f4 (p := 41) (k := 6) rfl, fm_I f3 (p := 41) (k := 6) rfl, fm_I f2 (p := 41) (k := 6) rfl, fm_I f1 (p := 41) (k := 6) rfl]; exact h.1.1
    refine ⟨_, rfl, rfl, ⟨k6, Or.inr rfl⟩, fun _ => ⟨fun p hp => ⟨?_, ?_, ?_, ?_⟩, ?_, ?_, fun p hp q hq => ?_⟩⟩
    · show gA s5 52 p = nI (sp_i (sp_g (gA s5 42) n p))
      rw [w5, fm_A f5 (p := 52) rfl, fm_A f4 (p := 52) rfl, fm_A f3 (p := 52) rfl, fm_A f2 (p := 52) rfl]
      exact a2 p hp
    · show gA s5 53 p = nI (sp_i (sp_T (gA s5 42) n p))
      rw [w5, fm_A f5 (p := 53) rfl, fm_A f4 (p := 53) rfl]
      exact c2 p hp
    · show gA s5 54 p = nI (sp_i (sp_X (gA s5 42) n p))
      rw [w5, fm_A f5 (p := 54) rfl]
      exact d2.1 p hp
    · show gA s5 56 p = nI (sp_i (sp_C (gA s5 42) n p))
      rw [w5]
      exact e2 p hp
    · show gI s5 41 27 = nI (sp_n (sp_X (gA s5 42) n) n)
      rw [w5, fm_I f5 (p := 41) (k := 27) rfl]
      exact d2.2.2
    · show gI s5 41 26 = nI (sp_n (sp_C (gA s5 42) n) n)
      rw [w5]
      exact e3
    · show rbt (gA s5 57) p q = true ↔ sp_c (gA s5 42) n p q
      rw [w5, fm_A f5 (p := 57) rfl, fm_A f4 (p := 57) rfl, fm_A f3 (p := 57) rfl]
      exact b2 p hp q hq
  · rw [if_neg (fun z => absurd (z.symm.trans h1) (by decide))]
    exact ⟨σ, rfl, h1, h⟩
def bq (x : Int64) (i : Nat) : Bool := x.toBitVec.getLsbD i
theorem bq_ext {x y : Int64} (h : ∀ i, i < 64 → bq x i = bq y i) : x = y := Int64.toBitVec_inj.mp (BitVec.eq_of_getLsbD_eq h)
theorem bq_and (x y : Int64) (i : Nat) : bq (x &&& y) i = (bq x i && bq y i) := by
  unfold bq; rw [Int64.toBitVec_and, BitVec.getLsbD_and]
theorem bq_or (x y : Int64) (i : Nat) : bq (x ||| y) i = (bq x i || bq y i) := by
  unfold bq; rw [Int64.toBitVec_or, BitVec.getLsbD_or]
theorem bq_xor (x y : Int64) (i : Nat) : bq (x ^^^ y) i = (bq x i ^^ bq y i) := by
  unfold bq; rw [Int64.toBitVec_xor, BitVec.getLsbD_xor]
theorem bq_neg (x : Int64) {i : Nat} (hi : i < 64) : bq (-x) i = (bq x i ^^ decide (∃ j, j < i ∧ bq x j = true)) := by
  unfold bq
  rw [Int64.toBitVec_neg, BitVec.getLsbD_neg, decide_eq_true hi, Bool.true_and]
theorem bq_ushr {x : Int64} {k i : Nat} (hk : k < 64) : bq (Int64.toUInt64 x >>> ((Int32.toInt64 (nI k)).toUInt64 &&& Int64.toUInt64 63)).toInt64 i = bq x (k + i) := by
  have e : bq (Int64.toUInt64 x >>> ((Int32.toInt64 (nI k)).toUInt64 &&& Int64.toUInt64 63)).toInt64 i = (x.toBitVec >>> (((Int32.toInt64 (nI k)).toUInt64 &&& Int64.toUInt64 63).toBitVec % 64)).getLsbD i := rfl
  have h1 : (((Int32.toInt64 (nI k)).toUInt64 &&& Int64.toUInt64 63).toBitVec % 64).toNat = k := (by decide : ∀ k, k < 64 → (((Int32.toInt64 (nI k)).toUInt64 &&& Int64.toUInt64 63).toBitVec % 64).toNat = k) k hk
  rw [e, BitVec.ushiftRight_eq', h1, BitVec.getLsbD_ushiftRight]
  rfl
theorem bq_sh1 {k i : Nat} (hk : k < 64) (hi : i < 64) : bq ((1 : Int64) <<< (Int32.toInt64 (nI k) &&& 63)) i = decide (i = k) := by
  have h1 : ((Int32.toInt64 (nI k) &&& 63).toBitVec.smod 64).toNat = k := (by decide : ∀ k, k < 64 → ((Int32.toInt64 (nI k) &&& 63).toBitVec.smod 64).toNat = k) k hk
  unfold bq
  rw [Int64.toBitVec_shiftLeft, BitVec.shiftLeft_eq', h1, BitVec.getLsbD_shiftLeft, decide_eq_true hi, Bool.true_and, (by decide : ∀ i, i < 64 → (1 : Int64).toBitVec.getLsbD i = decide (i = 0)) (i - k) (by omega)]
  by_cases e : i = k
  · subst e; rw [decide_eq_false (by omega : ¬ i < i), decide_eq_true (by omega : i - i = 0), decide_eq_true rfl]; rfl
  · rw [decide_eq_false e]
    by_cases c : i < k
    · rw [decide_eq_true c]; rfl
    · rw [decide_eq_false c, decide_eq_false (by omega : ¬ i - k = 0)]; rfl
theorem bq_m1 {i : Nat} (hi : i < 64) : bq (-1 : Int64) i = true := (by decide : ∀ i, i < 64 → bq (-1 : Int64) i = true) i hi
theorem bq_0 (i : Nat) : bq 0 i = false := by
  by_cases h : i < 64
  · exact (by decide : ∀ i, i < 64 → bq 0 i = false) i h
  · exact BitVec.getLsbD_of_ge _ _ (by omega)
theorem bq_ge (x : Int64) {i : Nat} (h : 64 ≤ i) : bq x i = false := BitVec.getLsbD_of_ge _ _ h
theorem bq_z {x : Int64} : x = 0 ↔ ∀ i, i < 64 → bq x i = false :=
  ⟨fun h i _ => by rw [h]; exact bq_0 i, fun h => bq_ext fun i hi => by rw [h i hi, bq_0]⟩
theorem bq_cnt : ∀ k, k < 64 → f_Lo_bitCount (((1 : Int64) <<< (Int32.toInt64 (nI k) &&& 63)) - 1) = nI k := by decide +kernel
theorem bq_low {x : Int64} {k : Nat} (hk : k < 64) (h1 : bq x k = true) (h2 : ∀ i, i < k → bq x i = false) : f_Lo_bitCount ((x &&& (-x)) - (1 : Int64)) = nI k := by
  have e : x &&& (-x) = (1 : Int64) <<< (Int32.toInt64 (nI k) &&& 63) := by
    refine bq_ext fun i hi => ?_
    rw [bq_and, bq_neg x hi, bq_sh1 hk hi]
    by_cases c : i < k
    · rw [h2 i c, decide_eq_false (by omega : ¬ i = k)]; rfl
    · by_cases e : i = k
      · subst e
        rw [h1, decide_eq_true rfl, decide_eq_false (fun ⟨j, hj, hj2⟩ => by rw [h2 j hj] at hj2; cases hj2)]; rfl
      · rw [decide_eq_false e, decide_eq_true ⟨k, by omega, h1⟩, Bool.xor_true]
        cases bq x i <;> rfl
  rw [e, bq_cnt k hk]
theorem l6 {p : Nat} (h : p ≤ 100000) : nI p >>> ((6 : Int32) &&& 31) = nI (p / 64) := by
  refine Int32.toInt_inj.mp ?_
  rw [bi_shr (m := 6) (by decide), nI_toInt (by omega), nI_toInt (by omega)]
  omega
theorem l63 {p : Nat} (h : p ≤ 100000) : nI p &&& (63 : Int32) = nI (p % 64) := pk_andN (by omega) 6 (by decide)
def lb (f : Nat → Int64) (q : Nat) : Bool := bq (f (q / 64)) (q % 64)
def lbt (f : Nat → Int64) (v q : Nat) : Bool := bq (f (17 * v + q / 64)) (q % 64)
theorem lo63 : ∀ p, p < 1088 → (nI p ||| (63 : Int32)) + (1 : Int32) = nI ((p / 64 + 1) * 64) := by decide +kernel
theorem lcmp (x : Int64) : lg_cmp x 0 = 0 ↔ x = 0 := by
  unfold lg_cmp
  constructor
  · intro h
    split at h
    · exact absurd h (by decide)
    · split at h
      · assumption
      · exact absurd h (by decide)
  · intro h
    subst h
    decide
theorem na_r {n v : Nat} {f g : Nat → Int64} {B : (Int32 → gP) → Int32 → gP} (hn : n ≤ 1040) (hv : v < 1040) (hg : ∀ q, q < 1088 → lb g q = true → q < n) (hB : ∀ ag p, p < 1089 → B ag (nI p) = if nI n ≤ nI p then some (.inl (some (.int (nI n)))) else if lg_cmp ((Int64.toUInt64 (f (17 * v + p / 64) &&& g (p / 64)) >>> ((Int32.toInt64 (nI (p % 64))).toUInt64 &&& Int64.toUInt64 63)).toInt64) 0 = 0 then ag ((nI p ||| (63 : Int32)) + (1 : Int32)) else some (.inl (some (.int (nI p + (f_Lo_bitCount ((((Int64.toUInt64 (f (17 * v + p / 64) &&& g (p / 64)) >>> ((Int32.toInt64 (nI (p % 64))).toUInt64 &&& Int64.toUInt64 63)).toInt64) &&& (-((Int64.toUInt64 (f (17 * v + p / 64) &&& g (p / 64)) >>> ((Int32.toInt64 (nI (p % 64))).toUInt64 &&& Int64.toUInt64 63)).toInt64))) - (1 : Int64)))))))) {l : Nat} (hl : l ≤ n) :
    ∃ r, gd_lp (fun _ => none) B gd_N (nI l) = some (.inl (some (.int (nI r)))) ∧ l ≤ r ∧ r ≤ n ∧ (∀ q, l ≤ q → q < r → ¬ (lbt f v q = true ∧ lb g q = true)) ∧ (r < n → lbt f v r = true ∧ lb g r = true) := by
  refine gd_it1 (I := fun m i => ∃ p, m = 1089 - p ∧ i = nI p ∧ l ≤ p ∧ p < 1089 ∧ (∀ q, l ≤ q → q < p → ¬ (lbt f v q = true ∧ lb g q = true))) (E := fun (x : gP) => ∃ r, x = some (.inl (some (.int (nI r)))) ∧ l ≤ r ∧ r ≤ n ∧ (∀ q, l ≤ q → q < r → ¬ (lbt f v q = true ∧ lb g q = true)) ∧ (r < n → lbt f v r = true ∧ lb g r = true)) ?_ gd_N (1089 - l) (nI l) ⟨l, rfl, rfl, Nat.le_refl _, by omega, fun q h1 h2 => by omega⟩ (gd_Nlt (by omega))
  rintro m i ag ⟨p, rfl, rfl, hlp, hp, hno⟩
  rw [hB ag p hp]
  by_cases c : n ≤ p
  · rw [if_pos ((gi_le (by omega) (by omega)).mpr c)]
    exact Or.inr ⟨n, rfl, hl, Nat.le_refl _, fun q h1 h2 => hno q h1 (by omega), fun z => absurd z (by omega)⟩
  · rw [if_neg (fun z => c ((gi_le (by omega) (by omega)).mp z))]
    generalize hx : (Int64.toUInt64 (f (17 * v + p / 64) &&& g (p / 64)) >>> ((Int32.toInt64 (nI (p % 64))).toUInt64 &&& Int64.toUInt64 63)).toInt64 = x
    have xb : ∀ i, bq x i = (bq (f (17 * v + p / 64)) (p % 64 + i) && bq (g (p / 64)) (p % 64 + i)) := by
      intro i
      rw [← hx, bq_ushr (by omega), bq_and]
    have col : ∀ q, p ≤ q → q / 64 = p / 64 → (bq x (q - p) = true ↔ lbt f v q = true ∧ lb g q = true) := by
      intro q h1 h2
      rw [xb, show p % 64 + (q - p) = q % 64 by omega, Bool.and_eq_true]
      unfold lbt lb
      rw [h2]
    by_cases z : x = 0
    · rw [if_pos ((lcmp x).mpr z), lo63 p (by omega)]
      refine Or.inl ⟨nI ((p / 64 + 1) * 64), 1089 - (p / 64 + 1) * 64, by omega, ⟨(p / 64 + 1) * 64, rfl, rfl, by omega, by omega, fun q h1 h2 => ?_⟩, rfl⟩
      by_cases e : q < p
      · exact hno q h1 e
      · intro y
        have := (col q (by omega) (by omega)).mpr y
        rw [bq_z.mp z (q - p) (by omega)] at this
        cases this
    · rw [if_neg (fun y => z ((lcmp x).mp y))]
      obtain ⟨k, hk, hkm⟩ := pk_least (fun i => i < 64 ∧ bq x i = true) (Classical.byContradiction fun y => z (bq_z.mpr fun i hi => by
        cases hb : bq x i with
        | false => rfl
        | true => exact absurd ⟨i, hi, hb⟩ y))
      have hk2 : p % 64 + k < 64 := by
        by_cases y : p % 64 + k < 64
        · exact y
        · have := hk.2
          rw [xb, bq_ge _ (by omega), Bool.false_and] at this
          cases this
      rw [bq_low hk.1 hk.2 (fun i hi => by
        cases hb : bq x i with
        | false => rfl
        | true => exact absurd ⟨by omega, hb⟩ (hkm i hi)), nI_add]
      have here := (col (p + k) (by omega) (by omega)).mp (by rw [show p + k - p = k by omega]; exact hk.2)
      refine Or.inr ⟨p + k, rfl, by omega, ?_, fun q h1 h2 => ?_, fun _ => here⟩
      · have := hg (p + k) (by omega) here.2
        omega
      · by_cases e : q < p
        · exact hno q h1 e
        · intro y
          exact hkm (q - p) (by omega) ⟨by omega, (col q (by omega) (by omega)).mpr y⟩
