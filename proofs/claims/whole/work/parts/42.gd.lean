theorem gd_cp1 : Cond.native arraycopyName ∈ gv_ws := gv_i4 46 rfl rfl
theorem gd_cp2 : Cond.static arraycopyName ∈ gv_ws := gv_i4 45 rfl rfl
theorem gd_cp3 : Cond.initialized "java/lang/System" ∈ gv_ws := gv_i1 20 rfl rfl
theorem ml_4_38 : Cond.methodLink "GuessFences$Guesses" 38 arraycopyName ∈ gv_ws := gv_i4 44 rfl rfl
abbrev gR : Type := Option (gQ × gS)
abbrev gP : Type := Option gQ
abbrev gd_in (i : Int32) (n : Nat) : Prop := ¬ i < 0 ∧ i.toNatClampNeg < n
theorem gd_inv {i : Int32} {n : Nat} (h : gd_in i n) : vp_in i n := fun z => z.elim (fun a => h.1 a) (fun b => absurd h.2 (Nat.not_lt.mpr b))
def gd_g {β : Type} (c : Prop) [Decidable c] (x : Option β) : Option β := if c then x else none
theorem gd_gE {β : Type} {c : Prop} {i : Decidable c} {x : Option β} {r : β} (h : @gd_g β c i x = some r) : c ∧ x = some r := by
  unfold gd_g at h
  by_cases hc : c
  · rw [if_pos hc] at h; exact ⟨hc, h⟩
  · rw [if_neg hc] at h; cases h
theorem gd_gI {β : Type} {c : Prop} {i : Decidable c} {x : Option β} (hc : c) : @gd_g β c i x = x := if_pos hc
theorem gd_T {β : Type} {c : Prop} {i : Decidable c} {x y r : β} (hc : c) (h : @ite β c i x y = r) : x = r := by rw [if_pos hc] at h; exact h
theorem gd_F {β : Type} {c : Prop} {i : Decidable c} {x y r : β} (hc : ¬ c) (h : @ite β c i x y = r) : y = r := by rw [if_neg hc] at h; exact h
def gd_s {β : Type} (s : gS) (f : gS → β) : β := f s
def gd_t {α β : Type} (a : α) (f : α → β) : β := f a
def gd_j {α β : Type} (J : α) (b : α → β) : β := b J
theorem gd_tT {α β : Type} {c : Prop} {i : Decidable c} {a b : α} {f : α → β} {r : β} (hc : c) (h : gd_t (@ite α c i a b) f = r) : gd_t a f = r := by rw [if_pos hc] at h; exact h
theorem gd_tF {α β : Type} {c : Prop} {i : Decidable c} {a b : α} {f : α → β} {r : β} (hc : ¬ c) (h : gd_t (@ite α c i a b) f = r) : gd_t b f = r := by rw [if_neg hc] at h; exact h
theorem gd_jC {α β : Type} {J : α} {b : α → β} {r : β} {G : Prop} (C : α → Prop) (h : gd_j J b = r) (hJ : C J) (hb : ∀ J' : α, C J' → b J' = r → G) : G := hb J hJ h
theorem gd_tC {α β : Type} {x : α} {f : α → β} {r : β} {G : Prop} (C : α → Prop) (h : gd_t x f = r) (hf : ∀ v, f v = r → C v) (hb : ∀ f' : α → β, (∀ v, gd_t v f' = r → C v) → gd_t x f' = r → G) : G := hb f hf h
theorem gd_rE {a : gQ} {b : gS} {r : gQ × gS} (h : (some (a, b) : gR) = some r) : gv_is r.1 r.2 a b := by cases h; exact gv_isr _ _
theorem gd_pE {a r : gQ} {σ : gS} (h : (some a : gP) = some r) : gv_is r σ a σ := by cases h; exact gv_isr _ _
theorem gd_vE {x r : Int32} {σ : gS} (h : x = r) : gv_is (.inl (some (.int r))) σ (.inl (some (.int x))) σ := by cases h; exact gv_isr _ _
theorem gd_vEl {x r : Int64} {σ : gS} (h : x = r) : gv_is (.inl (some (.long r))) σ (.inl (some (.long x))) σ := by cases h; exact gv_isr _ _
theorem gd_nb {x : Int32} (h : x = 0 ∨ x = 1) : narrow .boolean (.int x) = .int x := by rcases h with rfl | rfl <;> rfl
theorem gd_fb {x : Int32} (h : x = 0 ∨ x = 1) : fits .boolean (.int x) = true := by rcases h with rfl | rfl <;> rfl
def gd_lp {γ : Type} (z : γ) (B : γ → γ) : Nat → γ
  | 0 => z
  | n + 1 => B (gd_lp z B n)
theorem gd_lpC {γ : Type} {z : γ} {B : γ → γ} (P : γ → Prop) (hz : P z) (hs : ∀ g, P g → P (B g)) : ∀ n, P (gd_lp z B n)
  | 0 => hz
  | n + 1 => hs _ (gd_lpC P hz hs n)
def gd_N : Nat := 100000
def gl_le : List (Option Value) → List (Option Value) → Prop
  | [], [] => True
  | a :: l, b :: l' => (a = none ∨ a = b) ∧ gl_le l l'
  | _, _ => False
theorem gl_z : gl_le [] [] := trivial
theorem gl_s {a : Option Value} {l l' : List (Option Value)} (h : gl_le l l') : gl_le (a :: l) (a :: l') := ⟨Or.inr rfl, h⟩
theorem gl_n {a : Option Value} {l l' : List (Option Value)} (h : gl_le l l') : gl_le (none :: l) (a :: l') := ⟨Or.inl rfl, h⟩
theorem gl_all : ∀ {l l' : List (Option Value)}, gl_le l l' → ∀ (i : Nat) (v : Value), l[i]? = some (some v) → l'[i]? = some (some v)
  | [], [], _, i, v, h => h
  | a :: l, b :: l', ⟨h1, h2⟩, i, v, h => by
    cases i with
    | zero =>
      rw [List.getElem?_cons_zero] at h ⊢
      rcases h1 with h1 | h1
      · rw [h1] at h; cases h
      · rw [← h1]; exact h
    | succ i => rw [List.getElem?_cons_succ] at h ⊢; exact gl_all h2 i v h
theorem gd_ar {μ : gM} {k pc : Nat} {w w' : Bool} {ls ls' : List (Option Value)} {st : List Value} {σ : gS} {Q : gQ → gS → Prop} (hle : gl_le ls' ls) (hw : w' = true → w = true) (h : gv_V μ k w' pc ls' st σ Q) : gv_V μ k w pc ls st σ Q := by
  intro p l e R s m args below meth c D cA ad Z hC hE H locs cells slots sl hw0 hc hs hX hP hS hl
  exact h p l e R s m args below meth c D cA ad Z hC hE H locs cells slots sl (fun z => hw0 (hw z)) hc hs hX hP hS (gv_lle hl (gl_all hle))
theorem gd_lkT {l : List (Int × Int)} {d o : Int} {x c : Int32} (q : x = c) (h : Op.lookupswitch.offset l d c.toInt = o) : Op.lookupswitch.offset l d x.toInt = o := by rw [q]; exact h
theorem gd_lk0 (d k : Int) : Op.lookupswitch.offset [] d k = d := rfl
theorem gd_lk1 {r : List (Int × Int)} {d o a b : Int} {x c : Int32} (q : ¬ x = c) (hc : c.toInt = a) (h : Op.lookupswitch.offset r d x.toInt = o) : Op.lookupswitch.offset ((a, b) :: r) d x.toInt = o := by
  rw [Op.lookupswitch.offset_cons, if_neg (fun z => q (Int32.toInt_inj.mp (z.symm.trans hc.symm)))]
  exact h
theorem gd_tb0 {lo : Int} {x : Int32} : x.toInt < lo ∨ lo - 1 < x.toInt := by omega
theorem gd_tbs {lo b a : Int} {x c : Int32} (h : x.toInt < lo ∨ b < x.toInt) (q : ¬ x = c) (hc : c.toInt = a) (hb : b = a - 1) : x.toInt < lo ∨ a < x.toInt := by
  have h1 : x.toInt ≠ a := fun z => q (Int32.toInt_inj.mp (z.trans hc.symm))
  omega
theorem gd_tbT {μ : gM} {k pc tgt : Nat} {w : Bool} {ls : List (Option Value)} {st : List Value} {σ : gS} {Q : gQ → gS → Prop} {dflt lo hi : Int} {offs : Array Int} {len : Nat} {x c : Int32} {off : Int} (q : x = c) (hd : decode μ.cc pc = .ok (.tableswitch dflt lo hi offs, len)) (h1 : ¬ c.toInt < lo) (h2 : ¬ hi < c.toInt) (ho : offs[(c.toInt - lo).toNat]? = some off) (ht : (pc : Int) + off = (tgt : Int))
    (h : gv_V μ k w tgt ls st σ Q) : gv_V μ k w pc ls (.int x :: st) σ Q := by
  subst q
  exact gv_tableIn hd h1 h2 ho ht h
theorem gv_ldcw {μ : gM} {k pc pc' : Nat} {w : Bool} {ls : List (Option Value)} {st : List Value} {σ : gS} {Q : gQ → gS → Prop} {i : Nat} {v : Int32} (hd : decode μ.cc pc = .ok (.ldc_w i, 3)) (hw : Cond.constant μ.y.cls i v ∈ gv_ws) (hp : pc + 3 = pc')
    (h : gv_V μ k w pc' ls (.int v :: st) σ Q) : gv_V μ k w pc ls st σ Q := by
  intro p l e R s m args below meth c D cA ad Z hC hE H locs cells slots sl hw0 hc hs hX hP hS hl
  subst hp
  exact lv_ldcw hC.1.1 hC.1.2.1 hC.1.2.2.2.1 (va_tabs rfl rfl (hC.2.1 _ hw)) hd (h p l e R s m args below meth c D cA ad Z hC hE H locs cells slots sl hw0 hc hs hX hP hS hl)
theorem gd_puti {μ : gM} {k pc pc' : Nat} {w : Bool} {ls : List (Option Value)} {st : List Value} {σ : gS} {f : gS → gR} {r : gQ × gS} {q ci kf idx : Nat} {fs : List (Option Nat)} {x : Int32} {ty : FieldType} (lk : gv_lkp μ.y.cls idx ci kf ty) (hd : decode μ.cc pc = .ok (.putfield idx, 3)) (hsh : gv_sh[q]? = some (.inr (ci, fs))) (hf : fs[kf]? = some none) (hn : narrow ty (.int x) = .int x) (hfit : fits ty (.int x) = true) (hp : pc + 3 = pc') (h : gd_s (gs_I σ q kf x) f = some r) (kk : ∀ s, f s = some r → gv_V μ k false pc' ls st s (gv_is r.1 r.2)) : gv_V μ k w pc ls (.int x :: .ref q :: st) σ (gv_is r.1 r.2) := gv_putj lk hd hsh hf hn hfit hp (kk _ h)
theorem gd_iast {μ : gM} {k pc pc' : Nat} {w : Bool} {ls : List (Option Value)} {st : List Value} {σ : gS} {f : gS → gR} {r : gQ × gS} {q n : Nat} {i : Int32} {x : Int32} (hd : decode μ.cc pc = .ok (.iastore, 1)) (hsh : gv_sh[q]? = some (.inl (.int, n))) (hin : vp_in i n) (hp : pc + 1 = pc') (h : gd_s (gs_A σ q i.toNatClampNeg x) f = some r) (kk : ∀ s, f s = some r → gv_V μ k false pc' ls st s (gv_is r.1 r.2)) : gv_V μ k w pc ls (.int x :: .int i :: .ref q :: st) σ (gv_is r.1 r.2) := gj_iast _ hd hsh hin rfl hp (kk _ h)
theorem gd_bast {μ : gM} {k pc pc' : Nat} {w : Bool} {ls : List (Option Value)} {st : List Value} {σ : gS} {f : gS → gR} {r : gQ × gS} {q n : Nat} {i : Int32} {x : Int32} (hd : decode μ.cc pc = .ok (.bastore, 1)) (hsh : gv_sh[q]? = some (.inl (.byte, n))) (hin : vp_in i n) (hp : pc + 1 = pc') (h : gd_s (gs_A σ q i.toNatClampNeg (vp_nar .byte x)) f = some r) (kk : ∀ s, f s = some r → gv_V μ k false pc' ls st s (gv_is r.1 r.2)) : gv_V μ k w pc ls (.int x :: .int i :: .ref q :: st) σ (gv_is r.1 r.2) := gj_bast _ hd hsh hin rfl hp (kk _ h)
theorem gd_zast {μ : gM} {k pc pc' : Nat} {w : Bool} {ls : List (Option Value)} {st : List Value} {σ : gS} {f : gS → gR} {r : gQ × gS} {q n : Nat} {i : Int32} {x : Int32} (hd : decode μ.cc pc = .ok (.bastore, 1)) (hsh : gv_sh[q]? = some (.inl (.boolean, n))) (hin : vp_in i n) (hp : pc + 1 = pc') (h : gd_s (gs_A σ q i.toNatClampNeg (vp_nar .boolean x)) f = some r) (kk : ∀ s, f s = some r → gv_V μ k false pc' ls st s (gv_is r.1 r.2)) : gv_V μ k w pc ls (.int x :: .int i :: .ref q :: st) σ (gv_is r.1 r.2) := gj_zast _ hd hsh hin rfl hp (kk _ h)
theorem gd_last {μ : gM} {k pc pc' : Nat} {w : Bool} {ls : List (Option Value)} {st : List Value} {σ : gS} {f : gS → gR} {r : gQ × gS} {q n : Nat} {i : Int32} {x : Int64} (hd : decode μ.cc pc = .ok (.lastore, 1)) (hsh : gv_sh[q]? = some (.inl (.long, n))) (hin : vp_in i n) (hp : pc + 1 = pc') (h : gd_s (gs_L σ q i.toNatClampNeg x) f = some r) (kk : ∀ s, f s = some r → gv_V μ k false pc' ls st s (gv_is r.1 r.2)) : gv_V μ k w pc ls (.long x :: .int i :: .ref q :: st) σ (gv_is r.1 r.2) := gj_last _ hd hsh hin rfl hp (kk _ h)
def gd_i (x : gR) (f : Int32 → gS → gR) : gR := match x with
  | some (.inl (some (.int r)), s) => f r s
  | some (.inr n, s) => some (.inr n, s)
  | _ => none
def gd_l (x : gR) (f : Int64 → gS → gR) : gR := match x with
  | some (.inl (some (.long r)), s) => f r s
  | some (.inr n, s) => some (.inr n, s)
  | _ => none
def gd_0 (x : gR) (f : gS → gR) : gR := match x with
  | some (.inl none, s) => f s
  | some (.inr n, s) => some (.inr n, s)
  | _ => none
def gd_qi (x : gP) (s : gS) (f : Int32 → gR) : gR := match x with
  | some (.inl (some (.int r))) => f r
  | some (.inr n) => some (.inr n, s)
  | _ => none
def gd_ql (x : gP) (s : gS) (f : Int64 → gR) : gR := match x with
  | some (.inl (some (.long r))) => f r
  | some (.inr n) => some (.inr n, s)
  | _ => none
def gd_q0 (x : gP) (s : gS) (f : gR) : gR := match x with
  | some (.inl none) => f
  | some (.inr n) => some (.inr n, s)
  | _ => none
def gd_pi (x : gP) (f : Int32 → gP) : gP := match x with
  | some (.inl (some (.int r))) => f r
  | some (.inr n) => some (.inr n)
  | _ => none
def gd_pl (x : gP) (f : Int64 → gP) : gP := match x with
  | some (.inl (some (.long r))) => f r
  | some (.inr n) => some (.inr n)
  | _ => none
def gd_p0 (x : gP) (f : gP) : gP := match x with
  | some (.inl none) => f
  | some (.inr n) => some (.inr n)
  | _ => none
theorem gd_cvi {μ μ' : gM} {k pc pc' idx n : Nat} {w w' : Bool} {ls : List (Option Value)} {As st : List Value} {σ : gS} {q ci N : Nat} {fs : List (Option Nat)} {T0 : u_T} {x : gR} {f : Int32 → gS → gR} {r : gQ × gS} (hK : ∀ r1, x = some r1 → gv_K μ' (.ref q :: As) σ (gv_is r1.1 r1.2)) (h : gd_i x f = some r) (h1 : gv_md μ') (h2 : gv_vd μ' n) (hl : gv_lkm μ μ' idx) (hd : decode μ.cc pc = .ok (.invokevirtual idx, 3)) (hF : μ'.F + 1 ≤ μ.F) (hsh : gv_sh[q]? = some (.inr (ci, fs))) (hcl : vwCl[ci]? = some (μ'.y.cls, T0, N)) (hn : As.length = n) (hent : (lg_sl (.ref q :: As)).length ≤ μ'.nL) (hw8 : (st.map fun v => v.category).sum ≤ 8) (hk : 1 ≤ k) (hc0 : μ'.c = 0) (hw' : w' = true → μ'.pu = true ∧ w = true) (hno : μ.hh.all (fun h => !(decide (h.1 ≤ pc) && decide (pc < h.2.1))) = true) (hp : pc + 3 = pc') (kk : ∀ a s, f a s = some r → gv_V μ k w' pc' ls (.int a :: st) s (gv_is r.1 r.2)) : gv_V μ k w pc ls (As.reverse ++ .ref q :: st) σ (gv_is r.1 r.2) := by
  match x, hK, h with
  | some (.inl (some (.int a)), s), hK, h => exact gv_cvi (hK _ rfl) h1 h2 hl hd hF hsh hcl hn hent hw8 hk hc0 hw' hno hp (kk _ _ h)
  | some (.inr m, s), hK, h => exact gv_cvt (hK _ rfl) h1 h2 hl hd hF hsh hcl hn hent hw8 hk hc0 hno (gd_rE h)
theorem gd_cvl {μ μ' : gM} {k pc pc' idx n : Nat} {w w' : Bool} {ls : List (Option Value)} {As st : List Value} {σ : gS} {q ci N : Nat} {fs : List (Option Nat)} {T0 : u_T} {x : gR} {f : Int64 → gS → gR} {r : gQ × gS} (hK : ∀ r1, x = some r1 → gv_K μ' (.ref q :: As) σ (gv_is r1.1 r1.2)) (h : gd_l x f = some r) (h1 : gv_md μ') (h2 : gv_vd μ' n) (hl : gv_lkm μ μ' idx) (hd : decode μ.cc pc = .ok (.invokevirtual idx, 3)) (hF : μ'.F + 1 ≤ μ.F) (hsh : gv_sh[q]? = some (.inr (ci, fs))) (hcl : vwCl[ci]? = some (μ'.y.cls, T0, N)) (hn : As.length = n) (hent : (lg_sl (.ref q :: As)).length ≤ μ'.nL) (hw8 : (st.map fun v => v.category).sum ≤ 8) (hk : 1 ≤ k) (hc0 : μ'.c = 0) (hw' : w' = true → μ'.pu = true ∧ w = true) (hno : μ.hh.all (fun h => !(decide (h.1 ≤ pc) && decide (pc < h.2.1))) = true) (hp : pc + 3 = pc') (kk : ∀ a s, f a s = some r → gv_V μ k w' pc' ls (.long a :: st) s (gv_is r.1 r.2)) : gv_V μ k w pc ls (As.reverse ++ .ref q :: st) σ (gv_is r.1 r.2) := by
  match x, hK, h with
  | some (.inl (some (.long a)), s), hK, h => exact gv_cvl (hK _ rfl) h1 h2 hl hd hF hsh hcl hn hent hw8 hk hc0 hw' hno hp (kk _ _ h)
  | some (.inr m, s), hK, h => exact gv_cvt (hK _ rfl) h1 h2 hl hd hF hsh hcl hn hent hw8 hk hc0 hno (gd_rE h)
theorem gd_cv0 {μ μ' : gM} {k pc pc' idx n : Nat} {w w' : Bool} {ls : List (Option Value)} {As st : List Value} {σ : gS} {q ci N : Nat} {fs : List (Option Nat)} {T0 : u_T} {x : gR} {f : gS → gR} {r : gQ × gS} (hK : ∀ r1, x = some r1 → gv_K μ' (.ref q :: As) σ (gv_is r1.1 r1.2)) (h : gd_0 x f = some r) (h1 : gv_md μ') (h2 : gv_vd μ' n) (hl : gv_lkm μ μ' idx) (hd : decode μ.cc pc = .ok (.invokevirtual idx, 3)) (hF : μ'.F + 1 ≤ μ.F) (hsh : gv_sh[q]? = some (.inr (ci, fs))) (hcl : vwCl[ci]? = some (μ'.y.cls, T0, N)) (hn : As.length = n) (hent : (lg_sl (.ref q :: As)).length ≤ μ'.nL) (hw8 : (st.map fun v => v.category).sum ≤ 8) (hk : 1 ≤ k) (hc0 : μ'.c = 0) (hw' : w' = true → μ'.pu = true ∧ w = true) (hno : μ.hh.all (fun h => !(decide (h.1 ≤ pc) && decide (pc < h.2.1))) = true) (hp : pc + 3 = pc') (kk : ∀ s, f s = some r → gv_V μ k w' pc' ls (st) s (gv_is r.1 r.2)) : gv_V μ k w pc ls (As.reverse ++ .ref q :: st) σ (gv_is r.1 r.2) := by
  match x, hK, h with
  | some (.inl none, s), hK, h => exact gv_cv0 (hK _ rfl) h1 h2 hl hd hF hsh hcl hn hent hw8 hk hc0 hw' hno hp (kk _ h)
  | some (.inr m, s), hK, h => exact gv_cvt (hK _ rfl) h1 h2 hl hd hF hsh hcl hn hent hw8 hk hc0 hno (gd_rE h)
theorem gd_csi {μ μ' : gM} {k pc pc' idx n : Nat} {w w' : Bool} {ls : List (Option Value)} {As st : List Value} {σ : gS} {x : gR} {f : Int32 → gS → gR} {r : gQ × gS} (hK : ∀ r1, x = some r1 → gv_K μ' As σ (gv_is r1.1 r1.2)) (h : gd_i x f = some r) (h1 : gv_md μ') (h2 : gv_sd μ' n) (hl : gv_lkm μ μ' idx) (hd : decode μ.cc pc = .ok (.invokestatic idx, 3)) (hF : μ'.F + 1 ≤ μ.F) (hn : As.length = n) (hent : (lg_sl As).length ≤ μ'.nL) (hw8 : (st.map fun v => v.category).sum ≤ 8) (hk : 1 ≤ k) (hc0 : μ'.c = 0) (hw' : w' = true → μ'.pu = true ∧ w = true) (hno : μ.hh.all (fun h => !(decide (h.1 ≤ pc) && decide (pc < h.2.1))) = true) (hp : pc + 3 = pc') (kk : ∀ a s, f a s = some r → gv_V μ k w' pc' ls (.int a :: st) s (gv_is r.1 r.2)) : gv_V μ k w pc ls (As.reverse ++ st) σ (gv_is r.1 r.2) := by
  match x, hK, h with
  | some (.inl (some (.int a)), s), hK, h => exact gv_csi (hK _ rfl) h1 h2 hl hd hF hn hent hw8 hk hc0 hw' hno hp (kk _ _ h)
  | some (.inr m, s), hK, h => exact gv_cst (hK _ rfl) h1 h2 hl hd hF hn hent hw8 hk hc0 hno (gd_rE h)
theorem gd_csl {μ μ' : gM} {k pc pc' idx n : Nat} {w w' : Bool} {ls : List (Option Value)} {As st : List Value} {σ : gS} {x : gR} {f : Int64 → gS → gR} {r : gQ × gS} (hK : ∀ r1, x = some r1 → gv_K μ' As σ (gv_is r1.1 r1.2)) (h : gd_l x f = some r) (h1 : gv_md μ') (h2 : gv_sd μ' n) (hl : gv_lkm μ μ' idx) (hd : decode μ.cc pc = .ok (.invokestatic idx, 3)) (hF : μ'.F + 1 ≤ μ.F) (hn : As.length = n) (hent : (lg_sl As).length ≤ μ'.nL) (hw8 : (st.map fun v => v.category).sum ≤ 8) (hk : 1 ≤ k) (hc0 : μ'.c = 0) (hw' : w' = true → μ'.pu = true ∧ w = true) (hno : μ.hh.all (fun h => !(decide (h.1 ≤ pc) && decide (pc < h.2.1))) = true) (hp : pc + 3 = pc') (kk : ∀ a s, f a s = some r → gv_V μ k w' pc' ls (.long a :: st) s (gv_is r.1 r.2)) : gv_V μ k w pc ls (As.reverse ++ st) σ (gv_is r.1 r.2) := by
  match x, hK, h with
  | some (.inl (some (.long a)), s), hK, h => exact gv_csl (hK _ rfl) h1 h2 hl hd hF hn hent hw8 hk hc0 hw' hno hp (kk _ _ h)
  | some (.inr m, s), hK, h => exact gv_cst (hK _ rfl) h1 h2 hl hd hF hn hent hw8 hk hc0 hno (gd_rE h)
theorem gd_cs0 {μ μ' : gM} {k pc pc' idx n : Nat} {w w' : Bool} {ls : List (Option Value)} {As st : List Value} {σ : gS} {x : gR} {f : gS → gR} {r : gQ × gS} (hK : ∀ r1, x = some r1 → gv_K μ' As σ (gv_is r1.1 r1.2)) (h : gd_0 x f = some r) (h1 : gv_md μ') (h2 : gv_sd μ' n) (hl : gv_lkm μ μ' idx) (hd : decode μ.cc pc = .ok (.invokestatic idx, 3)) (hF : μ'.F + 1 ≤ μ.F) (hn : As.length = n) (hent : (lg_sl As).length ≤ μ'.nL) (hw8 : (st.map fun v => v.category).sum ≤ 8) (hk : 1 ≤ k) (hc0 : μ'.c = 0) (hw' : w' = true → μ'.pu = true ∧ w = true) (hno : μ.hh.all (fun h => !(decide (h.1 ≤ pc) && decide (pc < h.2.1))) = true) (hp : pc + 3 = pc') (kk : ∀ s, f s = some r → gv_V μ k w' pc' ls (st) s (gv_is r.1 r.2)) : gv_V μ k w pc ls (As.reverse ++ st) σ (gv_is r.1 r.2) := by
  match x, hK, h with
  | some (.inl none, s), hK, h => exact gv_cs0 (hK _ rfl) h1 h2 hl hd hF hn hent hw8 hk hc0 hw' hno hp (kk _ h)
  | some (.inr m, s), hK, h => exact gv_cst (hK _ rfl) h1 h2 hl hd hF hn hent hw8 hk hc0 hno (gd_rE h)
theorem gd_dvi {μ μ' : gM} {k pc pc' idx n : Nat} {w w' : Bool} {ls : List (Option Value)} {As st : List Value} {σ : gS} {q ci N : Nat} {fs : List (Option Nat)} {T0 : u_T} {x : gP} {f : Int32 → gR} {r : gQ × gS} (hK : ∀ r1, x = some r1 → gv_K μ' (.ref q :: As) σ (gv_is r1 σ)) (h : gd_qi x σ f = some r) (h1 : gv_md μ') (h2 : gv_vd μ' n) (hl : gv_lkm μ μ' idx) (hd : decode μ.cc pc = .ok (.invokevirtual idx, 3)) (hF : μ'.F + 1 ≤ μ.F) (hsh : gv_sh[q]? = some (.inr (ci, fs))) (hcl : vwCl[ci]? = some (μ'.y.cls, T0, N)) (hn : As.length = n) (hent : (lg_sl (.ref q :: As)).length ≤ μ'.nL) (hw8 : (st.map fun v => v.category).sum ≤ 8) (hk : 1 ≤ k) (hc0 : μ'.c = 0) (hw' : w' = true → μ'.pu = true ∧ w = true) (hno : μ.hh.all (fun h => !(decide (h.1 ≤ pc) && decide (pc < h.2.1))) = true) (hp : pc + 3 = pc') (kk : ∀ a, f a = some r → gv_V μ k w' pc' ls (.int a :: st) σ (gv_is r.1 r.2)) : gv_V μ k w pc ls (As.reverse ++ .ref q :: st) σ (gv_is r.1 r.2) := by
  match x, hK, h with
  | some (.inl (some (.int a))), hK, h => exact gv_cvi (hK _ rfl) h1 h2 hl hd hF hsh hcl hn hent hw8 hk hc0 hw' hno hp (kk _ h)
  | some (.inr m), hK, h => exact gv_cvt (hK _ rfl) h1 h2 hl hd hF hsh hcl hn hent hw8 hk hc0 hno (gd_rE h)
theorem gd_dvl {μ μ' : gM} {k pc pc' idx n : Nat} {w w' : Bool} {ls : List (Option Value)} {As st : List Value} {σ : gS} {q ci N : Nat} {fs : List (Option Nat)} {T0 : u_T} {x : gP} {f : Int64 → gR} {r : gQ × gS} (hK : ∀ r1, x = some r1 → gv_K μ' (.ref q :: As) σ (gv_is r1 σ)) (h : gd_ql x σ f = some r) (h1 : gv_md μ') (h2 : gv_vd μ' n) (hl : gv_lkm μ μ' idx) (hd : decode μ.cc pc = .ok (.invokevirtual idx, 3)) (hF : μ'.F + 1 ≤ μ.F) (hsh : gv_sh[q]? = some (.inr (ci, fs))) (hcl : vwCl[ci]? = some (μ'.y.cls, T0, N)) (hn : As.length = n) (hent : (lg_sl (.ref q :: As)).length ≤ μ'.nL) (hw8 : (st.map fun v => v.category).sum ≤ 8) (hk : 1 ≤ k) (hc0 : μ'.c = 0) (hw' : w' = true → μ'.pu = true ∧ w = true) (hno : μ.hh.all (fun h => !(decide (h.1 ≤ pc) && decide (pc < h.2.1))) = true) (hp : pc + 3 = pc') (kk : ∀ a, f a = some r → gv_V μ k w' pc' ls (.long a :: st) σ (gv_is r.1 r.2)) : gv_V μ k w pc ls (As.reverse ++ .ref q :: st) σ (gv_is r.1 r.2) := by
  match x, hK, h with
  | some (.inl (some (.long a))), hK, h => exact gv_cvl (hK _ rfl) h1 h2 hl hd hF hsh hcl hn hent hw8 hk hc0 hw' hno hp (kk _ h)
  | some (.inr m), hK, h => exact gv_cvt (hK _ rfl) h1 h2 hl hd hF hsh hcl hn hent hw8 hk hc0 hno (gd_rE h)
theorem gd_dv0 {μ μ' : gM} {k pc pc' idx n : Nat} {w w' : Bool} {ls : List (Option Value)} {As st : List Value} {σ : gS} {q ci N : Nat} {fs : List (Option Nat)} {T0 : u_T} {x : gP} {f : gR} {r : gQ × gS} (hK : ∀ r1, x = some r1 → gv_K μ' (.ref q :: As) σ (gv_is r1 σ)) (h : gd_q0 x σ f = some r) (h1 : gv_md μ') (h2 : gv_vd μ' n) (hl : gv_lkm μ μ' idx) (hd : decode μ.cc pc = .ok (.invokevirtual idx, 3)) (hF : μ'.F + 1 ≤ μ.F) (hsh : gv_sh[q]? = some (.inr (ci, fs))) (hcl : vwCl[ci]? = some (μ'.y.cls, T0, N)) (hn : As.length = n) (hent : (lg_sl (.ref q :: As)).length ≤ μ'.nL) (hw8 : (st.map fun v => v.category).sum ≤ 8) (hk : 1 ≤ k) (hc0 : μ'.c = 0) (hw' : w' = true → μ'.pu = true ∧ w = true) (hno : μ.hh.all (fun h => !(decide (h.1 ≤ pc) && decide (pc < h.2.1))) = true) (hp : pc + 3 = pc') (kk : f = some r → gv_V μ k w' pc' ls (st) σ (gv_is r.1 r.2)) : gv_V μ k w pc ls (As.reverse ++ .ref q :: st) σ (gv_is r.1 r.2) := by
  match x, hK, h with
  | some (.inl none), hK, h => exact gv_cv0 (hK _ rfl) h1 h2 hl hd hF hsh hcl hn hent hw8 hk hc0 hw' hno hp (kk h)
  | some (.inr m), hK, h => exact gv_cvt (hK _ rfl) h1 h2 hl hd hF hsh hcl hn hent hw8 hk hc0 hno (gd_rE h)
theorem gd_dsi {μ μ' : gM} {k pc pc' idx n : Nat} {w w' : Bool} {ls : List (Option Value)} {As st : List Value} {σ : gS} {x : gP} {f : Int32 → gR} {r : gQ × gS} (hK : ∀ r1, x = some r1 → gv_K μ' As σ (gv_is r1 σ)) (h : gd_qi x σ f = some r) (h1 : gv_md μ') (h2 : gv_sd μ' n) (hl : gv_lkm μ μ' idx) (hd : decode μ.cc pc = .ok (.invokestatic idx, 3)) (hF : μ'.F + 1 ≤ μ.F) (hn : As.length = n) (hent : (lg_sl As).length ≤ μ'.nL) (hw8 : (st.map fun v => v.category).sum ≤ 8) (hk : 1 ≤ k) (hc0 : μ'.c = 0) (hw' : w' = true → μ'.pu = true ∧ w = true) (hno : μ.hh.all (fun h => !(decide (h.1 ≤ pc) && decide (pc < h.2.1))) = true) (hp : pc + 3 = pc') (kk : ∀ a, f a = some r → gv_V μ k w' pc' ls (.int a :: st) σ (gv_is r.1 r.2)) : gv_V μ k w pc ls (As.reverse ++ st) σ (gv_is r.1 r.2) := by
  match x, hK, h with
  | some (.inl (some (.int a))), hK, h => exact gv_csi (hK _ rfl) h1 h2 hl hd hF hn hent hw8 hk hc0 hw' hno hp (kk _ h)
  | some (.inr m), hK, h => exact gv_cst (hK _ rfl) h1 h2 hl hd hF hn hent hw8 hk hc0 hno (gd_rE h)
theorem gd_dsl {μ μ' : gM} {k pc pc' idx n : Nat} {w w' : Bool} {ls : List (Option Value)} {As st : List Value} {σ : gS} {x : gP} {f : Int64 → gR} {r : gQ × gS} (hK : ∀ r1, x = some r1 → gv_K μ' As σ (gv_is r1 σ)) (h : gd_ql x σ f = some r) (h1 : gv_md μ') (h2 : gv_sd μ' n) (hl : gv_lkm μ μ' idx) (hd : decode μ.cc pc = .ok (.invokestatic idx, 3)) (hF : μ'.F + 1 ≤ μ.F) (hn : As.length = n) (hent : (lg_sl As).length ≤ μ'.nL) (hw8 : (st.map fun v => v.category).sum ≤ 8) (hk : 1 ≤ k) (hc0 : μ'.c = 0) (hw' : w' = true → μ'.pu = true ∧ w = true) (hno : μ.hh.all (fun h => !(decide (h.1 ≤ pc) && decide (pc < h.2.1))) = true) (hp : pc + 3 = pc') (kk : ∀ a, f a = some r → gv_V μ k w' pc' ls (.long a :: st) σ (gv_is r.1 r.2)) : gv_V μ k w pc ls (As.reverse ++ st) σ (gv_is r.1 r.2) := by
  match x, hK, h with
  | some (.inl (some (.long a))), hK, h => exact gv_csl (hK _ rfl) h1 h2 hl hd hF hn hent hw8 hk hc0 hw' hno hp (kk _ h)
  | some (.inr m), hK, h => exact gv_cst (hK _ rfl) h1 h2 hl hd hF hn hent hw8 hk hc0 hno (gd_rE h)
theorem gd_ds0 {μ μ' : gM} {k pc pc' idx n : Nat} {w w' : Bool} {ls : List (Option Value)} {As st : List Value} {σ : gS} {x : gP} {f : gR} {r : gQ × gS} (hK : ∀ r1, x = some r1 → gv_K μ' As σ (gv_is r1 σ)) (h : gd_q0 x σ f = some r) (h1 : gv_md μ') (h2 : gv_sd μ' n) (hl : gv_lkm μ μ' idx) (hd : decode μ.cc pc = .ok (.invokestatic idx, 3)) (hF : μ'.F + 1 ≤ μ.F) (hn : As.length = n) (hent : (lg_sl As).length ≤ μ'.nL) (hw8 : (st.map fun v => v.category).sum ≤ 8) (hk : 1 ≤ k) (hc0 : μ'.c = 0) (hw' : w' = true → μ'.pu = true ∧ w = true) (hno : μ.hh.all (fun h => !(decide (h.1 ≤ pc) && decide (pc < h.2.1))) = true) (hp : pc + 3 = pc') (kk : f = some r → gv_V μ k w' pc' ls (st) σ (gv_is r.1 r.2)) : gv_V μ k w pc ls (As.reverse ++ st) σ (gv_is r.1 r.2) := by
  match x, hK, h with
  | some (.inl none), hK, h => exact gv_cs0 (hK _ rfl) h1 h2 hl hd hF hn hent hw8 hk hc0 hw' hno hp (kk h)
  | some (.inr m), hK, h => exact gv_cst (hK _ rfl) h1 h2 hl hd hF hn hent hw8 hk hc0 hno (gd_rE h)
theorem gd_evi {μ μ' : gM} {k pc pc' idx n : Nat} {w w' : Bool} {ls : List (Option Value)} {As st : List Value} {σ : gS} {q ci N : Nat} {fs : List (Option Nat)} {T0 : u_T} {x : gP} {f : Int32 → gP} {r : gQ} (hK : ∀ r1, x = some r1 → gv_K μ' (.ref q :: As) σ (gv_is r1 σ)) (h : gd_pi x f = some r) (h1 : gv_md μ') (h2 : gv_vd μ' n) (hl : gv_lkm μ μ' idx) (hd : decode μ.cc pc = .ok (.invokevirtual idx, 3)) (hF : μ'.F + 1 ≤ μ.F) (hsh : gv_sh[q]? = some (.inr (ci, fs))) (hcl : vwCl[ci]? = some (μ'.y.cls, T0, N)) (hn : As.length = n) (hent : (lg_sl (.ref q :: As)).length ≤ μ'.nL) (hw8 : (st.map fun v => v.category).sum ≤ 8) (hk : 1 ≤ k) (hc0 : μ'.c = 0) (hw' : w' = true → μ'.pu = true ∧ w = true) (hno : μ.hh.all (fun h => !(decide (h.1 ≤ pc) && decide (pc < h.2.1))) = true) (hp : pc + 3 = pc') (kk : ∀ a, f a = some r → gv_V μ k w' pc' ls (.int a :: st) σ (gv_is r σ)) : gv_V μ k w pc ls (As.reverse ++ .ref q :: st) σ (gv_is r σ) := by
  match x, hK, h with
  | some (.inl (some (.int a))), hK, h => exact gv_cvi (hK _ rfl) h1 h2 hl hd hF hsh hcl hn hent hw8 hk hc0 hw' hno hp (kk _ h)
  | some (.inr m), hK, h => exact gv_cvt (hK _ rfl) h1 h2 hl hd hF hsh hcl hn hent hw8 hk hc0 hno (gd_pE h)
theorem gd_evl {μ μ' : gM} {k pc pc' idx n : Nat} {w w' : Bool} {ls : List (Option Value)} {As st : List Value} {σ : gS} {q ci N : Nat} {fs : List (Option Nat)} {T0 : u_T} {x : gP} {f : Int64 → gP} {r : gQ} (hK : ∀ r1, x = some r1 → gv_K μ' (.ref q :: As) σ (gv_is r1 σ)) (h : gd_pl x f = some r) (h1 : gv_md μ') (h2 : gv_vd μ' n) (hl : gv_lkm μ μ' idx) (hd : decode μ.cc pc = .ok (.invokevirtual idx, 3)) (hF : μ'.F + 1 ≤ μ.F) (hsh : gv_sh[q]? = some (.inr (ci, fs))) (hcl : vwCl[ci]? = some (μ'.y.cls, T0, N)) (hn : As.length = n) (hent : (lg_sl (.ref q :: As)).length ≤ μ'.nL) (hw8 : (st.map fun v => v.category).sum ≤ 8) (hk : 1 ≤ k) (hc0 : μ'.c = 0) (hw' : w' = true → μ'.pu = true ∧ w = true) (hno : μ.hh.all (fun h => !(decide (h.1 ≤ pc) && decide (pc < h.2.1))) = true) (hp : pc + 3 = pc') (kk : ∀ a, f a = some r → gv_V μ k w' pc' ls (.long a :: st) σ (gv_is r σ)) : gv_V μ k w pc ls (As.reverse ++ .ref q :: st) σ (gv_is r σ) := by
  match x, hK, h with
  | some (.inl (some (.long a))), hK, h => exact gv_cvl (hK _ rfl) h1 h2 hl hd hF hsh hcl hn hent hw8 hk hc0 hw' hno hp (kk _ h)
  | some (.inr m), hK, h => exact gv_cvt (hK _ rfl) h1 h2 hl hd hF hsh hcl hn hent hw8 hk hc0 hno (gd_pE h)
theorem gd_ev0 {μ μ' : gM} {k pc pc' idx n : Nat} {w w' : Bool} {ls : List (Option Value)} {As st : List Value} {σ : gS} {q ci N : Nat} {fs : List (Option Nat)} {T0 : u_T} {x : gP} {f : gP} {r : gQ} (hK : ∀ r1, x = some r1 → gv_K μ' (.ref q :: As) σ (gv_is r1 σ)) (h : gd_p0 x f = some r) (h1 : gv_md μ') (h2 : gv_vd μ' n) (hl : gv_lkm μ μ' idx) (hd : decode μ.cc pc = .ok (.invokevirtual idx, 3)) (hF : μ'.F + 1 ≤ μ.F) (hsh : gv_sh[q]? = some (.inr (ci, fs))) (hcl : vwCl[ci]? = some (μ'.y.cls, T0, N)) (hn : As.length = n) (hent : (lg_sl (.ref q :: As)).length ≤ μ'.nL) (hw8 : (st.map fun v => v.category).sum ≤ 8) (hk : 1 ≤ k) (hc0 : μ'.c = 0) (hw' : w' = true → μ'.pu = true ∧ w = true) (hno : μ.hh.all (fun h => !(decide (h.1 ≤ pc) && decide (pc < h.2.1))) = true) (hp : pc + 3 = pc') (kk : f = some r → gv_V μ k w' pc' ls (st) σ (gv_is r σ)) : gv_V μ k w pc ls (As.reverse ++ .ref q :: st) σ (gv_is r σ) := by
  match x, hK, h with
  | some (.inl none), hK, h => exact gv_cv0 (hK _ rfl) h1 h2 hl hd hF hsh hcl hn hent hw8 hk hc0 hw' hno hp (kk h)
  | some (.inr m), hK, h => exact gv_cvt (hK _ rfl) h1 h2 hl hd hF hsh hcl hn hent hw8 hk hc0 hno (gd_pE h)
theorem gd_esi {μ μ' : gM} {k pc pc' idx n : Nat} {w w' : Bool} {ls : List (Option Value)} {As st : List Value} {σ : gS} {x : gP} {f : Int32 → gP} {r : gQ} (hK : ∀ r1, x = some r1 → gv_K μ' As σ (gv_is r1 σ)) (h : gd_pi x f = some r) (h1 : gv_md μ') (h2 : gv_sd μ' n) (hl : gv_lkm μ μ' idx) (hd : decode μ.cc pc = .ok (.invokestatic idx, 3)) (hF : μ'.F + 1 ≤ μ.F) (hn : As.length = n) (hent : (lg_sl As).length ≤ μ'.nL) (hw8 : (st.map fun v => v.category).sum ≤ 8) (hk : 1 ≤ k) (hc0 : μ'.c = 0) (hw' : w' = true → μ'.pu = true ∧ w = true) (hno : μ.hh.all (fun h => !(decide (h.1 ≤ pc) && decide (pc < h.2.1))) = true) (hp : pc + 3 = pc') (kk : ∀ a, f a = some r → gv_V μ k w' pc' ls (.int a :: st) σ (gv_is r σ)) : gv_V μ k w pc ls (As.reverse ++ st) σ (gv_is r σ) := by
  match x, hK, h with
  | some (.inl (some (.int a))), hK, h => exact gv_csi (hK _ rfl) h1 h2 hl hd hF hn hent hw8 hk hc0 hw' hno hp (kk _ h)
  | some (.inr m), hK, h => exact gv_cst (hK _ rfl) h1 h2 hl hd hF hn hent hw8 hk hc0 hno (gd_pE h)
theorem gd_esl {μ μ' : gM} {k pc pc' idx n : Nat} {w w' : Bool} {ls : List (Option Value)} {As st : List Value} {σ : gS} {x : gP} {f : Int64 → gP} {r : gQ} (hK : ∀ r1, x = some r1 → gv_K μ' As σ (gv_is r1 σ)) (h : gd_pl x f = some r) (h1 : gv_md μ') (h2 : gv_sd μ' n) (hl : gv_lkm μ μ' idx) (hd : decode μ.cc pc = .ok (.invokestatic idx, 3)) (hF : μ'.F + 1 ≤ μ.F) (hn : As.length = n) (hent : (lg_sl As).length ≤ μ'.nL) (hw8 : (st.map fun v => v.category).sum ≤ 8) (hk : 1 ≤ k) (hc0 : μ'.c = 0) (hw' : w' = true → μ'.pu = true ∧ w = true) (hno : μ.hh.all (fun h => !(decide (h.1 ≤ pc) && decide (pc < h.2.1))) = true) (hp : pc + 3 = pc') (kk : ∀ a, f a = some r → gv_V μ k w' pc' ls (.long a :: st) σ (gv_is r σ)) : gv_V μ k w pc ls (As.reverse ++ st) σ (gv_is r σ) := by
  match x, hK, h with
  | some (.inl (some (.long a))), hK, h => exact gv_csl (hK _ rfl) h1 h2 hl hd hF hn hent hw8 hk hc0 hw' hno hp (kk _ h)
  | some (.inr m), hK, h => exact gv_cst (hK _ rfl) h1 h2 hl hd hF hn hent hw8 hk hc0 hno (gd_pE h)
theorem gd_es0 {μ μ' : gM} {k pc pc' idx n : Nat} {w w' : Bool} {ls : List (Option Value)} {As st : List Value} {σ : gS} {x : gP} {f : gP} {r : gQ} (hK : ∀ r1, x = some r1 → gv_K μ' As σ (gv_is r1 σ)) (h : gd_p0 x f = some r) (h1 : gv_md μ') (h2 : gv_sd μ' n) (hl : gv_lkm μ μ' idx) (hd : decode μ.cc pc = .ok (.invokestatic idx, 3)) (hF : μ'.F + 1 ≤ μ.F) (hn : As.length = n) (hent : (lg_sl As).length ≤ μ'.nL) (hw8 : (st.map fun v => v.category).sum ≤ 8) (hk : 1 ≤ k) (hc0 : μ'.c = 0) (hw' : w' = true → μ'.pu = true ∧ w = true) (hno : μ.hh.all (fun h => !(decide (h.1 ≤ pc) && decide (pc < h.2.1))) = true) (hp : pc + 3 = pc') (kk : f = some r → gv_V μ k w' pc' ls (st) σ (gv_is r σ)) : gv_V μ k w pc ls (As.reverse ++ st) σ (gv_is r σ) := by
  match x, hK, h with
  | some (.inl none), hK, h => exact gv_cs0 (hK _ rfl) h1 h2 hl hd hF hn hent hw8 hk hc0 hw' hno hp (kk h)
  | some (.inr m), hK, h => exact gv_cst (hK _ rfl) h1 h2 hl hd hF hn hent hw8 hk hc0 hno (gd_pE h)
theorem gd_cs0s {μ μ' : gM} {k pc pc' idx n : Nat} {w w' : Bool} {ls : List (Option Value)} {As st : List Value} {σ σ1 : gS} {f : gS → gR} {r : gQ × gS} (hR : gv_K μ' As σ (gv_is (.inl none) σ1)) (h1 : gv_md μ') (h2 : gv_sd μ' n) (hl : gv_lkm μ μ' idx) (hd : decode μ.cc pc = .ok (.invokestatic idx, 3)) (hF : μ'.F + 1 ≤ μ.F) (hn : As.length = n) (hent : (lg_sl As).length ≤ μ'.nL) (hw8 : (st.map fun v => v.category).sum ≤ 8) (hk : 1 ≤ k) (hc0 : μ'.c = 0) (hw' : w' = true → μ'.pu = true ∧ w = true) (hno : μ.hh.all (fun h => !(decide (h.1 ≤ pc) && decide (pc < h.2.1))) = true) (hp : pc + 3 = pc') (h : gd_s σ1 f = some r) (kk : ∀ s, f s = some r → gv_V μ k w' pc' ls st s (gv_is r.1 r.2)) : gv_V μ k w pc ls (As.reverse ++ st) σ (gv_is r.1 r.2) := gv_cs0 hR h1 h2 hl hd hF hn hent hw8 hk hc0 hw' hno hp (kk _ h)
abbrev gd_fr (x y : Int32) (n : Nat) : Prop := (¬ x < 0 ∧ ¬ y < 0) ∧ x.toNatClampNeg ≤ y.toNatClampNeg ∧ y.toNatClampNeg ≤ n
theorem gd_fillJ (p n : Nat) (x y : Int32) (v : Int64) (σ : gS) (hsh : gv_sh[p]? = some (.inl (.long, n))) (hn : n < 2147483648) (h : gd_fr x y n) : gv_K m_A_fill_aJIIJ [.ref p, .int x, .int y, .long v] σ (gv_is (.inl none) (gs_rowL σ p (f_fillL (gL σ p) x.toNatClampNeg y.toNatClampNeg v))) := by
  have h0 := c_A_fill_aJIIJ p n x.toNatClampNeg y.toNatClampNeg v σ hsh hn h.2.1 h.2.2
  rw [← ai_of h.1.1, ← ai_of h.1.2] at h0
  exact h0
abbrev gd_cp (σ : gS) (q0 n0 n1 : Nat) (sp dp n : Int32) (ty : FieldType) : Prop := (¬ sp < 0 ∧ ¬ dp < 0 ∧ ¬ n < 0) ∧ (sp.toNatClampNeg + n.toNatClampNeg ≤ n0 ∧ dp.toNatClampNeg + n.toNatClampNeg ≤ n1) ∧ ∀ i, i < n.toNatClampNeg → fits ty (.int (gA σ q0 (sp.toNatClampNeg + i))) = true
theorem gd_wrow {cA : FieldType → ClassId} {ad : Nat → Nat} {σ : gS} {q n : Nat} {ty : FieldType} {g : Nat → Int32} (hty : ty ≠ .long) (hsh : gv_sh[q]? = some (.inl (ty, n))) : (gv_w cA ad σ).set q (ad q, .inl (cA ty, n, .inl g)) = gv_w cA ad (gs_row σ q g) := by
  have hoth : ∀ r, r ≠ q → ∀ d', gv_e cA ad (gs_row σ q g) r d' = gv_e cA ad σ r d' := by
    intro r hr d'
    rcases d' with ⟨ty', n'⟩ | ⟨ci', fs'⟩
    · cases ty' <;> simp [gv_e, gs_row, hr]
    · rfl
  have h0 := gv_wset (cA := cA) (ad := ad) (σ := σ) (σ' := gs_row σ q g) hsh hoth
  have e1 : (gs_row σ q g).2.1 q = g := if_pos rfl
  have e0 : gv_e cA ad (gs_row σ q g) q (.inl (ty, n)) = .inl (cA ty, n, .inl g) := by
    cases ty <;> first | exact absurd rfl hty | (show va_E.inl _ = _; rw [← e1]; rfl) | (rw [← e1]; rfl) | (simp [gv_e, e1])
  rw [e0] at h0
  exact h0
theorem gd_copyI {μ : gM} {k pc pc' : Nat} {w : Bool} {ls : List (Option Value)} {st : List Value} {σ : gS} {f : gS → gR} {r : gQ × gS} {q0 q1 n0 n1 idx : Nat} {sp dp n : Int32} (hm : Cond.methodLink μ.y.cls idx arraycopyName ∈ gv_ws) (hd : decode μ.cc pc = .ok (.invokestatic idx, 3)) (hs0 : gv_sh[q0]? = some (.inl (.int, n0))) (hs1 : gv_sh[q1]? = some (.inl (.int, n1))) (hg : gd_cp σ q0 n0 n1 sp dp n .int) (hF : 8 ≤ μ.F) (hst : Nat.ble (st.map fun v => v.category).sum 8 = true) (hp : pc + 3 = pc') (h : gd_s (gs_row σ q1 (va_cpy (gA σ q0) (gA σ q1) sp.toNatClampNeg dp.toNatClampNeg n.toNatClampNeg)) f = some r) (kk : ∀ s, f s = some r → gv_V μ k false pc' ls st s (gv_is r.1 r.2)) : gv_V μ k w pc ls (.int n :: .int dp :: .ref q1 :: .int sp :: .ref q0 :: st) σ (gv_is r.1 r.2) := by
  intro p l e R s m args below meth c D cA ad Z hC hE H locs cells slots sl hw0 hc hs hX hP hS hl
  subst hp
  have hD : va_D (gv_A ad s) (gv_w cA ad σ) := gv_Aw hC.2.2.2.1
  have hR1 := hC.1.2.2.2.2.2.2.2.2.1
  have hR2 := hC.1.2.2.2.2.2.2.2.2.2
  have hN : nativeFrameWords "java/lang/System" "arraycopy" 5 + 11 ≤ 100 := by decide +kernel
  have h8 := Nat.le_of_ble_eq_true hst
  exact va_copyi hC.1.1 hC.1.2.1 (hC.1.2.2.1.trans hl.1.symm) hC.1.2.2.2.1 (va_tabs rfl rfl (hC.2.1 _ hm)) (va_tabs rfl rfl (hC.2.1 _ gd_cp1)) (va_tabs rfl rfl (hC.2.1 _ gd_cp2)) (va_tabs rfl rfl (hC.2.1 _ gd_cp3)) hC.2.2.1 hP hD hS q0 q1 0 0 (gv_wget σ hs0) (gv_wget σ hs1) rfl rfl rfl hg.1.1 hg.1.2.1 hg.1.2.2 hg.2.1.1 hg.2.1.2 hg.2.2 (by omega) (by rw [gv_cat]; omega) hd (fun H1 locs1 hP1 _ hS1 => by
    rw [gd_wrow (by decide) hs1] at hP1
    exact kk _ h p l e R s m args below meth c D cA ad Z hC hE H1 locs1 cells slots sl (fun z => by cases z) hc hs hX hP1 hS1 hl)
theorem gd_copyB {μ : gM} {k pc pc' : Nat} {w : Bool} {ls : List (Option Value)} {st : List Value} {σ : gS} {f : gS → gR} {r : gQ × gS} {q0 q1 n0 n1 idx : Nat} {sp dp n : Int32} (hm : Cond.methodLink μ.y.cls idx arraycopyName ∈ gv_ws) (hd : decode μ.cc pc = .ok (.invokestatic idx, 3)) (hs0 : gv_sh[q0]? = some (.inl (.byte, n0))) (hs1 : gv_sh[q1]? = some (.inl (.byte, n1))) (hg : gd_cp σ q0 n0 n1 sp dp n .byte) (hF : 8 ≤ μ.F) (hst : Nat.ble (st.map fun v => v.category).sum 8 = true) (hp : pc + 3 = pc') (h : gd_s (gs_row σ q1 (va_cpy (gA σ q0) (gA σ q1) sp.toNatClampNeg dp.toNatClampNeg n.toNatClampNeg)) f = some r) (kk : ∀ s, f s = some r → gv_V μ k false pc' ls st s (gv_is r.1 r.2)) : gv_V μ k w pc ls (.int n :: .int dp :: .ref q1 :: .int sp :: .ref q0 :: st) σ (gv_is r.1 r.2) := by
  intro p l e R s m args below meth c D cA ad Z hC hE H locs cells slots sl hw0 hc hs hX hP hS hl
  subst hp
  have hD : va_D (gv_A ad s) (gv_w cA ad σ) := gv_Aw hC.2.2.2.1
  have hR1 := hC.1.2.2.2.2.2.2.2.2.1
  have hR2 := hC.1.2.2.2.2.2.2.2.2.2
  have hN : nativeFrameWords "java/lang/System" "arraycopy" 5 + 11 ≤ 100 := by decide +kernel
  have h8 := Nat.le_of_ble_eq_true hst
  exact va_copyi hC.1.1 hC.1.2.1 (hC.1.2.2.1.trans hl.1.symm) hC.1.2.2.2.1 (va_tabs rfl rfl (hC.2.1 _ hm)) (va_tabs rfl rfl (hC.2.1 _ gd_cp1)) (va_tabs rfl rfl (hC.2.1 _ gd_cp2)) (va_tabs rfl rfl (hC.2.1 _ gd_cp3)) hC.2.2.1 hP hD hS q0 q1 1 1 (gv_wget σ hs0) (gv_wget σ hs1) rfl rfl rfl hg.1.1 hg.1.2.1 hg.1.2.2 hg.2.1.1 hg.2.1.2 hg.2.2 (by omega) (by rw [gv_cat]; omega) hd (fun H1 locs1 hP1 _ hS1 => by
    rw [gd_wrow (by decide) hs1] at hP1
    exact kk _ h p l e R s m args below meth c D cA ad Z hC hE H1 locs1 cells slots sl (fun z => by cases z) hc hs hX hP1 hS1 hl)
