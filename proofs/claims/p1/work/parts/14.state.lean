theorem gv_isr (o : gQ) (σ : gS) : gv_is o σ o σ := And.intro rfl rfl
theorem gv_isv {o o' : gQ} {σ σ' : gS} (h1 : o' = o) (h2 : σ' = σ) : gv_is o σ o' σ' := And.intro h1 h2
abbrev gI (σ : gS) (p k : Nat) : Int32 := σ.1 p k
abbrev gA (σ : gS) (p j : Nat) : Int32 := σ.2.1 p j
abbrev gL (σ : gS) (p j : Nat) : Int64 := σ.2.2.1 p j
def gs_I (σ : gS) (p k : Nat) (v : Int32) : gS := (gv_up σ.1 p k v, σ.2)
def gs_A (σ : gS) (p j : Nat) (v : Int32) : gS := (σ.1, gv_up σ.2.1 p j v, σ.2.2)
def gs_L (σ : gS) (p j : Nat) (v : Int64) : gS := (σ.1, σ.2.1, gv_up σ.2.2.1 p j v, σ.2.2.2)
theorem gI_I (σ : gS) (p k : Nat) (v : Int32) (q j : Nat) : gI (gs_I σ p k v) q j = if q = p then (if j = k then v else gI σ q j) else gI σ q j := rfl
theorem gI_A (σ : gS) (p k : Nat) (v : Int32) (q j : Nat) : gI (gs_A σ p k v) q j = gI σ q j := rfl
theorem gI_L (σ : gS) (p k : Nat) (v : Int64) (q j : Nat) : gI (gs_L σ p k v) q j = gI σ q j := rfl
theorem gA_I (σ : gS) (p k : Nat) (v : Int32) (q j : Nat) : gA (gs_I σ p k v) q j = gA σ q j := rfl
theorem gA_A (σ : gS) (p k : Nat) (v : Int32) (q j : Nat) : gA (gs_A σ p k v) q j = if q = p then (if j = k then v else gA σ q j) else gA σ q j := rfl
theorem gA_L (σ : gS) (p k : Nat) (v : Int64) (q j : Nat) : gA (gs_L σ p k v) q j = gA σ q j := rfl
theorem gL_I (σ : gS) (p k : Nat) (v : Int32) (q j : Nat) : gL (gs_I σ p k v) q j = gL σ q j := rfl
theorem gL_A (σ : gS) (p k : Nat) (v : Int32) (q j : Nat) : gL (gs_A σ p k v) q j = gL σ q j := rfl
theorem gL_L (σ : gS) (p k : Nat) (v : Int64) (q j : Nat) : gL (gs_L σ p k v) q j = if q = p then (if j = k then v else gL σ q j) else gL σ q j := rfl
theorem gv_putj {μ : gM} {k pc pc' : Nat} {w : Bool} {ls : List (Option Value)} {st : List Value} {σ : gS} {Q : gQ → gS → Prop} {q ci kf idx : Nat} {fs : List (Option Nat)} {x : Int32} {ty : FieldType} (lk : gv_lkp μ.y.cls idx ci kf ty) (hd : decode μ.cc pc = .ok (.putfield idx, 3)) (hsh : gv_sh[q]? = some (.inr (ci, fs))) (hf : fs[kf]? = some none) (hn : narrow ty (.int x) = .int x) (hfit : fits ty (.int x) = true) (hp : pc + 3 = pc')
    (h : gv_V μ k false pc' ls st (gs_I σ q kf x) Q) : gv_V μ k w pc ls (.int x :: .ref q :: st) σ Q := gv_puti lk hd hsh hf hn hfit hp h
theorem gv_getj {μ : gM} {k pc pc' : Nat} {w : Bool} {ls : List (Option Value)} {st : List Value} {σ : gS} {Q : gQ → gS → Prop} {q ci kf idx : Nat} {fs : List (Option Nat)} (lk : gv_lk μ.y.cls idx ci kf) (hd : decode μ.cc pc = .ok (.getfield idx, 3)) (hsh : gv_sh[q]? = some (.inr (ci, fs))) (hf : fs[kf]? = some none) (hp : pc + 3 = pc')
    (h : gv_V μ k w pc' ls (.int (gI σ q kf) :: st) σ Q) : gv_V μ k w pc ls (.ref q :: st) σ Q := gv_geti lk hd hsh hf hp h
theorem gj_iald {μ : gM} {k pc pc' : Nat} {w : Bool} {ls : List (Option Value)} {st : List Value} {σ : gS} {Q : gQ → gS → Prop} {q n : Nat} {i : Int32} (j : Nat) (hd : decode μ.cc pc = .ok (.iaload, 1)) (hsh : gv_sh[q]? = some (.inl (.int, n))) (hin : vp_in i n) (hj : i.toNatClampNeg = j) (hp : pc + 1 = pc')
    (h : gv_V μ k w pc' ls (.int (gA σ q j) :: st) σ Q) : gv_V μ k w pc ls (.int i :: .ref q :: st) σ Q := gv_iald j hd hsh hin hj hp h
theorem gj_bald {μ : gM} {k pc pc' : Nat} {w : Bool} {ls : List (Option Value)} {st : List Value} {σ : gS} {Q : gQ → gS → Prop} {q n : Nat} {i : Int32} (j : Nat) (hd : decode μ.cc pc = .ok (.baload, 1)) (hsh : gv_sh[q]? = some (.inl (.byte, n))) (hin : vp_in i n) (hj : i.toNatClampNeg = j) (hp : pc + 1 = pc')
    (h : gv_V μ k w pc' ls (.int (gA σ q j) :: st) σ Q) : gv_V μ k w pc ls (.int i :: .ref q :: st) σ Q := gv_bald j hd hsh hin hj hp h
theorem gj_zald {μ : gM} {k pc pc' : Nat} {w : Bool} {ls : List (Option Value)} {st : List Value} {σ : gS} {Q : gQ → gS → Prop} {q n : Nat} {i : Int32} (j : Nat) (hd : decode μ.cc pc = .ok (.baload, 1)) (hsh : gv_sh[q]? = some (.inl (.boolean, n))) (hin : vp_in i n) (hj : i.toNatClampNeg = j) (hp : pc + 1 = pc')
    (h : gv_V μ k w pc' ls (.int (gA σ q j) :: st) σ Q) : gv_V μ k w pc ls (.int i :: .ref q :: st) σ Q := gv_zald j hd hsh hin hj hp h
theorem gj_lald {μ : gM} {k pc pc' : Nat} {w : Bool} {ls : List (Option Value)} {st : List Value} {σ : gS} {Q : gQ → gS → Prop} {q n : Nat} {i : Int32} (j : Nat) (hd : decode μ.cc pc = .ok (.laload, 1)) (hsh : gv_sh[q]? = some (.inl (.long, n))) (hin : vp_in i n) (hj : i.toNatClampNeg = j) (hp : pc + 1 = pc')
    (h : gv_V μ k w pc' ls (.long (gL σ q j) :: st) σ Q) : gv_V μ k w pc ls (.int i :: .ref q :: st) σ Q := gv_lald j hd hsh hin hj hp h
theorem gj_iast {μ : gM} {k pc pc' : Nat} {w : Bool} {ls : List (Option Value)} {st : List Value} {σ : gS} {Q : gQ → gS → Prop} {q n : Nat} {i : Int32} {x : Int32} (j : Nat) (hd : decode μ.cc pc = .ok (.iastore, 1)) (hsh : gv_sh[q]? = some (.inl (.int, n))) (hin : vp_in i n) (hj : i.toNatClampNeg = j) (hp : pc + 1 = pc')
    (h : gv_V μ k false pc' ls st (gs_A σ q j x) Q) : gv_V μ k w pc ls (.int x :: .int i :: .ref q :: st) σ Q := gv_iast j hd hsh hin hj hp h
theorem gj_bast {μ : gM} {k pc pc' : Nat} {w : Bool} {ls : List (Option Value)} {st : List Value} {σ : gS} {Q : gQ → gS → Prop} {q n : Nat} {i : Int32} {x : Int32} (j : Nat) (hd : decode μ.cc pc = .ok (.bastore, 1)) (hsh : gv_sh[q]? = some (.inl (.byte, n))) (hin : vp_in i n) (hj : i.toNatClampNeg = j) (hp : pc + 1 = pc')
    (h : gv_V μ k false pc' ls st (gs_A σ q j (vp_nar .byte x)) Q) : gv_V μ k w pc ls (.int x :: .int i :: .ref q :: st) σ Q := gv_bast j hd hsh hin hj hp h
theorem gj_zast {μ : gM} {k pc pc' : Nat} {w : Bool} {ls : List (Option Value)} {st : List Value} {σ : gS} {Q : gQ → gS → Prop} {q n : Nat} {i : Int32} {x : Int32} (j : Nat) (hd : decode μ.cc pc = .ok (.bastore, 1)) (hsh : gv_sh[q]? = some (.inl (.boolean, n))) (hin : vp_in i n) (hj : i.toNatClampNeg = j) (hp : pc + 1 = pc')
    (h : gv_V μ k false pc' ls st (gs_A σ q j (vp_nar .boolean x)) Q) : gv_V μ k w pc ls (.int x :: .int i :: .ref q :: st) σ Q := gv_zast j hd hsh hin hj hp h
theorem gj_last {μ : gM} {k pc pc' : Nat} {w : Bool} {ls : List (Option Value)} {st : List Value} {σ : gS} {Q : gQ → gS → Prop} {q n : Nat} {i : Int32} {x : Int64} (j : Nat) (hd : decode μ.cc pc = .ok (.lastore, 1)) (hsh : gv_sh[q]? = some (.inl (.long, n))) (hin : vp_in i n) (hj : i.toNatClampNeg = j) (hp : pc + 1 = pc')
    (h : gv_V μ k false pc' ls st (gs_L σ q j x) Q) : gv_V μ k w pc ls (.long x :: .int i :: .ref q :: st) σ Q := gv_last j hd hsh hin hj hp h
