theorem gv_iconst {μ : gM} {k pc pc' : Nat} {w : Bool} {ls : List (Option Value)} {st : List Value} {σ : gS} {Q : gQ → gS → Prop} {n : Int} {v : Int32} (hd : decode μ.cc pc = .ok (.iconst n, 1)) (hv : Int32.ofInt n = v) (hp : pc + 1 = pc')
    (h : gv_V μ k w pc' ls (.int v :: st) σ Q) : gv_V μ k w pc ls (st) σ Q := by
  intro p l e R s m args below meth c D cA ad Z hC hE H locs cells slots sl hw0 hc hs hX hP hS hl
  subst hp
  exact lv_iconst hC.1.1 hC.1.2.1 hd hv (h p l e R s m args below meth c D cA ad Z hC hE H locs cells slots sl hw0 hc hs hX hP hS hl)
theorem gv_bipush {μ : gM} {k pc pc' : Nat} {w : Bool} {ls : List (Option Value)} {st : List Value} {σ : gS} {Q : gQ → gS → Prop} {n : Int} {v : Int32} (hd : decode μ.cc pc = .ok (.bipush n, 2)) (hv : (Int8.ofInt n).toInt32 = v) (hp : pc + 2 = pc')
    (h : gv_V μ k w pc' ls (.int v :: st) σ Q) : gv_V μ k w pc ls (st) σ Q := by
  intro p l e R s m args below meth c D cA ad Z hC hE H locs cells slots sl hw0 hc hs hX hP hS hl
  subst hp
  exact lv_bipush hC.1.1 hC.1.2.1 hd hv (h p l e R s m args below meth c D cA ad Z hC hE H locs cells slots sl hw0 hc hs hX hP hS hl)
theorem gv_sipush {μ : gM} {k pc pc' : Nat} {w : Bool} {ls : List (Option Value)} {st : List Value} {σ : gS} {Q : gQ → gS → Prop} {n : Int} {v : Int32} (hd : decode μ.cc pc = .ok (.sipush n, 3)) (hv : (Int16.ofInt n).toInt32 = v) (hp : pc + 3 = pc')
    (h : gv_V μ k w pc' ls (.int v :: st) σ Q) : gv_V μ k w pc ls (st) σ Q := by
  intro p l e R s m args below meth c D cA ad Z hC hE H locs cells slots sl hw0 hc hs hX hP hS hl
  subst hp
  exact lv_sipush hC.1.1 hC.1.2.1 hd hv (h p l e R s m args below meth c D cA ad Z hC hE H locs cells slots sl hw0 hc hs hX hP hS hl)
theorem gv_lconst {μ : gM} {k pc pc' : Nat} {w : Bool} {ls : List (Option Value)} {st : List Value} {σ : gS} {Q : gQ → gS → Prop} {n : Fin 2} {v : Int64} (hd : decode μ.cc pc = .ok (.lconst n, 1)) (hv : Int64.ofNat (n : Nat) = v) (hp : pc + 1 = pc')
    (h : gv_V μ k w pc' ls (.long v :: st) σ Q) : gv_V μ k w pc ls (st) σ Q := by
  intro p l e R s m args below meth c D cA ad Z hC hE H locs cells slots sl hw0 hc hs hX hP hS hl
  subst hp
  exact lv_lconst hC.1.1 hC.1.2.1 hd hv (h p l e R s m args below meth c D cA ad Z hC hE H locs cells slots sl hw0 hc hs hX hP hS hl)
theorem gv_ldc {μ : gM} {k pc pc' : Nat} {w : Bool} {ls : List (Option Value)} {st : List Value} {σ : gS} {Q : gQ → gS → Prop} {i : Nat} {v : Int32} (hd : decode μ.cc pc = .ok (.ldc i, 2)) (hw : Cond.constant μ.y.cls i v ∈ gv_ws) (hp : pc + 2 = pc')
    (h : gv_V μ k w pc' ls (.int v :: st) σ Q) : gv_V μ k w pc ls st σ Q := by
  intro p l e R s m args below meth c D cA ad Z hC hE H locs cells slots sl hw0 hc hs hX hP hS hl
  subst hp
  exact lv_ldc hC.1.1 hC.1.2.1 hC.1.2.2.2.1 (va_tabs rfl rfl (hC.2.1 _ hw)) hd (h p l e R s m args below meth c D cA ad Z hC hE H locs cells slots sl hw0 hc hs hX hP hS hl)
theorem gv_ldc2 {μ : gM} {k pc pc' : Nat} {w : Bool} {ls : List (Option Value)} {st : List Value} {σ : gS} {Q : gQ → gS → Prop} {i : Nat} {v : Int64} (hd : decode μ.cc pc = .ok (.ldc2_w i, 3)) (hw : Cond.constantLong μ.y.cls i v ∈ gv_ws) (hp : pc + 3 = pc')
    (h : gv_V μ k w pc' ls (.long v :: st) σ Q) : gv_V μ k w pc ls st σ Q := by
  intro p l e R s m args below meth c D cA ad Z hC hE H locs cells slots sl hw0 hc hs hX hP hS hl
  subst hp
  exact lv_ldc2 hC.1.1 hC.1.2.1 hC.1.2.2.2.1 (va_tabs rfl rfl (hC.2.1 _ hw)) hd (h p l e R s m args below meth c D cA ad Z hC hE H locs cells slots sl hw0 hc hs hX hP hS hl)
theorem gv_iload_n {μ : gM} {k pc pc' : Nat} {w : Bool} {ls : List (Option Value)} {st : List Value} {σ : gS} {Q : gQ → gS → Prop} {n : Fin 4} {x : Int32} (hd : decode μ.cc pc = .ok (.iload_n n, 1)) (hi : ls[(n : Nat)]? = some (some (.int x))) (hp : pc + 1 = pc')
    (h : gv_V μ k w pc' ls (.int x :: st) σ Q) : gv_V μ k w pc ls st σ Q := by
  intro p l e R s m args below meth c D cA ad Z hC hE H locs cells slots sl hw0 hc hs hX hP hS hl
  subst hp
  exact lv_iload_n hC.1.1 hC.1.2.1 hd rfl (gv_lat hl hi) (h p l e R s m args below meth c D cA ad Z hC hE H locs cells slots sl hw0 hc hs hX hP hS hl)
theorem gv_iload {μ : gM} {k pc pc' : Nat} {w : Bool} {ls : List (Option Value)} {st : List Value} {σ : gS} {Q : gQ → gS → Prop} {n : Nat} {x : Int32} (hd : decode μ.cc pc = .ok (.iload n, 2)) (hi : ls[n]? = some (some (.int x))) (hp : pc + 2 = pc')
    (h : gv_V μ k w pc' ls (.int x :: st) σ Q) : gv_V μ k w pc ls st σ Q := by
  intro p l e R s m args below meth c D cA ad Z hC hE H locs cells slots sl hw0 hc hs hX hP hS hl
  subst hp
  exact lv_iload hC.1.1 hC.1.2.1 hd (gv_lat hl hi) (h p l e R s m args below meth c D cA ad Z hC hE H locs cells slots sl hw0 hc hs hX hP hS hl)
theorem gv_lload_n {μ : gM} {k pc pc' : Nat} {w : Bool} {ls : List (Option Value)} {st : List Value} {σ : gS} {Q : gQ → gS → Prop} {n : Fin 4} {x : Int64} (hd : decode μ.cc pc = .ok (.lload_n n, 1)) (hi : ls[(n : Nat)]? = some (some (.long x))) (hp : pc + 1 = pc')
    (h : gv_V μ k w pc' ls (.long x :: st) σ Q) : gv_V μ k w pc ls st σ Q := by
  intro p l e R s m args below meth c D cA ad Z hC hE H locs cells slots sl hw0 hc hs hX hP hS hl
  subst hp
  exact lv_lload_n hC.1.1 hC.1.2.1 hd rfl (gv_lat hl hi) (h p l e R s m args below meth c D cA ad Z hC hE H locs cells slots sl hw0 hc hs hX hP hS hl)
theorem gv_lload {μ : gM} {k pc pc' : Nat} {w : Bool} {ls : List (Option Value)} {st : List Value} {σ : gS} {Q : gQ → gS → Prop} {n : Nat} {x : Int64} (hd : decode μ.cc pc = .ok (.lload n, 2)) (hi : ls[n]? = some (some (.long x))) (hp : pc + 2 = pc')
    (h : gv_V μ k w pc' ls (.long x :: st) σ Q) : gv_V μ k w pc ls st σ Q := by
  intro p l e R s m args below meth c D cA ad Z hC hE H locs cells slots sl hw0 hc hs hX hP hS hl
  subst hp
  exact lv_lload hC.1.1 hC.1.2.1 hd (gv_lat hl hi) (h p l e R s m args below meth c D cA ad Z hC hE H locs cells slots sl hw0 hc hs hX hP hS hl)
theorem gv_aload_n {μ : gM} {k pc pc' : Nat} {w : Bool} {ls : List (Option Value)} {st : List Value} {σ : gS} {Q : gQ → gS → Prop} {n : Fin 4} {x : Nat} (hd : decode μ.cc pc = .ok (.aload_n n, 1)) (hi : ls[(n : Nat)]? = some (some (.ref x))) (hp : pc + 1 = pc')
    (h : gv_V μ k w pc' ls (.ref x :: st) σ Q) : gv_V μ k w pc ls st σ Q := by
  intro p l e R s m args below meth c D cA ad Z hC hE H locs cells slots sl hw0 hc hs hX hP hS hl
  subst hp
  exact lv_aload_n hC.1.1 hC.1.2.1 hd rfl (gv_lat hl hi) (h p l e R s m args below meth c D cA ad Z hC hE H locs cells slots sl hw0 hc hs hX hP hS hl)
theorem gv_aload {μ : gM} {k pc pc' : Nat} {w : Bool} {ls : List (Option Value)} {st : List Value} {σ : gS} {Q : gQ → gS → Prop} {n : Nat} {x : Nat} (hd : decode μ.cc pc = .ok (.aload n, 2)) (hi : ls[n]? = some (some (.ref x))) (hp : pc + 2 = pc')
    (h : gv_V μ k w pc' ls (.ref x :: st) σ Q) : gv_V μ k w pc ls st σ Q := by
  intro p l e R s m args below meth c D cA ad Z hC hE H locs cells slots sl hw0 hc hs hX hP hS hl
  subst hp
  exact lv_aload hC.1.1 hC.1.2.1 hd (gv_lat hl hi) (h p l e R s m args below meth c D cA ad Z hC hE H locs cells slots sl hw0 hc hs hX hP hS hl)
theorem gv_istore_n {μ : gM} {k pc pc' : Nat} {w : Bool} {ls : List (Option Value)} {st : List Value} {σ : gS} {Q : gQ → gS → Prop} {n : Fin 4} {x : Int32} (hd : decode μ.cc pc = .ok (.istore_n n, 1)) (hn : (n : Nat) < μ.nL) (hp : pc + 1 = pc')
    (h : gv_V μ k w pc' (gv_s1 ls (n : Nat) (.int x)) st σ Q) : gv_V μ k w pc ls (.int x :: st) σ Q := by
  intro p l e R s m args below meth c D cA ad Z hC hE H locs cells slots sl hw0 hc hs hX hP hS hl
  subst hp
  exact lv_istore_n hC.1.1 hC.1.2.1 hd rfl hl hn rfl (fun sl' hl' => h p l e R s m args below meth c D cA ad Z hC hE H locs cells slots sl' hw0 hc hs hX hP hS (gv_sub1 (v := .int x) hl'))
theorem gv_istore {μ : gM} {k pc pc' : Nat} {w : Bool} {ls : List (Option Value)} {st : List Value} {σ : gS} {Q : gQ → gS → Prop} {n : Nat} {x : Int32} (hd : decode μ.cc pc = .ok (.istore n, 2)) (hn : n < μ.nL) (hp : pc + 2 = pc')
    (h : gv_V μ k w pc' (gv_s1 ls n (.int x)) st σ Q) : gv_V μ k w pc ls (.int x :: st) σ Q := by
  intro p l e R s m args below meth c D cA ad Z hC hE H locs cells slots sl hw0 hc hs hX hP hS hl
  subst hp
  exact lv_istore hC.1.1 hC.1.2.1 hd hl hn rfl (fun sl' hl' => h p l e R s m args below meth c D cA ad Z hC hE H locs cells slots sl' hw0 hc hs hX hP hS (gv_sub1 (v := .int x) hl'))
theorem gv_lstore_n {μ : gM} {k pc pc' : Nat} {w : Bool} {ls : List (Option Value)} {st : List Value} {σ : gS} {Q : gQ → gS → Prop} {n : Fin 4} {x : Int64} (hd : decode μ.cc pc = .ok (.lstore_n n, 1)) (hn : (n : Nat) + 1 < μ.nL) (hp : pc + 1 = pc')
    (h : gv_V μ k w pc' (gv_s2 ls (n : Nat) (.long x)) st σ Q) : gv_V μ k w pc ls (.long x :: st) σ Q := by
  intro p l e R s m args below meth c D cA ad Z hC hE H locs cells slots sl hw0 hc hs hX hP hS hl
  subst hp
  exact lv_lstore_n hC.1.1 hC.1.2.1 hd rfl hl hn rfl (fun sl' hl' => h p l e R s m args below meth c D cA ad Z hC hE H locs cells slots sl' hw0 hc hs hX hP hS (gv_sub2 (v := .long x) hl'))
theorem gv_lstore {μ : gM} {k pc pc' : Nat} {w : Bool} {ls : List (Option Value)} {st : List Value} {σ : gS} {Q : gQ → gS → Prop} {n : Nat} {x : Int64} (hd : decode μ.cc pc = .ok (.lstore n, 2)) (hn : n + 1 < μ.nL) (hp : pc + 2 = pc')
    (h : gv_V μ k w pc' (gv_s2 ls n (.long x)) st σ Q) : gv_V μ k w pc ls (.long x :: st) σ Q := by
  intro p l e R s m args below meth c D cA ad Z hC hE H locs cells slots sl hw0 hc hs hX hP hS hl
  subst hp
  exact lv_lstore hC.1.1 hC.1.2.1 hd hl hn rfl (fun sl' hl' => h p l e R s m args below meth c D cA ad Z hC hE H locs cells slots sl' hw0 hc hs hX hP hS (gv_sub2 (v := .long x) hl'))
theorem gv_astore_n {μ : gM} {k pc pc' : Nat} {w : Bool} {ls : List (Option Value)} {st : List Value} {σ : gS} {Q : gQ → gS → Prop} {n : Fin 4} {x : Nat} (hd : decode μ.cc pc = .ok (.astore_n n, 1)) (hn : (n : Nat) < μ.nL) (hp : pc + 1 = pc')
    (h : gv_V μ k w pc' (gv_s1 ls (n : Nat) (.ref x)) st σ Q) : gv_V μ k w pc ls (.ref x :: st) σ Q := by
  intro p l e R s m args below meth c D cA ad Z hC hE H locs cells slots sl hw0 hc hs hX hP hS hl
  subst hp
  exact lv_astore_n hC.1.1 hC.1.2.1 hd rfl hl hn rfl (fun sl' hl' => h p l e R s m args below meth c D cA ad Z hC hE H locs cells slots sl' hw0 hc hs hX hP hS (gv_sub1 (v := .ref x) hl'))
theorem gv_astore {μ : gM} {k pc pc' : Nat} {w : Bool} {ls : List (Option Value)} {st : List Value} {σ : gS} {Q : gQ → gS → Prop} {n : Nat} {x : Nat} (hd : decode μ.cc pc = .ok (.astore n, 2)) (hn : n < μ.nL) (hp : pc + 2 = pc')
    (h : gv_V μ k w pc' (gv_s1 ls n (.ref x)) st σ Q) : gv_V μ k w pc ls (.ref x :: st) σ Q := by
  intro p l e R s m args below meth c D cA ad Z hC hE H locs cells slots sl hw0 hc hs hX hP hS hl
  subst hp
  exact lv_astore hC.1.1 hC.1.2.1 hd hl hn rfl (fun sl' hl' => h p l e R s m args below meth c D cA ad Z hC hE H locs cells slots sl' hw0 hc hs hX hP hS (gv_sub1 (v := .ref x) hl'))
theorem gv_iinc {μ : gM} {k pc pc' : Nat} {w : Bool} {ls : List (Option Value)} {st : List Value} {σ : gS} {Q : gQ → gS → Prop} {i : Nat} {n : Int} {x v : Int32} (hd : decode μ.cc pc = .ok (.iinc i n, 3)) (hi : ls[i]? = some (some (.int x))) (hv : x + Int32.ofInt n = v) (hn : i < μ.nL) (hp : pc + 3 = pc')
    (h : gv_V μ k w pc' (gv_s1 ls i (.int v)) st σ Q) : gv_V μ k w pc ls st σ Q := by
  intro p l e R s m args below meth c D cA ad Z hC hE H locs cells slots sl hw0 hc hs hX hP hS hl
  subst hp
  have hl2 : lv_has sl μ.nL ((i, .int x) :: gv_l ad ls) := ⟨hl.1, hl.2.1, fun q hq => by
    rcases List.mem_cons.mp hq with rfl | hq
    · exact gv_lat hl hi
    · exact hl.2.2 q hq⟩
  refine lv_iinc (k := 0) hC.1.1 hC.1.2.1 hd hl2 rfl hv hn rfl (fun sl' hl' => h p l e R s m args below meth c D cA ad Z hC hE H locs cells slots sl' hw0 hc hs hX hP hS (gv_sub1 (v := .int v) ⟨hl'.1, hl'.2.1, fun q hq => hl'.2.2 q ?_⟩))
  rcases List.mem_cons.mp hq with rfl | hq
  · exact List.mem_cons_self
  · refine List.mem_cons_of_mem _ ?_
    obtain ⟨a, b⟩ := List.mem_filter.mp hq
    exact List.mem_filter.mpr ⟨List.mem_cons_of_mem _ a, b⟩
theorem gv_iadd {μ : gM} {k pc pc' : Nat} {w : Bool} {ls : List (Option Value)} {st : List Value} {σ : gS} {Q : gQ → gS → Prop} {x y : Int32} (hd : decode μ.cc pc = .ok (.iadd, 1)) (hp : pc + 1 = pc')
    (h : gv_V μ k w pc' ls (.int (x + y) :: st) σ Q) : gv_V μ k w pc ls (.int y :: .int x :: st) σ Q := by
  intro p l e R s m args below meth c D cA ad Z hC hE H locs cells slots sl hw0 hc hs hX hP hS hl
  subst hp
  exact lv_iadd hC.1.1 hC.1.2.1 hd  (h p l e R s m args below meth c D cA ad Z hC hE H locs cells slots sl hw0 hc hs hX hP hS hl)
theorem gv_isub {μ : gM} {k pc pc' : Nat} {w : Bool} {ls : List (Option Value)} {st : List Value} {σ : gS} {Q : gQ → gS → Prop} {x y : Int32} (hd : decode μ.cc pc = .ok (.isub, 1)) (hp : pc + 1 = pc')
    (h : gv_V μ k w pc' ls (.int (x - y) :: st) σ Q) : gv_V μ k w pc ls (.int y :: .int x :: st) σ Q := by
  intro p l e R s m args below meth c D cA ad Z hC hE H locs cells slots sl hw0 hc hs hX hP hS hl
  subst hp
  exact lv_isub hC.1.1 hC.1.2.1 hd  (h p l e R s m args below meth c D cA ad Z hC hE H locs cells slots sl hw0 hc hs hX hP hS hl)
theorem gv_imul {μ : gM} {k pc pc' : Nat} {w : Bool} {ls : List (Option Value)} {st : List Value} {σ : gS} {Q : gQ → gS → Prop} {x y : Int32} (hd : decode μ.cc pc = .ok (.imul, 1)) (hp : pc + 1 = pc')
    (h : gv_V μ k w pc' ls (.int (x * y) :: st) σ Q) : gv_V μ k w pc ls (.int y :: .int x :: st) σ Q := by
  intro p l e R s m args below meth c D cA ad Z hC hE H locs cells slots sl hw0 hc hs hX hP hS hl
  subst hp
  exact lv_imul hC.1.1 hC.1.2.1 hd  (h p l e R s m args below meth c D cA ad Z hC hE H locs cells slots sl hw0 hc hs hX hP hS hl)
theorem gv_iand {μ : gM} {k pc pc' : Nat} {w : Bool} {ls : List (Option Value)} {st : List Value} {σ : gS} {Q : gQ → gS → Prop} {x y : Int32} (hd : decode μ.cc pc = .ok (.iand, 1)) (hp : pc + 1 = pc')
    (h : gv_V μ k w pc' ls (.int (x &&& y) :: st) σ Q) : gv_V μ k w pc ls (.int y :: .int x :: st) σ Q := by
  intro p l e R s m args below meth c D cA ad Z hC hE H locs cells slots sl hw0 hc hs hX hP hS hl
  subst hp
  exact lv_iand hC.1.1 hC.1.2.1 hd  (h p l e R s m args below meth c D cA ad Z hC hE H locs cells slots sl hw0 hc hs hX hP hS hl)
theorem gv_ior {μ : gM} {k pc pc' : Nat} {w : Bool} {ls : List (Option Value)} {st : List Value} {σ : gS} {Q : gQ → gS → Prop} {x y : Int32} (hd : decode μ.cc pc = .ok (.ior, 1)) (hp : pc + 1 = pc')
    (h : gv_V μ k w pc' ls (.int (x ||| y) :: st) σ Q) : gv_V μ k w pc ls (.int y :: .int x :: st) σ Q := by
  intro p l e R s m args below meth c D cA ad Z hC hE H locs cells slots sl hw0 hc hs hX hP hS hl
  subst hp
  exact lv_ior hC.1.1 hC.1.2.1 hd  (h p l e R s m args below meth c D cA ad Z hC hE H locs cells slots sl hw0 hc hs hX hP hS hl)
theorem gv_ixor {μ : gM} {k pc pc' : Nat} {w : Bool} {ls : List (Option Value)} {st : List Value} {σ : gS} {Q : gQ → gS → Prop} {x y : Int32} (hd : decode μ.cc pc = .ok (.ixor, 1)) (hp : pc + 1 = pc')
    (h : gv_V μ k w pc' ls (.int (x ^^^ y) :: st) σ Q) : gv_V μ k w pc ls (.int y :: .int x :: st) σ Q := by
  intro p l e R s m args below meth c D cA ad Z hC hE H locs cells slots sl hw0 hc hs hX hP hS hl
  subst hp
  exact lv_ixor hC.1.1 hC.1.2.1 hd  (h p l e R s m args below meth c D cA ad Z hC hE H locs cells slots sl hw0 hc hs hX hP hS hl)
theorem gv_ishl {μ : gM} {k pc pc' : Nat} {w : Bool} {ls : List (Option Value)} {st : List Value} {σ : gS} {Q : gQ → gS → Prop} {x y : Int32} (hd : decode μ.cc pc = .ok (.ishl, 1)) (hp : pc + 1 = pc')
    (h : gv_V μ k w pc' ls (.int (x <<< (y &&& 31)) :: st) σ Q) : gv_V μ k w pc ls (.int y :: .int x :: st) σ Q := by
  intro p l e R s m args below meth c D cA ad Z hC hE H locs cells slots sl hw0 hc hs hX hP hS hl
  subst hp
  exact lv_ishl hC.1.1 hC.1.2.1 hd  (h p l e R s m args below meth c D cA ad Z hC hE H locs cells slots sl hw0 hc hs hX hP hS hl)
theorem gv_ishr {μ : gM} {k pc pc' : Nat} {w : Bool} {ls : List (Option Value)} {st : List Value} {σ : gS} {Q : gQ → gS → Prop} {x y : Int32} (hd : decode μ.cc pc = .ok (.ishr, 1)) (hp : pc + 1 = pc')
    (h : gv_V μ k w pc' ls (.int (x >>> (y &&& 31)) :: st) σ Q) : gv_V μ k w pc ls (.int y :: .int x :: st) σ Q := by
  intro p l e R s m args below meth c D cA ad Z hC hE H locs cells slots sl hw0 hc hs hX hP hS hl
  subst hp
  exact lv_ishr hC.1.1 hC.1.2.1 hd  (h p l e R s m args below meth c D cA ad Z hC hE H locs cells slots sl hw0 hc hs hX hP hS hl)
theorem gv_idiv {μ : gM} {k pc pc' : Nat} {w : Bool} {ls : List (Option Value)} {st : List Value} {σ : gS} {Q : gQ → gS → Prop} {x y : Int32} (hd : decode μ.cc pc = .ok (.idiv, 1)) (hne : ¬ y = 0) (hp : pc + 1 = pc')
    (h : gv_V μ k w pc' ls (.int (x / y) :: st) σ Q) : gv_V μ k w pc ls (.int y :: .int x :: st) σ Q := by
  intro p l e R s m args below meth c D cA ad Z hC hE H locs cells slots sl hw0 hc hs hX hP hS hl
  subst hp
  exact lv_idiv hC.1.1 hC.1.2.1 hd hne (h p l e R s m args below meth c D cA ad Z hC hE H locs cells slots sl hw0 hc hs hX hP hS hl)
theorem gv_irem {μ : gM} {k pc pc' : Nat} {w : Bool} {ls : List (Option Value)} {st : List Value} {σ : gS} {Q : gQ → gS → Prop} {x y : Int32} (hd : decode μ.cc pc = .ok (.irem, 1)) (hne : ¬ y = 0) (hp : pc + 1 = pc')
    (h : gv_V μ k w pc' ls (.int (x - x / y * y) :: st) σ Q) : gv_V μ k w pc ls (.int y :: .int x :: st) σ Q := by
  intro p l e R s m args below meth c D cA ad Z hC hE H locs cells slots sl hw0 hc hs hX hP hS hl
  subst hp
  exact lv_irem hC.1.1 hC.1.2.1 hd hne (h p l e R s m args below meth c D cA ad Z hC hE H locs cells slots sl hw0 hc hs hX hP hS hl)
theorem gv_ineg {μ : gM} {k pc pc' : Nat} {w : Bool} {ls : List (Option Value)} {st : List Value} {σ : gS} {Q : gQ → gS → Prop} {x : Int32} (hd : decode μ.cc pc = .ok (.ineg, 1)) (hp : pc + 1 = pc')
    (h : gv_V μ k w pc' ls (.int (-x) :: st) σ Q) : gv_V μ k w pc ls (.int x :: st) σ Q := by
  intro p l e R s m args below meth c D cA ad Z hC hE H locs cells slots sl hw0 hc hs hX hP hS hl
  subst hp
  exact lv_ineg hC.1.1 hC.1.2.1 hd  (h p l e R s m args below meth c D cA ad Z hC hE H locs cells slots sl hw0 hc hs hX hP hS hl)
theorem gv_iushr {μ : gM} {k pc pc' : Nat} {w : Bool} {ls : List (Option Value)} {st : List Value} {σ : gS} {Q : gQ → gS → Prop} {x y : Int32} (hd : decode μ.cc pc = .ok (.iushr, 1)) (hp : pc + 1 = pc')
    (h : gv_V μ k w pc' ls (.int (x.toUInt32 >>> (y.toUInt32 &&& Int32.toUInt32 31)).toInt32 :: st) σ Q) : gv_V μ k w pc ls (.int y :: .int x :: st) σ Q := by
  intro p l e R s m args below meth c D cA ad Z hC hE H locs cells slots sl hw0 hc hs hX hP hS hl
  subst hp
  exact lv_iushr hC.1.1 hC.1.2.1 hd rfl (h p l e R s m args below meth c D cA ad Z hC hE H locs cells slots sl hw0 hc hs hX hP hS hl)
theorem gv_ladd {μ : gM} {k pc pc' : Nat} {w : Bool} {ls : List (Option Value)} {st : List Value} {σ : gS} {Q : gQ → gS → Prop} {x y : Int64} (hd : decode μ.cc pc = .ok (.ladd, 1)) (hp : pc + 1 = pc')
    (h : gv_V μ k w pc' ls (.long (x + y) :: st) σ Q) : gv_V μ k w pc ls (.long y :: .long x :: st) σ Q := by
  intro p l e R s m args below meth c D cA ad Z hC hE H locs cells slots sl hw0 hc hs hX hP hS hl
  subst hp
  exact lv_ladd hC.1.1 hC.1.2.1 hd  (h p l e R s m args below meth c D cA ad Z hC hE H locs cells slots sl hw0 hc hs hX hP hS hl)
theorem gv_lsub {μ : gM} {k pc pc' : Nat} {w : Bool} {ls : List (Option Value)} {st : List Value} {σ : gS} {Q : gQ → gS → Prop} {x y : Int64} (hd : decode μ.cc pc = .ok (.lsub, 1)) (hp : pc + 1 = pc')
    (h : gv_V μ k w pc' ls (.long (x - y) :: st) σ Q) : gv_V μ k w pc ls (.long y :: .long x :: st) σ Q := by
  intro p l e R s m args below meth c D cA ad Z hC hE H locs cells slots sl hw0 hc hs hX hP hS hl
  subst hp
  exact lv_lsub hC.1.1 hC.1.2.1 hd  (h p l e R s m args below meth c D cA ad Z hC hE H locs cells slots sl hw0 hc hs hX hP hS hl)
theorem gv_lmul {μ : gM} {k pc pc' : Nat} {w : Bool} {ls : List (Option Value)} {st : List Value} {σ : gS} {Q : gQ → gS → Prop} {x y : Int64} (hd : decode μ.cc pc = .ok (.lmul, 1)) (hp : pc + 1 = pc')
    (h : gv_V μ k w pc' ls (.long (x * y) :: st) σ Q) : gv_V μ k w pc ls (.long y :: .long x :: st) σ Q := by
  intro p l e R s m args below meth c D cA ad Z hC hE H locs cells slots sl hw0 hc hs hX hP hS hl
  subst hp
  exact lv_lmul hC.1.1 hC.1.2.1 hd  (h p l e R s m args below meth c D cA ad Z hC hE H locs cells slots sl hw0 hc hs hX hP hS hl)
theorem gv_land {μ : gM} {k pc pc' : Nat} {w : Bool} {ls : List (Option Value)} {st : List Value} {σ : gS} {Q : gQ → gS → Prop} {x y : Int64} (hd : decode μ.cc pc = .ok (.land, 1)) (hp : pc + 1 = pc')
    (h : gv_V μ k w pc' ls (.long (x &&& y) :: st) σ Q) : gv_V μ k w pc ls (.long y :: .long x :: st) σ Q := by
  intro p l e R s m args below meth c D cA ad Z hC hE H locs cells slots sl hw0 hc hs hX hP hS hl
  subst hp
  exact lv_land hC.1.1 hC.1.2.1 hd  (h p l e R s m args below meth c D cA ad Z hC hE H locs cells slots sl hw0 hc hs hX hP hS hl)
theorem gv_lor {μ : gM} {k pc pc' : Nat} {w : Bool} {ls : List (Option Value)} {st : List Value} {σ : gS} {Q : gQ → gS → Prop} {x y : Int64} (hd : decode μ.cc pc = .ok (.lor, 1)) (hp : pc + 1 = pc')
    (h : gv_V μ k w pc' ls (.long (x ||| y) :: st) σ Q) : gv_V μ k w pc ls (.long y :: .long x :: st) σ Q := by
  intro p l e R s m args below meth c D cA ad Z hC hE H locs cells slots sl hw0 hc hs hX hP hS hl
  subst hp
  exact lv_lor hC.1.1 hC.1.2.1 hd  (h p l e R s m args below meth c D cA ad Z hC hE H locs cells slots sl hw0 hc hs hX hP hS hl)
theorem gv_lxor {μ : gM} {k pc pc' : Nat} {w : Bool} {ls : List (Option Value)} {st : List Value} {σ : gS} {Q : gQ → gS → Prop} {x y : Int64} (hd : decode μ.cc pc = .ok (.lxor, 1)) (hp : pc + 1 = pc')
    (h : gv_V μ k w pc' ls (.long (x ^^^ y) :: st) σ Q) : gv_V μ k w pc ls (.long y :: .long x :: st) σ Q := by
  intro p l e R s m args below meth c D cA ad Z hC hE H locs cells slots sl hw0 hc hs hX hP hS hl
  subst hp
  exact lv_lxor hC.1.1 hC.1.2.1 hd  (h p l e R s m args below meth c D cA ad Z hC hE H locs cells slots sl hw0 hc hs hX hP hS hl)
theorem gv_ldiv {μ : gM} {k pc pc' : Nat} {w : Bool} {ls : List (Option Value)} {st : List Value} {σ : gS} {Q : gQ → gS → Prop} {x y : Int64} (hd : decode μ.cc pc = .ok (.ldiv, 1)) (hne : ¬ y = 0) (hp : pc + 1 = pc')
    (h : gv_V μ k w pc' ls (.long (x / y) :: st) σ Q) : gv_V μ k w pc ls (.long y :: .long x :: st) σ Q := by
  intro p l e R s m args below meth c D cA ad Z hC hE H locs cells slots sl hw0 hc hs hX hP hS hl
  subst hp
  exact lv_ldiv hC.1.1 hC.1.2.1 hd hne (h p l e R s m args below meth c D cA ad Z hC hE H locs cells slots sl hw0 hc hs hX hP hS hl)
theorem gv_lrem {μ : gM} {k pc pc' : Nat} {w : Bool} {ls : List (Option Value)} {st : List Value} {σ : gS} {Q : gQ → gS → Prop} {x y : Int64} (hd : decode μ.cc pc = .ok (.lrem, 1)) (hne : ¬ y = 0) (hp : pc + 1 = pc')
    (h : gv_V μ k w pc' ls (.long (x - x / y * y) :: st) σ Q) : gv_V μ k w pc ls (.long y :: .long x :: st) σ Q := by
  intro p l e R s m args below meth c D cA ad Z hC hE H locs cells slots sl hw0 hc hs hX hP hS hl
  subst hp
  exact lv_lrem hC.1.1 hC.1.2.1 hd hne (h p l e R s m args below meth c D cA ad Z hC hE H locs cells slots sl hw0 hc hs hX hP hS hl)
theorem gv_lneg {μ : gM} {k pc pc' : Nat} {w : Bool} {ls : List (Option Value)} {st : List Value} {σ : gS} {Q : gQ → gS → Prop} {x : Int64} (hd : decode μ.cc pc = .ok (.lneg, 1)) (hp : pc + 1 = pc')
    (h : gv_V μ k w pc' ls (.long (-x) :: st) σ Q) : gv_V μ k w pc ls (.long x :: st) σ Q := by
  intro p l e R s m args below meth c D cA ad Z hC hE H locs cells slots sl hw0 hc hs hX hP hS hl
  subst hp
  exact lv_lneg hC.1.1 hC.1.2.1 hd  (h p l e R s m args below meth c D cA ad Z hC hE H locs cells slots sl hw0 hc hs hX hP hS hl)
theorem gv_lshl {μ : gM} {k pc pc' : Nat} {w : Bool} {ls : List (Option Value)} {st : List Value} {σ : gS} {Q : gQ → gS → Prop} {x : Int64} {y : Int32} (hd : decode μ.cc pc = .ok (.lshl, 1)) (hp : pc + 1 = pc')
    (h : gv_V μ k w pc' ls (.long (x <<< (y.toInt64 &&& 63)) :: st) σ Q) : gv_V μ k w pc ls (.int y :: .long x :: st) σ Q := by
  intro p l e R s m args below meth c D cA ad Z hC hE H locs cells slots sl hw0 hc hs hX hP hS hl
  subst hp
  exact lv_lshl hC.1.1 hC.1.2.1 hd rfl (h p l e R s m args below meth c D cA ad Z hC hE H locs cells slots sl hw0 hc hs hX hP hS hl)
theorem gv_lshr {μ : gM} {k pc pc' : Nat} {w : Bool} {ls : List (Option Value)} {st : List Value} {σ : gS} {Q : gQ → gS → Prop} {x : Int64} {y : Int32} (hd : decode μ.cc pc = .ok (.lshr, 1)) (hp : pc + 1 = pc')
    (h : gv_V μ k w pc' ls (.long (x >>> (y.toInt64 &&& 63)) :: st) σ Q) : gv_V μ k w pc ls (.int y :: .long x :: st) σ Q := by
  intro p l e R s m args below meth c D cA ad Z hC hE H locs cells slots sl hw0 hc hs hX hP hS hl
  subst hp
  exact lv_lshr hC.1.1 hC.1.2.1 hd rfl (h p l e R s m args below meth c D cA ad Z hC hE H locs cells slots sl hw0 hc hs hX hP hS hl)
theorem gv_lushr {μ : gM} {k pc pc' : Nat} {w : Bool} {ls : List (Option Value)} {st : List Value} {σ : gS} {Q : gQ → gS → Prop} {x : Int64} {y : Int32} (hd : decode μ.cc pc = .ok (.lushr, 1)) (hp : pc + 1 = pc')
    (h : gv_V μ k w pc' ls (.long (x.toUInt64 >>> (y.toInt64.toUInt64 &&& Int64.toUInt64 63)).toInt64 :: st) σ Q) : gv_V μ k w pc ls (.int y :: .long x :: st) σ Q := by
  intro p l e R s m args below meth c D cA ad Z hC hE H locs cells slots sl hw0 hc hs hX hP hS hl
  subst hp
  exact lv_lushr hC.1.1 hC.1.2.1 hd rfl (h p l e R s m args below meth c D cA ad Z hC hE H locs cells slots sl hw0 hc hs hX hP hS hl)
theorem gv_i2l {μ : gM} {k pc pc' : Nat} {w : Bool} {ls : List (Option Value)} {st : List Value} {σ : gS} {Q : gQ → gS → Prop} {x : Int32} (hd : decode μ.cc pc = .ok (.i2l, 1)) (hp : pc + 1 = pc')
    (h : gv_V μ k w pc' ls (.long x.toInt64 :: st) σ Q) : gv_V μ k w pc ls (.int x :: st) σ Q := by
  intro p l e R s m args below meth c D cA ad Z hC hE H locs cells slots sl hw0 hc hs hX hP hS hl
  subst hp
  exact lv_i2l hC.1.1 hC.1.2.1 hd rfl (h p l e R s m args below meth c D cA ad Z hC hE H locs cells slots sl hw0 hc hs hX hP hS hl)
theorem gv_l2i {μ : gM} {k pc pc' : Nat} {w : Bool} {ls : List (Option Value)} {st : List Value} {σ : gS} {Q : gQ → gS → Prop} {x : Int64} (hd : decode μ.cc pc = .ok (.l2i, 1)) (hp : pc + 1 = pc')
    (h : gv_V μ k w pc' ls (.int x.toInt32 :: st) σ Q) : gv_V μ k w pc ls (.long x :: st) σ Q := by
  intro p l e R s m args below meth c D cA ad Z hC hE H locs cells slots sl hw0 hc hs hX hP hS hl
  subst hp
  exact lv_l2i hC.1.1 hC.1.2.1 hd rfl (h p l e R s m args below meth c D cA ad Z hC hE H locs cells slots sl hw0 hc hs hX hP hS hl)
theorem gv_i2b {μ : gM} {k pc pc' : Nat} {w : Bool} {ls : List (Option Value)} {st : List Value} {σ : gS} {Q : gQ → gS → Prop} {x : Int32} (hd : decode μ.cc pc = .ok (.i2b, 1)) (hp : pc + 1 = pc')
    (h : gv_V μ k w pc' ls (.int x.toInt8.toInt32 :: st) σ Q) : gv_V μ k w pc ls (.int x :: st) σ Q := by
  intro p l e R s m args below meth c D cA ad Z hC hE H locs cells slots sl hw0 hc hs hX hP hS hl
  subst hp
  exact lv_i2b hC.1.1 hC.1.2.1 hd rfl (h p l e R s m args below meth c D cA ad Z hC hE H locs cells slots sl hw0 hc hs hX hP hS hl)
theorem gv_lcmp {μ : gM} {k pc pc' : Nat} {w : Bool} {ls : List (Option Value)} {st : List Value} {σ : gS} {Q : gQ → gS → Prop} {x y : Int64} (hd : decode μ.cc pc = .ok (.lcmp, 1)) (hp : pc + 1 = pc')
    (h : gv_V μ k w pc' ls (.int (lg_cmp x y) :: st) σ Q) : gv_V μ k w pc ls (.long y :: .long x :: st) σ Q := by
  intro p l e R s m args below meth c D cA ad Z hC hE H locs cells slots sl hw0 hc hs hX hP hS hl
  subst hp
  exact W.lcmp hC.1.1 hC.1.2.1 hd  (h p l e R s m args below meth c D cA ad Z hC hE H locs cells slots sl hw0 hc hs hX hP hS hl)
theorem gv_dup {μ : gM} {k pc pc' : Nat} {w : Bool} {ls : List (Option Value)} {st : List Value} {σ : gS} {Q : gQ → gS → Prop} {va : Value} (hd : decode μ.cc pc = .ok (.dup, 1)) (hva : va.category = 1) (hp : pc + 1 = pc')
    (h : gv_V μ k w pc' ls (va :: va :: st) σ Q) : gv_V μ k w pc ls (va :: st) σ Q := by
  intro p l e R s m args below meth c D cA ad Z hC hE H locs cells slots sl hw0 hc hs hX hP hS hl
  subst hp
  exact lv_dup hC.1.1 hC.1.2.1 hd ((gv_tc ad va).trans hva) (h p l e R s m args below meth c D cA ad Z hC hE H locs cells slots sl hw0 hc hs hX hP hS hl)
theorem gv_pop {μ : gM} {k pc pc' : Nat} {w : Bool} {ls : List (Option Value)} {st : List Value} {σ : gS} {Q : gQ → gS → Prop} {va : Value} (hd : decode μ.cc pc = .ok (.pop, 1)) (hva : va.category = 1) (hp : pc + 1 = pc')
    (h : gv_V μ k w pc' ls (st) σ Q) : gv_V μ k w pc ls (va :: st) σ Q := by
  intro p l e R s m args below meth c D cA ad Z hC hE H locs cells slots sl hw0 hc hs hX hP hS hl
  subst hp
  exact lv_pop hC.1.1 hC.1.2.1 hd ((gv_tc ad va).trans hva) (h p l e R s m args below meth c D cA ad Z hC hE H locs cells slots sl hw0 hc hs hX hP hS hl)
theorem gv_dup_x1 {μ : gM} {k pc pc' : Nat} {w : Bool} {ls : List (Option Value)} {st : List Value} {σ : gS} {Q : gQ → gS → Prop} {va vb : Value} (hd : decode μ.cc pc = .ok (.dup_x1, 1)) (hva : va.category = 1) (hvb : vb.category = 1) (hp : pc + 1 = pc')
    (h : gv_V μ k w pc' ls (va :: vb :: va :: st) σ Q) : gv_V μ k w pc ls (va :: vb :: st) σ Q := by
  intro p l e R s m args below meth c D cA ad Z hC hE H locs cells slots sl hw0 hc hs hX hP hS hl
  subst hp
  exact lv_dup_x1 hC.1.1 hC.1.2.1 hd ((gv_tc ad va).trans hva) ((gv_tc ad vb).trans hvb) (h p l e R s m args below meth c D cA ad Z hC hE H locs cells slots sl hw0 hc hs hX hP hS hl)
theorem gv_dup_x2 {μ : gM} {k pc pc' : Nat} {w : Bool} {ls : List (Option Value)} {st : List Value} {σ : gS} {Q : gQ → gS → Prop} {va vb vd : Value} (hd : decode μ.cc pc = .ok (.dup_x2, 1)) (hva : va.category = 1) (hvb : vb.category = 1) (hvd : vd.category = 1) (hp : pc + 1 = pc')
    (h : gv_V μ k w pc' ls (va :: vb :: vd :: va :: st) σ Q) : gv_V μ k w pc ls (va :: vb :: vd :: st) σ Q := by
  intro p l e R s m args below meth c D cA ad Z hC hE H locs cells slots sl hw0 hc hs hX hP hS hl
  subst hp
  exact lv_dup_x2 hC.1.1 hC.1.2.1 hd ((gv_tc ad va).trans hva) ((gv_tc ad vb).trans hvb) ((gv_tc ad vd).trans hvd) (h p l e R s m args below meth c D cA ad Z hC hE H locs cells slots sl hw0 hc hs hX hP hS hl)
theorem gv_dup2_11 {μ : gM} {k pc pc' : Nat} {w : Bool} {ls : List (Option Value)} {st : List Value} {σ : gS} {Q : gQ → gS → Prop} {va vb : Value} (hd : decode μ.cc pc = .ok (.dup2, 1)) (hva : va.category = 1) (hvb : vb.category = 1) (hp : pc + 1 = pc')
    (h : gv_V μ k w pc' ls (va :: vb :: va :: vb :: st) σ Q) : gv_V μ k w pc ls (va :: vb :: st) σ Q := by
  intro p l e R s m args below meth c D cA ad Z hC hE H locs cells slots sl hw0 hc hs hX hP hS hl
  subst hp
  exact lv_dup2_11 hC.1.1 hC.1.2.1 hd ((gv_tc ad va).trans hva) ((gv_tc ad vb).trans hvb) (h p l e R s m args below meth c D cA ad Z hC hE H locs cells slots sl hw0 hc hs hX hP hS hl)
theorem gv_dup2_2 {μ : gM} {k pc pc' : Nat} {w : Bool} {ls : List (Option Value)} {st : List Value} {σ : gS} {Q : gQ → gS → Prop} {va : Value} (hd : decode μ.cc pc = .ok (.dup2, 1)) (hva : va.category = 2) (hp : pc + 1 = pc')
    (h : gv_V μ k w pc' ls (va :: va :: st) σ Q) : gv_V μ k w pc ls (va :: st) σ Q := by
  intro p l e R s m args below meth c D cA ad Z hC hE H locs cells slots sl hw0 hc hs hX hP hS hl
  subst hp
  exact lv_dup2_2 hC.1.1 hC.1.2.1 hd ((gv_tc ad va).trans hva) (h p l e R s m args below meth c D cA ad Z hC hE H locs cells slots sl hw0 hc hs hX hP hS hl)
theorem gv_pop2_2 {μ : gM} {k pc pc' : Nat} {w : Bool} {ls : List (Option Value)} {st : List Value} {σ : gS} {Q : gQ → gS → Prop} {va : Value} (hd : decode μ.cc pc = .ok (.pop2, 1)) (hva : va.category = 2) (hp : pc + 1 = pc')
    (h : gv_V μ k w pc' ls (st) σ Q) : gv_V μ k w pc ls (va :: st) σ Q := by
  intro p l e R s m args below meth c D cA ad Z hC hE H locs cells slots sl hw0 hc hs hX hP hS hl
  subst hp
  exact lv_pop2_2 hC.1.1 hC.1.2.1 hd ((gv_tc ad va).trans hva) (h p l e R s m args below meth c D cA ad Z hC hE H locs cells slots sl hw0 hc hs hX hP hS hl)
theorem gv_dup2_x1_2 {μ : gM} {k pc pc' : Nat} {w : Bool} {ls : List (Option Value)} {st : List Value} {σ : gS} {Q : gQ → gS → Prop} {va vb : Value} (hd : decode μ.cc pc = .ok (.dup2_x1, 1)) (hva : va.category = 2) (hvb : vb.category = 1) (hp : pc + 1 = pc')
    (h : gv_V μ k w pc' ls (va :: vb :: va :: st) σ Q) : gv_V μ k w pc ls (va :: vb :: st) σ Q := by
  intro p l e R s m args below meth c D cA ad Z hC hE H locs cells slots sl hw0 hc hs hX hP hS hl
  subst hp
  exact lv_dup2_x1_2 hC.1.1 hC.1.2.1 hd ((gv_tc ad va).trans hva) ((gv_tc ad vb).trans hvb) (h p l e R s m args below meth c D cA ad Z hC hE H locs cells slots sl hw0 hc hs hX hP hS hl)
theorem gv_if_eq {μ : gM} {k pc tgt pc' : Nat} {w : Bool} {ls : List (Option Value)} {st : List Value} {σ : gS} {Q : gQ → gS → Prop} {off : Int} {x : Int32} (hd : decode μ.cc pc = .ok (.ifCond .eq off, 3)) (ht : (pc : Int) + off = (tgt : Int)) (hp : pc + 3 = pc')
    (h1 : x = 0 → gv_V μ k w tgt ls st σ Q) (h2 : ¬ x = 0 → gv_V μ k w pc' ls st σ Q) : gv_V μ k w pc ls (.int x :: st) σ Q := by
  intro p l e R s m args below meth c D cA ad Z hC hE H locs cells slots sl hw0 hc hs hX hP hS hl
  subst hp
  exact lv_if_eq hC.1.1 hC.1.2.1 hd ht (fun z => h1 z p l e R s m args below meth c D cA ad Z hC hE H locs cells slots sl hw0 hc hs hX hP hS hl) (fun z => h2 z p l e R s m args below meth c D cA ad Z hC hE H locs cells slots sl hw0 hc hs hX hP hS hl)
theorem gv_icmp_eq {μ : gM} {k pc tgt pc' : Nat} {w : Bool} {ls : List (Option Value)} {st : List Value} {σ : gS} {Q : gQ → gS → Prop} {off : Int} {x y : Int32} (hd : decode μ.cc pc = .ok (.if_icmp .eq off, 3)) (ht : (pc : Int) + off = (tgt : Int)) (hp : pc + 3 = pc')
    (h1 : x = y → gv_V μ k w tgt ls st σ Q) (h2 : ¬ x = y → gv_V μ k w pc' ls st σ Q) : gv_V μ k w pc ls (.int y :: .int x :: st) σ Q := by
  intro p l e R s m args below meth c D cA ad Z hC hE H locs cells slots sl hw0 hc hs hX hP hS hl
  subst hp
  exact lv_icmp_eq hC.1.1 hC.1.2.1 hd ht (fun z => h1 z p l e R s m args below meth c D cA ad Z hC hE H locs cells slots sl hw0 hc hs hX hP hS hl) (fun z => h2 z p l e R s m args below meth c D cA ad Z hC hE H locs cells slots sl hw0 hc hs hX hP hS hl)
theorem gv_if_ne {μ : gM} {k pc tgt pc' : Nat} {w : Bool} {ls : List (Option Value)} {st : List Value} {σ : gS} {Q : gQ → gS → Prop} {off : Int} {x : Int32} (hd : decode μ.cc pc = .ok (.ifCond .ne off, 3)) (ht : (pc : Int) + off = (tgt : Int)) (hp : pc + 3 = pc')
    (h1 : ¬ x = 0 → gv_V μ k w tgt ls st σ Q) (h2 : x = 0 → gv_V μ k w pc' ls st σ Q) : gv_V μ k w pc ls (.int x :: st) σ Q := by
  intro p l e R s m args below meth c D cA ad Z hC hE H locs cells slots sl hw0 hc hs hX hP hS hl
  subst hp
  exact lv_if_ne hC.1.1 hC.1.2.1 hd ht (fun z => h1 z p l e R s m args below meth c D cA ad Z hC hE H locs cells slots sl hw0 hc hs hX hP hS hl) (fun z => h2 z p l e R s m args below meth c D cA ad Z hC hE H locs cells slots sl hw0 hc hs hX hP hS hl)
theorem gv_icmp_ne {μ : gM} {k pc tgt pc' : Nat} {w : Bool} {ls : List (Option Value)} {st : List Value} {σ : gS} {Q : gQ → gS → Prop} {off : Int} {x y : Int32} (hd : decode μ.cc pc = .ok (.if_icmp .ne off, 3)) (ht : (pc : Int) + off = (tgt : Int)) (hp : pc + 3 = pc')
    (h1 : ¬ x = y → gv_V μ k w tgt ls st σ Q) (h2 : x = y → gv_V μ k w pc' ls st σ Q) : gv_V μ k w pc ls (.int y :: .int x :: st) σ Q := by
  intro p l e R s m args below meth c D cA ad Z hC hE H locs cells slots sl hw0 hc hs hX hP hS hl
  subst hp
  exact lv_icmp_ne hC.1.1 hC.1.2.1 hd ht (fun z => h1 z p l e R s m args below meth c D cA ad Z hC hE H locs cells slots sl hw0 hc hs hX hP hS hl) (fun z => h2 z p l e R s m args below meth c D cA ad Z hC hE H locs cells slots sl hw0 hc hs hX hP hS hl)
theorem gv_if_lt {μ : gM} {k pc tgt pc' : Nat} {w : Bool} {ls : List (Option Value)} {st : List Value} {σ : gS} {Q : gQ → gS → Prop} {off : Int} {x : Int32} (hd : decode μ.cc pc = .ok (.ifCond .lt off, 3)) (ht : (pc : Int) + off = (tgt : Int)) (hp : pc + 3 = pc')
    (h1 : x < 0 → gv_V μ k w tgt ls st σ Q) (h2 : ¬ x < 0 → gv_V μ k w pc' ls st σ Q) : gv_V μ k w pc ls (.int x :: st) σ Q := by
  intro p l e R s m args below meth c D cA ad Z hC hE H locs cells slots sl hw0 hc hs hX hP hS hl
  subst hp
  exact lv_if_lt hC.1.1 hC.1.2.1 hd ht (fun z => h1 z p l e R s m args below meth c D cA ad Z hC hE H locs cells slots sl hw0 hc hs hX hP hS hl) (fun z => h2 z p l e R s m args below meth c D cA ad Z hC hE H locs cells slots sl hw0 hc hs hX hP hS hl)
theorem gv_icmp_lt {μ : gM} {k pc tgt pc' : Nat} {w : Bool} {ls : List (Option Value)} {st : List Value} {σ : gS} {Q : gQ → gS → Prop} {off : Int} {x y : Int32} (hd : decode μ.cc pc = .ok (.if_icmp .lt off, 3)) (ht : (pc : Int) + off = (tgt : Int)) (hp : pc + 3 = pc')
    (h1 : x < y → gv_V μ k w tgt ls st σ Q) (h2 : ¬ x < y → gv_V μ k w pc' ls st σ Q) : gv_V μ k w pc ls (.int y :: .int x :: st) σ Q := by
  intro p l e R s m args below meth c D cA ad Z hC hE H locs cells slots sl hw0 hc hs hX hP hS hl
  subst hp
  exact lv_icmp_lt hC.1.1 hC.1.2.1 hd ht (fun z => h1 z p l e R s m args below meth c D cA ad Z hC hE H locs cells slots sl hw0 hc hs hX hP hS hl) (fun z => h2 z p l e R s m args below meth c D cA ad Z hC hE H locs cells slots sl hw0 hc hs hX hP hS hl)
theorem gv_if_ge {μ : gM} {k pc tgt pc' : Nat} {w : Bool} {ls : List (Option Value)} {st : List Value} {σ : gS} {Q : gQ → gS → Prop} {off : Int} {x : Int32} (hd : decode μ.cc pc = .ok (.ifCond .ge off, 3)) (ht : (pc : Int) + off = (tgt : Int)) (hp : pc + 3 = pc')
    (h1 : 0 ≤ x → gv_V μ k w tgt ls st σ Q) (h2 : ¬ 0 ≤ x → gv_V μ k w pc' ls st σ Q) : gv_V μ k w pc ls (.int x :: st) σ Q := by
  intro p l e R s m args below meth c D cA ad Z hC hE H locs cells slots sl hw0 hc hs hX hP hS hl
  subst hp
  exact lv_if_ge hC.1.1 hC.1.2.1 hd ht (fun z => h1 z p l e R s m args below meth c D cA ad Z hC hE H locs cells slots sl hw0 hc hs hX hP hS hl) (fun z => h2 z p l e R s m args below meth c D cA ad Z hC hE H locs cells slots sl hw0 hc hs hX hP hS hl)
theorem gv_icmp_ge {μ : gM} {k pc tgt pc' : Nat} {w : Bool} {ls : List (Option Value)} {st : List Value} {σ : gS} {Q : gQ → gS → Prop} {off : Int} {x y : Int32} (hd : decode μ.cc pc = .ok (.if_icmp .ge off, 3)) (ht : (pc : Int) + off = (tgt : Int)) (hp : pc + 3 = pc')
    (h1 : y ≤ x → gv_V μ k w tgt ls st σ Q) (h2 : ¬ y ≤ x → gv_V μ k w pc' ls st σ Q) : gv_V μ k w pc ls (.int y :: .int x :: st) σ Q := by
  intro p l e R s m args below meth c D cA ad Z hC hE H locs cells slots sl hw0 hc hs hX hP hS hl
  subst hp
  exact lv_icmp_ge hC.1.1 hC.1.2.1 hd ht (fun z => h1 z p l e R s m args below meth c D cA ad Z hC hE H locs cells slots sl hw0 hc hs hX hP hS hl) (fun z => h2 z p l e R s m args below meth c D cA ad Z hC hE H locs cells slots sl hw0 hc hs hX hP hS hl)
theorem gv_if_gt {μ : gM} {k pc tgt pc' : Nat} {w : Bool} {ls : List (Option Value)} {st : List Value} {σ : gS} {Q : gQ → gS → Prop} {off : Int} {x : Int32} (hd : decode μ.cc pc = .ok (.ifCond .gt off, 3)) (ht : (pc : Int) + off = (tgt : Int)) (hp : pc + 3 = pc')
    (h1 : 0 < x → gv_V μ k w tgt ls st σ Q) (h2 : ¬ 0 < x → gv_V μ k w pc' ls st σ Q) : gv_V μ k w pc ls (.int x :: st) σ Q := by
  intro p l e R s m args below meth c D cA ad Z hC hE H locs cells slots sl hw0 hc hs hX hP hS hl
  subst hp
  exact lv_if_gt hC.1.1 hC.1.2.1 hd ht (fun z => h1 z p l e R s m args below meth c D cA ad Z hC hE H locs cells slots sl hw0 hc hs hX hP hS hl) (fun z => h2 z p l e R s m args below meth c D cA ad Z hC hE H locs cells slots sl hw0 hc hs hX hP hS hl)
theorem gv_icmp_gt {μ : gM} {k pc tgt pc' : Nat} {w : Bool} {ls : List (Option Value)} {st : List Value} {σ : gS} {Q : gQ → gS → Prop} {off : Int} {x y : Int32} (hd : decode μ.cc pc = .ok (.if_icmp .gt off, 3)) (ht : (pc : Int) + off = (tgt : Int)) (hp : pc + 3 = pc')
    (h1 : y < x → gv_V μ k w tgt ls st σ Q) (h2 : ¬ y < x → gv_V μ k w pc' ls st σ Q) : gv_V μ k w pc ls (.int y :: .int x :: st) σ Q := by
  intro p l e R s m args below meth c D cA ad Z hC hE H locs cells slots sl hw0 hc hs hX hP hS hl
  subst hp
  exact lv_icmp_gt hC.1.1 hC.1.2.1 hd ht (fun z => h1 z p l e R s m args below meth c D cA ad Z hC hE H locs cells slots sl hw0 hc hs hX hP hS hl) (fun z => h2 z p l e R s m args below meth c D cA ad Z hC hE H locs cells slots sl hw0 hc hs hX hP hS hl)
theorem gv_if_le {μ : gM} {k pc tgt pc' : Nat} {w : Bool} {ls : List (Option Value)} {st : List Value} {σ : gS} {Q : gQ → gS → Prop} {off : Int} {x : Int32} (hd : decode μ.cc pc = .ok (.ifCond .le off, 3)) (ht : (pc : Int) + off = (tgt : Int)) (hp : pc + 3 = pc')
    (h1 : x ≤ 0 → gv_V μ k w tgt ls st σ Q) (h2 : ¬ x ≤ 0 → gv_V μ k w pc' ls st σ Q) : gv_V μ k w pc ls (.int x :: st) σ Q := by
  intro p l e R s m args below meth c D cA ad Z hC hE H locs cells slots sl hw0 hc hs hX hP hS hl
  subst hp
  exact lv_if_le hC.1.1 hC.1.2.1 hd ht (fun z => h1 z p l e R s m args below meth c D cA ad Z hC hE H locs cells slots sl hw0 hc hs hX hP hS hl) (fun z => h2 z p l e R s m args below meth c D cA ad Z hC hE H locs cells slots sl hw0 hc hs hX hP hS hl)
theorem gv_icmp_le {μ : gM} {k pc tgt pc' : Nat} {w : Bool} {ls : List (Option Value)} {st : List Value} {σ : gS} {Q : gQ → gS → Prop} {off : Int} {x y : Int32} (hd : decode μ.cc pc = .ok (.if_icmp .le off, 3)) (ht : (pc : Int) + off = (tgt : Int)) (hp : pc + 3 = pc')
    (h1 : x ≤ y → gv_V μ k w tgt ls st σ Q) (h2 : ¬ x ≤ y → gv_V μ k w pc' ls st σ Q) : gv_V μ k w pc ls (.int y :: .int x :: st) σ Q := by
  intro p l e R s m args below meth c D cA ad Z hC hE H locs cells slots sl hw0 hc hs hX hP hS hl
  subst hp
  exact lv_icmp_le hC.1.1 hC.1.2.1 hd ht (fun z => h1 z p l e R s m args below meth c D cA ad Z hC hE H locs cells slots sl hw0 hc hs hX hP hS hl) (fun z => h2 z p l e R s m args below meth c D cA ad Z hC hE H locs cells slots sl hw0 hc hs hX hP hS hl)
theorem gv_goto {μ : gM} {k pc tgt : Nat} {w : Bool} {ls : List (Option Value)} {st : List Value} {σ : gS} {Q : gQ → gS → Prop} {off : Int} (hd : decode μ.cc pc = .ok (.goto off, 3)) (ht : (pc : Int) + off = (tgt : Int))
    (h : gv_V μ k w tgt ls st σ Q) : gv_V μ k w pc ls st σ Q := by
  intro p l e R s m args below meth c D cA ad Z hC hE H locs cells slots sl hw0 hc hs hX hP hS hl
  exact lv_goto hC.1.1 hC.1.2.1 hd ht (h p l e R s m args below meth c D cA ad Z hC hE H locs cells slots sl hw0 hc hs hX hP hS hl)
theorem gv_lookup {μ : gM} {k pc tgt : Nat} {w : Bool} {ls : List (Option Value)} {st : List Value} {σ : gS} {Q : gQ → gS → Prop} {dflt : Int} {ps : Array (Int × Int)} {len : Nat} {x : Int32} {off : Int} (hd : decode μ.cc pc = .ok (.lookupswitch dflt ps, len)) (hq : (ps.toList.zip (ps.toList.drop 1)).all (fun (a, next) => a.1 < next.1) = true) (ho : Op.lookupswitch.offset ps.toList dflt x.toInt = off) (ht : (pc : Int) + off = (tgt : Int))
    (h : gv_V μ k w tgt ls st σ Q) : gv_V μ k w pc ls (.int x :: st) σ Q := by
  intro p l e R s m args below meth c D cA ad Z hC hE H locs cells slots sl hw0 hc hs hX hP hS hl
  exact lv_lookup hC.1.1 hC.1.2.1 hd hq ho ht (h p l e R s m args below meth c D cA ad Z hC hE H locs cells slots sl hw0 hc hs hX hP hS hl)
theorem gv_tableOut {μ : gM} {k pc tgt : Nat} {w : Bool} {ls : List (Option Value)} {st : List Value} {σ : gS} {Q : gQ → gS → Prop} {dflt lo hi : Int} {offs : Array Int} {len : Nat} {x : Int32} (hd : decode μ.cc pc = .ok (.tableswitch dflt lo hi offs, len)) (hx : x.toInt < lo ∨ hi < x.toInt) (ht : (pc : Int) + dflt = (tgt : Int))
    (h : gv_V μ k w tgt ls st σ Q) : gv_V μ k w pc ls (.int x :: st) σ Q := by
  intro p l e R s m args below meth c D cA ad Z hC hE H locs cells slots sl hw0 hc hs hX hP hS hl
  exact lv_tableOut hC.1.1 hC.1.2.1 hd hx ht (h p l e R s m args below meth c D cA ad Z hC hE H locs cells slots sl hw0 hc hs hX hP hS hl)
theorem gv_tableIn {μ : gM} {k pc tgt : Nat} {w : Bool} {ls : List (Option Value)} {st : List Value} {σ : gS} {Q : gQ → gS → Prop} {dflt lo hi : Int} {offs : Array Int} {len : Nat} {x : Int32} {off : Int} (hd : decode μ.cc pc = .ok (.tableswitch dflt lo hi offs, len)) (h1 : ¬ x.toInt < lo) (h2 : ¬ hi < x.toInt) (ho : offs[(x.toInt - lo).toNat]? = some off) (ht : (pc : Int) + off = (tgt : Int))
    (h : gv_V μ k w tgt ls st σ Q) : gv_V μ k w pc ls (.int x :: st) σ Q := by
  intro p l e R s m args below meth c D cA ad Z hC hE H locs cells slots sl hw0 hc hs hX hP hS hl
  exact lv_tableIn hC.1.1 hC.1.2.1 hd h1 h2 ho ht (h p l e R s m args below meth c D cA ad Z hC hE H locs cells slots sl hw0 hc hs hX hP hS hl)
theorem gv_less {μ : gM} {k pc : Nat} {w : Bool} {ls ls' : List (Option Value)} {st : List Value} {σ : gS} {Q : gQ → gS → Prop} (hs' : ∀ (i : Nat) (v : Value), ls'[i]? = some (some v) → ls[i]? = some (some v)) (h : gv_V μ k w pc ls' st σ Q) : gv_V μ k w pc ls st σ Q := by
  intro p l e R s m args below meth c D cA ad Z hC hE H locs cells slots sl hw0 hc hs hX hP hS hl
  exact h p l e R s m args below meth c D cA ad Z hC hE H locs cells slots sl hw0 hc hs hX hP hS (gv_lle hl hs')
theorem gv_ret {μ : gM} {k pc : Nat} {w : Bool} {ls : List (Option Value)} {σ : gS} {Q : gQ → gS → Prop} (hd : decode μ.cc pc = .ok (.return_, 1)) (hr : μ.rt = none) (hk : 1 ≤ k + μ.c) (hu : μ.pu = true → w = true) (h : Q (.inl none) σ) : gv_V μ k w pc ls [] σ Q := by
  intro p l e R s m args below meth c D cA ad Z hC hE H locs cells slots sl hw0 hc hs hX hP hS hl
  exact hE.1 none σ k H locs cells slots sl pc .return_ h (Or.inl ⟨rfl, hr, rfl⟩) hk (fun z => (hw0 (hu z)).1) hc hs hX hP hS hd
theorem gv_iret {μ : gM} {k pc : Nat} {w : Bool} {ls : List (Option Value)} {σ : gS} {Q : gQ → gS → Prop} {x : Int32} (ty : FieldType) (hd : decode μ.cc pc = .ok (.ireturn, 1)) (hr : μ.rt = some ty) (hn : narrow ty (.int x) = .int x) (hk : 1 ≤ k + μ.c) (hu : μ.pu = true → w = true) (h : Q (.inl (some (.int x))) σ) : gv_V μ k w pc ls [.int x] σ Q := by
  intro p l e R s m args below meth c D cA ad Z hC hE H locs cells slots sl hw0 hc hs hX hP hS hl
  exact hE.1 (some (.int x)) σ k H locs cells slots sl pc .ireturn h (Or.inr (Or.inl ⟨x, ty, rfl, hr, hn, rfl⟩)) hk (fun z => (hw0 (hu z)).1) hc hs hX hP hS hd
theorem gv_lret {μ : gM} {k pc : Nat} {w : Bool} {ls : List (Option Value)} {σ : gS} {Q : gQ → gS → Prop} {x : Int64} (hd : decode μ.cc pc = .ok (.lreturn, 1)) (hr : μ.rt = some .long) (hk : 1 ≤ k + μ.c) (hu : μ.pu = true → w = true) (h : Q (.inl (some (.long x))) σ) : gv_V μ k w pc ls [.long x] σ Q := by
  intro p l e R s m args below meth c D cA ad Z hC hE H locs cells slots sl hw0 hc hs hX hP hS hl
  exact hE.1 (some (.long x)) σ k H locs cells slots sl pc .lreturn h (Or.inr (Or.inr ⟨x, rfl, hr, rfl⟩)) hk (fun z => (hw0 (hu z)).1) hc hs hX hP hS hd
