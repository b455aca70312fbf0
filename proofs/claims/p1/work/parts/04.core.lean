
abbrev gS : Type := (Nat → Nat → Int32) × (Nat → Nat → Int32) × (Nat → Nat → Int64) × List Int32
def gv_up {α : Type} (f : Nat → Nat → α) (p k : Nat) (v : α) : Nat → Nat → α := fun q j => if q = p then (if j = k then v else f q j) else f q j
theorem gv_up_ne {α : Type} (f : Nat → Nat → α) {p k q : Nat} (v : α) (h : q ≠ p) : gv_up f p k v q = f q := by
  funext j; simp [gv_up, h]
theorem gv_up_self {α : Type} (f : Nat → Nat → α) (p k : Nat) (v : α) : gv_up f p k v p = fun j => if j = k then v else f p j := by
  funext j; simp [gv_up]
def gv_f (ad : Nat → Nat) (σ : gS) (p k : Nat) (f : Option Nat) : Value := match f with
  | some q => .ref (ad q)
  | none => .int (σ.1 p k)
def gv_e (cA : FieldType → ClassId) (ad : Nat → Nat) (σ : gS) (p : Nat) (d : gD) : va_E := match d with
  | .inl (.long, n) => .inl (cA .long, n, .inr (.inl (σ.2.2.1 p)))
  | .inl (ty, n) => .inl (cA ty, n, .inl (σ.2.1 p))
  | .inr (ci, fs) => .inr (ci, fs.mapIdx (fun k f => gv_f ad σ p k f))
def gv_w (cA : FieldType → ClassId) (ad : Nat → Nat) (σ : gS) : va_W := gv_sh.mapIdx (fun p d => (ad p, gv_e cA ad σ p d))
theorem gv_wget {cA : FieldType → ClassId} {ad : Nat → Nat} (σ : gS) {p : Nat} {d : gD} (h : gv_sh[p]? = some d) : (gv_w cA ad σ)[p]? = some (ad p, gv_e cA ad σ p d) := by
  simp [gv_w, List.getElem?_mapIdx, h]
theorem gv_wlen (cA : FieldType → ClassId) (ad : Nat → Nat) (σ : gS) : (gv_w cA ad σ).length = gv_sh.length := by simp [gv_w]
theorem gv_wset {cA : FieldType → ClassId} {ad : Nat → Nat} {σ σ' : gS} {p : Nat} {d : gD} (hd : gv_sh[p]? = some d) (h : ∀ q, q ≠ p → ∀ d', gv_e cA ad σ' q d' = gv_e cA ad σ q d') :
    (gv_w cA ad σ).set p (ad p, gv_e cA ad σ' p d) = gv_w cA ad σ' := by
  refine List.ext_getElem? fun q => ?_
  by_cases hq : q = p
  · subst hq
    have hl : q < (gv_w cA ad σ).length := by rw [gv_wlen]; exact (List.getElem?_eq_some_iff.mp hd).1
    rw [List.getElem?_set_self hl, gv_wget σ' hd]
  · rw [List.getElem?_set_ne (Ne.symm hq)]
    simp only [gv_w, List.getElem?_mapIdx]
    cases gv_sh[q]? with
    | none => rfl
    | some d' => simp [h q hq d']
def gv_A (ad : Nat → Nat) (s : State) : Nat → Prop := fun q => (∃ i, i < gv_sh.length ∧ q = ad i) ∨ s.heap.size ≤ q
theorem gv_Aw {cA : FieldType → ClassId} {ad : Nat → Nat} {σ : gS} {s : State} (hi : ∀ i j, i < gv_sh.length → j < gv_sh.length → ad i = ad j → i = j) : va_D (gv_A ad s) (gv_w cA ad σ) := by
  have key : ∀ (k : Nat) (q : Nat × va_E), (gv_w cA ad σ)[k]? = some q → k < gv_sh.length ∧ q.1 = ad k := by
    intro k q hk
    have hl : k < gv_sh.length := by rw [← gv_wlen cA ad σ]; exact (List.getElem?_eq_some_iff.mp hk).1
    rw [gv_wget σ (List.getElem?_eq_getElem hl)] at hk
    cases hk
    exact ⟨hl, rfl⟩
  refine ⟨fun i j x y h1 h2 hxy => ?_, fun k q hk => ?_⟩
  · obtain ⟨a1, a2⟩ := key i x h1
    obtain ⟨b1, b2⟩ := key j y h2
    exact hi i j a1 b1 (by rw [← a2, ← b2]; exact hxy)
  · obtain ⟨a1, a2⟩ := key k q hk
    exact Or.inl ⟨k, a1, a2⟩
def gv_t (ad : Nat → Nat) (v : Value) : Value := match v with
  | .ref q => .ref (ad q)
  | v => v
theorem gv_tc (ad : Nat → Nat) (v : Value) : (gv_t ad v).category = v.category := by cases v <;> rfl
theorem gv_tf (ad : Nat → Nat) (σ : gS) (p k : Nat) (f : Option Nat) : gv_t ad (match f with | some q => .ref q | none => .int (σ.1 p k)) = gv_f ad σ p k f := by cases f <;> rfl
def gv_l (ad : Nat → Nat) (ls : List (Option Value)) : List (Nat × Value) := (List.range ls.length).filterMap (fun i => (ls[i]?.join).map (fun v => (i, gv_t ad v)))
theorem gv_lmem {ad : Nat → Nat} {ls : List (Option Value)} {q : Nat × Value} : q ∈ gv_l ad ls ↔ ∃ v, ls[q.1]? = some (some v) ∧ q.2 = gv_t ad v := by
  obtain ⟨i, w⟩ := q
  simp only [gv_l, List.mem_filterMap, List.mem_range, Option.map_eq_some_iff, Option.join_eq_some_iff, Prod.mk.injEq]
  constructor
  · rintro ⟨j, -, v, h1, h2, h3⟩
    subst h2
    exact ⟨v, h1, h3.symm⟩
  · rintro ⟨v, h1, h2⟩
    exact ⟨i, (List.getElem?_eq_some_iff.mp h1).1, v, h1, rfl, h2.symm⟩
theorem gv_lat {ad : Nat → Nat} {ls : List (Option Value)} {sl : Array Slot} {n i : Nat} {v : Value} (h : lv_has sl n (gv_l ad ls)) (hi : ls[i]? = some (some v)) : sl[i]? = some (.val (gv_t ad v)) :=
  h.2.2 (i, gv_t ad v) (gv_lmem.mpr ⟨v, hi, rfl⟩)
theorem gv_lle {ad : Nat → Nat} {ls ls' : List (Option Value)} {sl : Array Slot} {n : Nat} (h : lv_has sl n (gv_l ad ls)) (hs : ∀ (i : Nat) (v : Value), ls'[i]? = some (some v) → ls[i]? = some (some v)) : lv_has sl n (gv_l ad ls') := by
  refine ⟨h.1, h.2.1, fun q hq => ?_⟩
  obtain ⟨v, h1, h2⟩ := gv_lmem.mp hq
  exact h.2.2 q (gv_lmem.mpr ⟨v, hs _ _ h1, h2⟩)
def gv_c1 (ls : List (Option Value)) (i : Nat) : List (Option Value) := match i with
  | 0 => ls
  | j + 1 => match ls[j]? with
    | some (some v) => bif v.category == 2 then ls.set j none else ls
    | _ => ls
def gv_s1 (ls : List (Option Value)) (i : Nat) (v : Value) : List (Option Value) := (gv_c1 ls i).set i (some v)
def gv_s2 (ls : List (Option Value)) (i : Nat) (v : Value) : List (Option Value) := ((gv_c1 ls i).set i (some v)).set (i + 1) none
theorem gv_c1_at {ls : List (Option Value)} {i q : Nat} {w : Value} (h : (gv_c1 ls i)[q]? = some (some w)) : ls[q]? = some (some w) ∧ ¬ (q + 1 = i ∧ w.category = 2) := by
  cases i with
  | zero => exact ⟨h, fun z => by omega⟩
  | succ j =>
    simp only [gv_c1] at h
    split at h
    · rename_i v hx
      by_cases hc : v.category = 2
      · rw [show (v.category == 2) = true by simp [hc]] at h
        simp only [cond_true] at h
        by_cases hj : q = j
        · subst hj
          have hl := (List.getElem?_eq_some_iff.mp hx).1
          rw [List.getElem?_set_self hl] at h
          cases h
        · rw [List.getElem?_set_ne (Ne.symm hj)] at h
          exact ⟨h, fun z => hj (by omega)⟩
      · rw [show (v.category == 2) = false by simp [hc]] at h
        simp only [cond_false] at h
        refine ⟨h, fun z => ?_⟩
        have : q = j := by omega
        subst this
        rw [hx] at h
        cases h
        exact hc z.2
    · rename_i hx
      refine ⟨h, fun z => ?_⟩
      have : q = j := by omega
      subst this
      exact hx w h
theorem gv_sub1 {ad : Nat → Nat} {ls : List (Option Value)} {sl : Array Slot} {n i : Nat} {v : Value} (h : lv_has sl n ((i, gv_t ad v) :: (gv_l ad ls).filter (fun q => !(q.1 == i) && !(q.1 + 1 == i && q.2.category == 2)))) : lv_has sl n (gv_l ad (gv_s1 ls i v)) := by
  refine ⟨h.1, h.2.1, fun q hq => h.2.2 q ?_⟩
  obtain ⟨w, h1, h2⟩ := gv_lmem.mp hq
  by_cases hi : q.1 = i
  · rw [hi] at h1
    have hl : i < (gv_c1 ls i).length := by
      have := (List.getElem?_eq_some_iff.mp h1).1
      simpa [gv_s1] using this
    rw [gv_s1, List.getElem?_set_self hl] at h1
    cases h1
    exact List.mem_cons.mpr (Or.inl (Prod.ext hi h2))
  · rw [gv_s1, List.getElem?_set_ne (Ne.symm hi)] at h1
    obtain ⟨h3, h4⟩ := gv_c1_at h1
    refine List.mem_cons_of_mem _ (List.mem_filter.mpr ⟨gv_lmem.mpr ⟨w, h3, h2⟩, ?_⟩)
    rw [h2, gv_tc]
    simp only [Bool.and_eq_true, Bool.not_eq_true', beq_eq_false_iff_ne, ne_eq, Bool.and_eq_false_iff]
    exact ⟨hi, by
      by_cases z : q.1 + 1 = i
      · exact Or.inr (fun z2 => h4 ⟨z, z2⟩)
      · exact Or.inl z⟩
theorem gv_sub2 {ad : Nat → Nat} {ls : List (Option Value)} {sl : Array Slot} {n i : Nat} {v : Value} (h : lv_has sl n ((i, gv_t ad v) :: (gv_l ad ls).filter (fun q => !(q.1 == i) && (!(q.1 == i + 1) && !(q.1 + 1 == i && q.2.category == 2))))) : lv_has sl n (gv_l ad (gv_s2 ls i v)) := by
  refine ⟨h.1, h.2.1, fun q hq => h.2.2 q ?_⟩
  obtain ⟨w, h1, h2⟩ := gv_lmem.mp hq
  by_cases hj : q.1 = i + 1
  · rw [hj] at h1
    have hl : i + 1 < ((gv_c1 ls i).set i (some v)).length := by
      have := (List.getElem?_eq_some_iff.mp h1).1
      simpa [gv_s2] using this
    rw [gv_s2, List.getElem?_set_self hl] at h1
    cases h1
  · rw [gv_s2, List.getElem?_set_ne (Ne.symm hj)] at h1
    by_cases hi : q.1 = i
    · rw [hi] at h1
      have hl : i < (gv_c1 ls i).length := by
        have := (List.getElem?_eq_some_iff.mp h1).1
        simpa using this
      rw [List.getElem?_set_self hl] at h1
      cases h1
      exact List.mem_cons.mpr (Or.inl (Prod.ext hi h2))
    · rw [List.getElem?_set_ne (Ne.symm hi)] at h1
      obtain ⟨h3, h4⟩ := gv_c1_at h1
      refine List.mem_cons_of_mem _ (List.mem_filter.mpr ⟨gv_lmem.mpr ⟨w, h3, h2⟩, ?_⟩)
      rw [h2, gv_tc]
      simp only [Bool.and_eq_true, Bool.not_eq_true', beq_eq_false_iff_ne, ne_eq, Bool.and_eq_false_iff]
      exact ⟨hi, hj, by
        by_cases z : q.1 + 1 = i
        · exact Or.inr (fun z2 => h4 ⟨z, z2⟩)
        · exact Or.inl z⟩
abbrev gM : Type := MethodName × ByteArray × Nat × Option FieldType × List (Nat × Nat × Nat × Nat) × Nat × Nat × Bool
abbrev gM.y (μ : gM) : MethodName := μ.1
abbrev gM.cc (μ : gM) : ByteArray := μ.2.1
abbrev gM.nL (μ : gM) : Nat := μ.2.2.1
abbrev gM.rt (μ : gM) : Option FieldType := μ.2.2.2.1
abbrev gM.hh (μ : gM) : List (Nat × Nat × Nat × Nat) := μ.2.2.2.2.1
abbrev gM.F (μ : gM) : Nat := μ.2.2.2.2.2.1
abbrev gM.c (μ : gM) : Nat := μ.2.2.2.2.2.2.1
abbrev gM.pu (μ : gM) : Bool := μ.2.2.2.2.2.2.2
def gv_rm (μ : gM) : Room := { frames := μ.F, cells := 1, slots := 6, locals := 100 * μ.F }
abbrev gQ : Type := Option Value ⊕ Nat
def gv_ty (cA : FieldType → ClassId) : List (ClassId × FieldType) := [(cA .int, .int), (cA .byte, .byte), (cA .boolean, .boolean), (cA .long, .long)]
def gv_G (D : va_G) (cA : FieldType → ClassId) (ad : Nat → Nat) (s : State) : Prop :=
  (∀ w ∈ gv_ws, w.before #[] s = true) ∧ va_K D vwCl (gv_ty cA) s ∧ (∀ i j, i < gv_sh.length → j < gv_sh.length → ad i = ad j → i = j) ∧ ((∀ i, i < gv_sh.length → ad gv_scr ≠ ad i) ∧ ad gv_scr < s.heap.size) ∧
  gv_Zs "java/lang/Throwable" "UNASSIGNED_STACK" "[Ljava/lang/StackTraceElement;" (gv_A ad s) s s.heap ∧ gv_Zs "java/lang/Throwable" "SUPPRESSED_SENTINEL" "Ljava/util/List;" (gv_A ad s) s s.heap
def gv_C (μ : gM) (p : Program) (l : Launch) (R : Room) (s : State) (m : MethodId) (meth : Method) (c : Code) (D : va_G) (cA : FieldType → ClassId) (ad : Nat → Nat) : Prop :=
  (p.tables.exec = Jvm.exec ∧ c.code = μ.cc ∧ c.maxLocals = μ.nL ∧ s.vm.findClass μ.y.cls = some m.cls ∧ meth.sig.returnType = μ.rt ∧ meth.locks = false ∧ (c.exceptionTable.toList.map fun h => (h.startPc, h.endPc, h.handlerPc, h.catchType)) = μ.hh ∧ l.stackTraces = false ∧ μ.F ≤ R.frames ∧ 100 * μ.F ≤ R.locals) ∧ gv_G D cA ad s
def gv_X (ad : Nat → Nat) (σ : gS) (s : State) : Prop := va_X (ad gv_scr) σ.2.2.2.length (fun j => σ.2.2.2.getD j 0) s s.heap
def gv_exc (n : Nat) (s : State) (H : Heap) (a : Addr) : Prop := ∃ ce : Cell, H[a]? = some ce ∧ ce.vm.isStatics = false ∧ s.vm.findClass (gv_en n) = some ce.cls
def gv_ri (rt : Option FieldType) (v : Option Value) (i : Instr) : Prop :=
  (v = none ∧ rt = none ∧ i = .return_) ∨ (∃ (x : Int32) (ty : FieldType), v = some (.int x) ∧ rt = some ty ∧ narrow ty (.int x) = .int x ∧ i = .ireturn) ∨ ∃ x : Int64, v = some (.long x) ∧ rt = some .long ∧ i = .lreturn
def gv_Ex (μ : gM) (p : Program) (l : Launch) (e : Env) (R : Room) (s : State) (m : MethodId) (args : Array Value) (below : List Frame) (meth : Method) (c : Code) (D : va_G) (cA : FieldType → ClassId) (ad : Nat → Nat) (Z : State → Prop) (Q : gQ → gS → Prop) : Prop :=
  (∀ (v : Option Value) (σ : gS) (k : Nat) (H : Heap) (locs : List Loc) (cells slots : Nat) (sl : Array Slot) (pc : Nat) (i : Instr), Q (.inl v) σ → gv_ri μ.rt v i → 1 ≤ k + μ.c → (μ.pu = true → locs = []) → cells + k ≤ R.cells → slots + 6 * k ≤ R.slots → gv_X ad σ s → va_P D vwCl (gv_w cA ad σ) H → va_S (gv_A ad s) s.heap H locs →
    decode μ.cc pc = .ok (i, 1) → W p l e R s m args below meth c H locs cells slots Z (F0 m pc sl (v.toList.map (gv_t ad)))) ∧
  ∀ (n : Nat) (σ : gS) (U : State) (a : Addr) (locs : List Loc) (cells slots : Nat), Q (.inr n) σ → U.status = .running → Ended U below (.threw a) → s.WarmedH U.vm → s.sameButNew ({ U with vm := s.vm } : State) locs cells slots → cells ≤ R.cells → slots ≤ R.slots → gv_X ad σ s → va_P D vwCl (gv_w cA ad σ) U.heap → va_S (gv_A ad s) s.heap U.heap locs → gv_exc n s U.heap a → Z U
def gv_V (μ : gM) (k : Nat) (w : Bool) (pc : Nat) (ls : List (Option Value)) (st : List Value) (σ : gS) (Q : gQ → gS → Prop) : Prop :=
  ∀ (p : Program) (l : Launch) (e : Env) (R : Room) (s : State) (m : MethodId) (args : Array Value) (below : List Frame) (meth : Method) (c : Code) (D : va_G) (cA : FieldType → ClassId) (ad : Nat → Nat) (Z : State → Prop),
    gv_C μ p l R s m meth c D cA ad → gv_Ex μ p l e R s m args below meth c D cA ad Z Q → ∀ (H : Heap) (locs : List Loc) (cells slots : Nat) (sl : Array Slot), (w = true → locs = [] ∧ ∀ i, i < gv_sh.length → ad i < s.heap.size) → cells + k ≤ R.cells → slots + 6 * k ≤ R.slots → gv_X ad σ s → va_P D vwCl (gv_w cA ad σ) H → va_S (gv_A ad s) s.heap H locs →
      lv_has sl μ.nL (gv_l ad ls) → W p l e R s m args below meth c H locs cells slots Z (F0 m pc sl (st.map (gv_t ad)))
