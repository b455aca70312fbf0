theorem gv_iincc {μ : gM} {k pc pc' : Nat} {w : Bool} {ls : List (Option Value)} {st : List Value} {σ : gS} {Q : gQ → gS → Prop} {i : Nat} {n : Int} {x c : Int32} (hd : decode μ.cc pc = .ok (.iinc i n, 3)) (hi : ls[i]? = some (some (.int x))) (hc : Int32.ofInt n = c) (hn : i < μ.nL) (hp : pc + 3 = pc')
    (h : gv_V μ k w pc' (gv_s1 ls i (.int (x + c))) st σ Q) : gv_V μ k w pc ls st σ Q := by
  subst hc
  exact gv_iinc hd hi rfl hn hp h
theorem gv_cvi {μ μ' : gM} {k pc pc' idx n : Nat} {w w' : Bool} {ls : List (Option Value)} {As st : List Value} {σ σ1 : gS} {Q : gQ → gS → Prop} {r : Int32} {q ci N : Nat} {fs : List (Option Nat)} {T0 : u_T} (hR : gv_K μ' (.ref q :: As) σ (gv_is (.inl (some (.int r))) σ1)) (h1 : gv_md μ') (h2 : gv_vd μ' n) (hl : gv_lkm μ μ' idx) (hd : decode μ.cc pc = .ok (.invokevirtual idx, 3)) (hF : μ'.F + 1 ≤ μ.F) (hsh : gv_sh[q]? = some (.inr (ci, fs))) (hcl : vwCl[ci]? = some (μ'.y.cls, T0, N)) (hn : As.length = n) (hent : (lg_sl (.ref q :: As)).length ≤ μ'.nL) (hw8 : (st.map fun v => v.category).sum ≤ 8) (hk : 1 ≤ k) (hc0 : μ'.c = 0) (hw' : w' = true → μ'.pu = true ∧ w = true) (hno : μ.hh.all (fun h => !(decide (h.1 ≤ pc) && decide (pc < h.2.1))) = true) (hp : pc + 3 = pc')
    (h : gv_V μ k w' pc' ls (.int r :: st) σ1 Q) : gv_V μ k w pc ls (As.reverse ++ .ref q :: st) σ Q := by
  refine gv_callV (gv_mkV hF h1 hl h2) hR hd hsh hcl hn hent hw8 hk (by rw [hc0]; rfl) hw' hno hp (fun n σ' z => by cases z.1) (fun v σ' z => ?_)
  obtain ⟨z1, rfl⟩ := z
  cases z1
  exact h
theorem gv_cvl {μ μ' : gM} {k pc pc' idx n : Nat} {w w' : Bool} {ls : List (Option Value)} {As st : List Value} {σ σ1 : gS} {Q : gQ → gS → Prop} {r : Int64} {q ci N : Nat} {fs : List (Option Nat)} {T0 : u_T} (hR : gv_K μ' (.ref q :: As) σ (gv_is (.inl (some (.long r))) σ1)) (h1 : gv_md μ') (h2 : gv_vd μ' n) (hl : gv_lkm μ μ' idx) (hd : decode μ.cc pc = .ok (.invokevirtual idx, 3)) (hF : μ'.F + 1 ≤ μ.F) (hsh : gv_sh[q]? = some (.inr (ci, fs))) (hcl : vwCl[ci]? = some (μ'.y.cls, T0, N)) (hn : As.length = n) (hent : (lg_sl (.ref q :: As)).length ≤ μ'.nL) (hw8 : (st.map fun v => v.category).sum ≤ 8) (hk : 1 ≤ k) (hc0 : μ'.c = 0) (hw' : w' = true → μ'.pu = true ∧ w = true) (hno : μ.hh.all (fun h => !(decide (h.1 ≤ pc) && decide (pc < h.2.1))) = true) (hp : pc + 3 = pc')
    (h : gv_V μ k w' pc' ls (.long r :: st) σ1 Q) : gv_V μ k w pc ls (As.reverse ++ .ref q :: st) σ Q := by
  refine gv_callV (gv_mkV hF h1 hl h2) hR hd hsh hcl hn hent hw8 hk (by rw [hc0]; rfl) hw' hno hp (fun n σ' z => by cases z.1) (fun v σ' z => ?_)
  obtain ⟨z1, rfl⟩ := z
  cases z1
  exact h
theorem gv_cv0 {μ μ' : gM} {k pc pc' idx n : Nat} {w w' : Bool} {ls : List (Option Value)} {As st : List Value} {σ σ1 : gS} {Q : gQ → gS → Prop} {q ci N : Nat} {fs : List (Option Nat)} {T0 : u_T} (hR : gv_K μ' (.ref q :: As) σ (gv_is (.inl none) σ1)) (h1 : gv_md μ') (h2 : gv_vd μ' n) (hl : gv_lkm μ μ' idx) (hd : decode μ.cc pc = .ok (.invokevirtual idx, 3)) (hF : μ'.F + 1 ≤ μ.F) (hsh : gv_sh[q]? = some (.inr (ci, fs))) (hcl : vwCl[ci]? = some (μ'.y.cls, T0, N)) (hn : As.length = n) (hent : (lg_sl (.ref q :: As)).length ≤ μ'.nL) (hw8 : (st.map fun v => v.category).sum ≤ 8) (hk : 1 ≤ k) (hc0 : μ'.c = 0) (hw' : w' = true → μ'.pu = true ∧ w = true) (hno : μ.hh.all (fun h => !(decide (h.1 ≤ pc) && decide (pc < h.2.1))) = true) (hp : pc + 3 = pc')
    (h : gv_V μ k w' pc' ls (st) σ1 Q) : gv_V μ k w pc ls (As.reverse ++ .ref q :: st) σ Q := by
  refine gv_callV (gv_mkV hF h1 hl h2) hR hd hsh hcl hn hent hw8 hk (by rw [hc0]; rfl) hw' hno hp (fun n σ' z => by cases z.1) (fun v σ' z => ?_)
  obtain ⟨z1, rfl⟩ := z
  cases z1
  exact h
theorem gv_cvt {μ μ' : gM} {k pc idx n m : Nat} {w : Bool} {ls : List (Option Value)} {As st : List Value} {σ σ1 : gS} {Q : gQ → gS → Prop} {q ci N : Nat} {fs : List (Option Nat)} {T0 : u_T} (hR : gv_K μ' (.ref q :: As) σ (gv_is (.inr m) σ1)) (h1 : gv_md μ') (h2 : gv_vd μ' n) (hl : gv_lkm μ μ' idx) (hd : decode μ.cc pc = .ok (.invokevirtual idx, 3)) (hF : μ'.F + 1 ≤ μ.F) (hsh : gv_sh[q]? = some (.inr (ci, fs))) (hcl : vwCl[ci]? = some (μ'.y.cls, T0, N)) (hn : As.length = n) (hent : (lg_sl (.ref q :: As)).length ≤ μ'.nL) (hw8 : (st.map fun v => v.category).sum ≤ 8) (hk : 1 ≤ k) (hc0 : μ'.c = 0) (hno : μ.hh.all (fun h => !(decide (h.1 ≤ pc) && decide (pc < h.2.1))) = true)
    (h : Q (.inr m) σ1) : gv_V μ k w pc ls (As.reverse ++ .ref q :: st) σ Q := by
  refine gv_callV (w' := false) (gv_mkV hF h1 hl h2) hR hd hsh hcl hn hent hw8 hk (by rw [hc0]; rfl) (fun z => by cases z) hno rfl (fun n σ' z => ?_) (fun v σ' z => by cases z.1)
  obtain ⟨z1, rfl⟩ := z
  cases z1
  exact h
theorem gv_csi {μ μ' : gM} {k pc pc' idx n : Nat} {w w' : Bool} {ls : List (Option Value)} {As st : List Value} {σ σ1 : gS} {Q : gQ → gS → Prop} {r : Int32} (hR : gv_K μ' As σ (gv_is (.inl (some (.int r))) σ1)) (h1 : gv_md μ') (h2 : gv_sd μ' n) (hl : gv_lkm μ μ' idx) (hd : decode μ.cc pc = .ok (.invokestatic idx, 3)) (hF : μ'.F + 1 ≤ μ.F) (hn : As.length = n) (hent : (lg_sl As).length ≤ μ'.nL) (hw8 : (st.map fun v => v.category).sum ≤ 8) (hk : 1 ≤ k) (hc0 : μ'.c = 0) (hw' : w' = true → μ'.pu = true ∧ w = true) (hno : μ.hh.all (fun h => !(decide (h.1 ≤ pc) && decide (pc < h.2.1))) = true) (hp : pc + 3 = pc')
    (h : gv_V μ k w' pc' ls (.int r :: st) σ1 Q) : gv_V μ k w pc ls (As.reverse ++ st) σ Q := by
  refine gv_callS (gv_mkS hF h1 hl h2) hR hd hn hent hw8 hk (by rw [hc0]; rfl) hw' hno hp (fun n σ' z => by cases z.1) (fun v σ' z => ?_)
  obtain ⟨z1, rfl⟩ := z
  cases z1
  exact h
theorem gv_csl {μ μ' : gM} {k pc pc' idx n : Nat} {w w' : Bool} {ls : List (Option Value)} {As st : List Value} {σ σ1 : gS} {Q : gQ → gS → Prop} {r : Int64} (hR : gv_K μ' As σ (gv_is (.inl (some (.long r))) σ1)) (h1 : gv_md μ') (h2 : gv_sd μ' n) (hl : gv_lkm μ μ' idx) (hd : decode μ.cc pc = .ok (.invokestatic idx, 3)) (hF : μ'.F + 1 ≤ μ.F) (hn : As.length = n) (hent : (lg_sl As).length ≤ μ'.nL) (hw8 : (st.map fun v => v.category).sum ≤ 8) (hk : 1 ≤ k) (hc0 : μ'.c = 0) (hw' : w' = true → μ'.pu = true ∧ w = true) (hno : μ.hh.all (fun h => !(decide (h.1 ≤ pc) && decide (pc < h.2.1))) = true) (hp : pc + 3 = pc')
    (h : gv_V μ k w' pc' ls (.long r :: st) σ1 Q) : gv_V μ k w pc ls (As.reverse ++ st) σ Q := by
  refine gv_callS (gv_mkS hF h1 hl h2) hR hd hn hent hw8 hk (by rw [hc0]; rfl) hw' hno hp (fun n σ' z => by cases z.1) (fun v σ' z => ?_)
  obtain ⟨z1, rfl⟩ := z
  cases z1
  exact h
theorem gv_cs0 {μ μ' : gM} {k pc pc' idx n : Nat} {w w' : Bool} {ls : List (Option Value)} {As st : List Value} {σ σ1 : gS} {Q : gQ → gS → Prop} (hR : gv_K μ' As σ (gv_is (.inl none) σ1)) (h1 : gv_md μ') (h2 : gv_sd μ' n) (hl : gv_lkm μ μ' idx) (hd : decode μ.cc pc = .ok (.invokestatic idx, 3)) (hF : μ'.F + 1 ≤ μ.F) (hn : As.length = n) (hent : (lg_sl As).length ≤ μ'.nL) (hw8 : (st.map fun v => v.category).sum ≤ 8) (hk : 1 ≤ k) (hc0 : μ'.c = 0) (hw' : w' = true → μ'.pu = true ∧ w = true) (hno : μ.hh.all (fun h => !(decide (h.1 ≤ pc) && decide (pc < h.2.1))) = true) (hp : pc + 3 = pc')
    (h : gv_V μ k w' pc' ls (st) σ1 Q) : gv_V μ k w pc ls (As.reverse ++ st) σ Q := by
  refine gv_callS (gv_mkS hF h1 hl h2) hR hd hn hent hw8 hk (by rw [hc0]; rfl) hw' hno hp (fun n σ' z => by cases z.1) (fun v σ' z => ?_)
  obtain ⟨z1, rfl⟩ := z
  cases z1
  exact h
theorem gv_cst {μ μ' : gM} {k pc idx n m : Nat} {w : Bool} {ls : List (Option Value)} {As st : List Value} {σ σ1 : gS} {Q : gQ → gS → Prop} (hR : gv_K μ' As σ (gv_is (.inr m) σ1)) (h1 : gv_md μ') (h2 : gv_sd μ' n) (hl : gv_lkm μ μ' idx) (hd : decode μ.cc pc = .ok (.invokestatic idx, 3)) (hF : μ'.F + 1 ≤ μ.F) (hn : As.length = n) (hent : (lg_sl As).length ≤ μ'.nL) (hw8 : (st.map fun v => v.category).sum ≤ 8) (hk : 1 ≤ k) (hc0 : μ'.c = 0) (hno : μ.hh.all (fun h => !(decide (h.1 ≤ pc) && decide (pc < h.2.1))) = true)
    (h : Q (.inr m) σ1) : gv_V μ k w pc ls (As.reverse ++ st) σ Q := by
  refine gv_callS (w' := false) (gv_mkS hF h1 hl h2) hR hd hn hent hw8 hk (by rw [hc0]; rfl) (fun z => by cases z) hno rfl (fun n σ' z => ?_) (fun v σ' z => by cases z.1)
  obtain ⟨z1, rfl⟩ := z
  cases z1
  exact h
