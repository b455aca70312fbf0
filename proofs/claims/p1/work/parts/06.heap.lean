theorem gv_hts {μ : gM} {p : Program} {l : Launch} {R : Room} {s : State} {m : MethodId} {meth : Method} {c : Code} {D : va_G} {cA : FieldType → ClassId} {ad : Nat → Nat} (hC : gv_C μ p l R s m meth c D cA ad) (args : Array Value) : ∀ w ∈ gv_ws, w.before args s = true :=
  fun w hw => gv_wt hw rfl (hC.2.1 w hw)
def gv_lk (own : String) (idx ci kf : Nat) : Prop := ∃ (C : String) (T : u_T) (N : Nat), vwCl[ci]? = some (C, T, N) ∧ kf < N ∧ (∀ w ∈ u_ws C T N, w ∈ gv_ws) ∧ (Cond.fieldLink own idx (T kf).1 (T kf).2.1 (T kf).2.2.1 ∈ gv_ws ∨ ∃ host, Cond.fieldLinkNest own idx (T kf).1 (T kf).2.1 (T kf).2.2.1 host ∈ gv_ws)
def gv_lkp (own : String) (idx ci kf : Nat) (ty : FieldType) : Prop := ∃ (C : String) (T : u_T) (N : Nat), vwCl[ci]? = some (C, T, N) ∧ kf < N ∧ (∀ w ∈ u_ws C T N, w ∈ gv_ws) ∧ (Cond.fieldLink own idx (T kf).1 (T kf).2.1 (T kf).2.2.1 ∈ gv_ws ∨ ∃ host, Cond.fieldLinkNest own idx (T kf).1 (T kf).2.1 (T kf).2.2.1 host ∈ gv_ws) ∧
  (∃ ty0 : Nat → FieldType, ∀ k, k < N → parseFieldDescriptor (T k).2.2.1 = some (ty0 k)) ∧ (∀ a, a < N → ∀ b, b < N → a ≠ b → (T a).2.1 ≠ (T b).2.1) ∧ (T kf).2.2.2 = false ∧ parseFieldDescriptor (T kf).2.2.1 = some ty
theorem gv_get0 {μ : gM} {k pc pc' : Nat} {w : Bool} {ls : List (Option Value)} {st : List Value} {σ : gS} {Q : gQ → gS → Prop} {q ci kf idx : Nat} {fs : List (Option Nat)} {f : Option Nat} {v : Value} (lk : gv_lk μ.y.cls idx ci kf) (hd : decode μ.cc pc = .ok (.getfield idx, 3)) (hsh : gv_sh[q]? = some (.inr (ci, fs))) (hf : fs[kf]? = some f)
    (hv : ∀ ad, gv_t ad v = gv_f ad σ q kf f) (hp : pc + 3 = pc') (h : gv_V μ k w pc' ls (v :: st) σ Q) : gv_V μ k w pc ls (.ref q :: st) σ Q := by
  intro p l e R s m args below meth c D cA ad Z hC hE H locs cells slots sl hw0 hc hs hX hP hS hl
  subst hp
  obtain ⟨C, T, N, hcl, hkN, hin, hlink⟩ := lk
  have hts := gv_hts hC args
  have he : (gv_w cA ad σ)[q]? = some (ad q, .inr (ci, fs.mapIdx (fun k f => gv_f ad σ q k f))) := gv_wget σ hsh
  have hv2 : (fs.mapIdx (fun k f => gv_f ad σ q k f))[kf]? = some (gv_t ad v) := by rw [List.getElem?_mapIdx, hf, hv ad]; rfl
  rcases hlink with hlink | ⟨host, hlink⟩
  · exact va_get hC.1.1 hC.1.2.1 hts hin hC.1.2.2.2.1 hC.2.2.1 hP q he hcl kf hkN (hts _ hlink) (fun _ h => h) hv2 hd (h p l e R s m args below meth c D cA ad Z hC hE H locs cells slots sl hw0 hc hs hX hP hS hl)
  · exact va_getN hC.1.1 hC.1.2.1 hts hin hC.1.2.2.2.1 hC.2.2.1 hP q he hcl kf hkN (hts _ hlink) (fun _ h => h) hv2 hd (h p l e R s m args below meth c D cA ad Z hC hE H locs cells slots sl hw0 hc hs hX hP hS hl)
theorem gv_geti {μ : gM} {k pc pc' : Nat} {w : Bool} {ls : List (Option Value)} {st : List Value} {σ : gS} {Q : gQ → gS → Prop} {q ci kf idx : Nat} {fs : List (Option Nat)} (lk : gv_lk μ.y.cls idx ci kf) (hd : decode μ.cc pc = .ok (.getfield idx, 3)) (hsh : gv_sh[q]? = some (.inr (ci, fs))) (hf : fs[kf]? = some none)
    (hp : pc + 3 = pc') (h : gv_V μ k w pc' ls (.int (σ.1 q kf) :: st) σ Q) : gv_V μ k w pc ls (.ref q :: st) σ Q := gv_get0 lk hd hsh hf (fun _ => rfl) hp h
theorem gv_getr {μ : gM} {k pc pc' : Nat} {w : Bool} {ls : List (Option Value)} {st : List Value} {σ : gS} {Q : gQ → gS → Prop} {q ci kf idx r : Nat} {fs : List (Option Nat)} (lk : gv_lk μ.y.cls idx ci kf) (hd : decode μ.cc pc = .ok (.getfield idx, 3)) (hsh : gv_sh[q]? = some (.inr (ci, fs))) (hf : fs[kf]? = some (some r))
    (hp : pc + 3 = pc') (h : gv_V μ k w pc' ls (.ref r :: st) σ Q) : gv_V μ k w pc ls (.ref q :: st) σ Q := gv_get0 lk hd hsh hf (fun _ => rfl) hp h
theorem gv_wputi {cA : FieldType → ClassId} {ad : Nat → Nat} {σ : gS} {q ci kf : Nat} {fs : List (Option Nat)} {x : Int32} (hsh : gv_sh[q]? = some (.inr (ci, fs))) (hf : fs[kf]? = some none) :
    (gv_w cA ad σ).set q (ad q, .inr (ci, (fs.mapIdx (fun k f => gv_f ad σ q k f)).set kf (.int x))) = gv_w cA ad ((gv_up σ.1 q kf x, σ.2) : gS) := by
  have hlen : kf < (fs.mapIdx (fun k f => gv_f ad σ q k f)).length := by rw [List.length_mapIdx]; exact (List.getElem?_eq_some_iff.mp hf).1
  have hset : (fs.mapIdx (fun k f => gv_f ad σ q k f)).set kf (.int x) = fs.mapIdx (fun k f => gv_f ad ((gv_up σ.1 q kf x, σ.2) : gS) q k f) := by
    refine List.ext_getElem? fun j => ?_
    by_cases hj : j = kf
    · subst hj
      rw [List.getElem?_set_self hlen, List.getElem?_mapIdx, hf]
      simp [gv_f, gv_up]
    · rw [List.getElem?_set_ne (Ne.symm hj), List.getElem?_mapIdx, List.getElem?_mapIdx]
      cases fs[j]? with
      | none => rfl
      | some f => cases f <;> simp [gv_f, gv_up, hj]
  have hoth : ∀ r, r ≠ q → ∀ d', gv_e cA ad ((gv_up σ.1 q kf x, σ.2) : gS) r d' = gv_e cA ad σ r d' := by
    intro r hr d'
    rcases d' with ⟨ty', n⟩ | ⟨ci', fs'⟩
    · cases ty' <;> rfl
    · simp only [gv_e]
      congr 2
      refine congrArg (fun g => List.mapIdx g fs') ?_
      funext j f
      cases f <;> simp [gv_f, gv_up, hr]
  have h0 := gv_wset (cA := cA) (ad := ad) (σ := σ) (σ' := ((gv_up σ.1 q kf x, σ.2) : gS)) hsh hoth
  have e0 : gv_e cA ad ((gv_up σ.1 q kf x, σ.2) : gS) q (.inr (ci, fs)) = .inr (ci, fs.mapIdx (fun k f => gv_f ad ((gv_up σ.1 q kf x, σ.2) : gS) q k f)) := rfl
  rw [e0, ← hset] at h0
  exact h0
theorem gv_wasta {cA : FieldType → ClassId} {ad : Nat → Nat} {σ : gS} {q n j : Nat} {ty : FieldType} {x : Int32} (hty : ty ≠ .long) (hsh : gv_sh[q]? = some (.inl (ty, n))) :
    (gv_w cA ad σ).set q (ad q, .inl (cA ty, n, .inl (upd (σ.2.1 q) j x))) = gv_w cA ad ((σ.1, gv_up σ.2.1 q j x, σ.2.2) : gS) := by
  have hoth : ∀ r, r ≠ q → ∀ d', gv_e cA ad ((σ.1, gv_up σ.2.1 q j x, σ.2.2) : gS) r d' = gv_e cA ad σ r d' := by
    intro r hr d'
    rcases d' with ⟨ty', n'⟩ | ⟨ci', fs'⟩
    · cases ty' <;> simp [gv_e, gv_up_ne, hr]
    · rfl
  have h0 := gv_wset (cA := cA) (ad := ad) (σ := σ) (σ' := ((σ.1, gv_up σ.2.1 q j x, σ.2.2) : gS)) hsh hoth
  have e1 : gv_up σ.2.1 q j x q = upd (σ.2.1 q) j x := by funext i; simp [gv_up, upd]
  have e0 : gv_e cA ad ((σ.1, gv_up σ.2.1 q j x, σ.2.2) : gS) q (.inl (ty, n)) = .inl (cA ty, n, .inl (upd (σ.2.1 q) j x)) := by
    rw [← e1]
    cases ty <;> first | rfl | exact absurd rfl hty
  rw [e0] at h0
  exact h0
theorem gv_wastl {cA : FieldType → ClassId} {ad : Nat → Nat} {σ : gS} {q n j : Nat} {x : Int64} (hsh : gv_sh[q]? = some (.inl (.long, n))) :
    (gv_w cA ad σ).set q (ad q, .inl (cA .long, n, .inr (.inl (vp_updL (σ.2.2.1 q) j x)))) = gv_w cA ad ((σ.1, σ.2.1, gv_up σ.2.2.1 q j x, σ.2.2.2) : gS) := by
  have hoth : ∀ r, r ≠ q → ∀ d', gv_e cA ad ((σ.1, σ.2.1, gv_up σ.2.2.1 q j x, σ.2.2.2) : gS) r d' = gv_e cA ad σ r d' := by
    intro r hr d'
    rcases d' with ⟨ty', n'⟩ | ⟨ci', fs'⟩
    · cases ty' <;> simp [gv_e, gv_up_ne, hr]
    · rfl
  have h0 := gv_wset (cA := cA) (ad := ad) (σ := σ) (σ' := ((σ.1, σ.2.1, gv_up σ.2.2.1 q j x, σ.2.2.2) : gS)) hsh hoth
  have e1 : gv_up σ.2.2.1 q j x q = vp_updL (σ.2.2.1 q) j x := by funext i; simp [gv_up, vp_updL]
  have e0 : gv_e cA ad ((σ.1, σ.2.1, gv_up σ.2.2.1 q j x, σ.2.2.2) : gS) q (.inl (.long, n)) = .inl (cA .long, n, .inr (.inl (vp_updL (σ.2.2.1 q) j x))) := by
    rw [← e1]; rfl
  rw [e0] at h0
  exact h0
theorem gv_puti {μ : gM} {k pc pc' : Nat} {w : Bool} {ls : List (Option Value)} {st : List Value} {σ : gS} {Q : gQ → gS → Prop} {q ci kf idx : Nat} {fs : List (Option Nat)} {x : Int32} {ty : FieldType} (lk : gv_lkp μ.y.cls idx ci kf ty) (hd : decode μ.cc pc = .ok (.putfield idx, 3)) (hsh : gv_sh[q]? = some (.inr (ci, fs))) (hf : fs[kf]? = some none)
    (hn : narrow ty (.int x) = .int x) (hfit : fits ty (.int x) = true) (hp : pc + 3 = pc') (h : gv_V μ k false pc' ls st (gv_up σ.1 q kf x, σ.2) Q) : gv_V μ k w pc ls (.int x :: .ref q :: st) σ Q := by
  intro p l e R s m args below meth c D cA ad Z hC hE H locs cells slots sl hw0 hc hs hX hP hS hl
  subst hp
  obtain ⟨C, T, N, hcl, hkN, hin, hlink, ⟨ty0, hty⟩, hnm, hfin, hpd⟩ := lk
  have hts := gv_hts hC args
  have hD : va_D (gv_A ad s) (gv_w cA ad σ) := gv_Aw hC.2.2.2.1
  have he : (gv_w cA ad σ)[q]? = some (ad q, .inr (ci, fs.mapIdx (fun k f => gv_f ad σ q k f))) := gv_wget σ hsh
  have hlen : kf < (fs.mapIdx (fun k f => gv_f ad σ q k f)).length := by rw [List.length_mapIdx]; exact (List.getElem?_eq_some_iff.mp hf).1
  have kk : ∀ (H1 : Heap) (locs1 : List Loc), va_P D vwCl ((gv_w cA ad σ).set q (ad q, .inr (ci, (fs.mapIdx (fun k f => gv_f ad σ q k f)).set kf (.int x)))) H1 → va_D (gv_A ad s) ((gv_w cA ad σ).set q (ad q, .inr (ci, (fs.mapIdx (fun k f => gv_f ad σ q k f)).set kf (.int x)))) → va_S (gv_A ad s) s.heap H1 locs1 → W p l e R s m args below meth c H1 locs1 cells slots Z (F0 m (pc + 3) sl (st.map (gv_t ad))) := by
    intro H1 locs1 hP1 _ hS1
    rw [gv_wputi hsh hf] at hP1
    exact h p l e R s m args below meth c D cA ad Z hC hE H1 locs1 cells slots sl (fun z => by cases z) hc hs hX hP1 hS1 hl
  rcases hlink with hlink | ⟨host, hlink⟩
  · exact va_put hC.1.1 hC.1.2.1 hts hin ty0 hty hnm hC.1.2.2.2.1 hC.2.2.1 hP hD hS q he hcl kf hkN (hts _ hlink) (fun _ h => h) hfin hpd hn hfit hlen hd kk
  · exact va_putN hC.1.1 hC.1.2.1 hts hin ty0 hty hnm hC.1.2.2.2.1 hC.2.2.1 hP hD hS q he hcl kf hkN (hts _ hlink) (fun _ h => h) hfin hpd hn hfit hlen hd kk
theorem gv_iald {μ : gM} {k pc pc' : Nat} {w : Bool} {ls : List (Option Value)} {st : List Value} {σ : gS} {Q : gQ → gS → Prop} {q n : Nat} {i : Int32} (j : Nat) (hd : decode μ.cc pc = .ok (.iaload, 1)) (hsh : gv_sh[q]? = some (.inl (.int, n))) (hin : vp_in i n) (hj : i.toNatClampNeg = j) (hp : pc + 1 = pc')
    (h : gv_V μ k w pc' ls (.int (σ.2.1 q j) :: st) σ Q) : gv_V μ k w pc ls (.int i :: .ref q :: st) σ Q := by
  intro p l e R s m args below meth c D cA ad Z hC hE H locs cells slots sl hw0 hc hs hX hP hS hl
  subst hp
  subst hj
  exact va_iald hC.1.1 hC.1.2.1 hC.2.2.1 hP q 0 (gv_wget σ hsh) rfl hin hd (h p l e R s m args below meth c D cA ad Z hC hE H locs cells slots sl hw0 hc hs hX hP hS hl)
theorem gv_bald {μ : gM} {k pc pc' : Nat} {w : Bool} {ls : List (Option Value)} {st : List Value} {σ : gS} {Q : gQ → gS → Prop} {q n : Nat} {i : Int32} (j : Nat) (hd : decode μ.cc pc = .ok (.baload, 1)) (hsh : gv_sh[q]? = some (.inl (.byte, n))) (hin : vp_in i n) (hj : i.toNatClampNeg = j) (hp : pc + 1 = pc')
    (h : gv_V μ k w pc' ls (.int (σ.2.1 q j) :: st) σ Q) : gv_V μ k w pc ls (.int i :: .ref q :: st) σ Q := by
  intro p l e R s m args below meth c D cA ad Z hC hE H locs cells slots sl hw0 hc hs hX hP hS hl
  subst hp
  subst hj
  exact va_bald hC.1.1 hC.1.2.1 hC.2.2.1 hP q 1 (gv_wget σ hsh) rfl hin hd (h p l e R s m args below meth c D cA ad Z hC hE H locs cells slots sl hw0 hc hs hX hP hS hl)
theorem gv_zald {μ : gM} {k pc pc' : Nat} {w : Bool} {ls : List (Option Value)} {st : List Value} {σ : gS} {Q : gQ → gS → Prop} {q n : Nat} {i : Int32} (j : Nat) (hd : decode μ.cc pc = .ok (.baload, 1)) (hsh : gv_sh[q]? = some (.inl (.boolean, n))) (hin : vp_in i n) (hj : i.toNatClampNeg = j) (hp : pc + 1 = pc')
    (h : gv_V μ k w pc' ls (.int (σ.2.1 q j) :: st) σ Q) : gv_V μ k w pc ls (.int i :: .ref q :: st) σ Q := by
  intro p l e R s m args below meth c D cA ad Z hC hE H locs cells slots sl hw0 hc hs hX hP hS hl
  subst hp
  subst hj
  exact va_zald hC.1.1 hC.1.2.1 hC.2.2.1 hP q 2 (gv_wget σ hsh) rfl hin hd (h p l e R s m args below meth c D cA ad Z hC hE H locs cells slots sl hw0 hc hs hX hP hS hl)
theorem gv_lald {μ : gM} {k pc pc' : Nat} {w : Bool} {ls : List (Option Value)} {st : List Value} {σ : gS} {Q : gQ → gS → Prop} {q n : Nat} {i : Int32} (j : Nat) (hd : decode μ.cc pc = .ok (.laload, 1)) (hsh : gv_sh[q]? = some (.inl (.long, n))) (hin : vp_in i n) (hj : i.toNatClampNeg = j) (hp : pc + 1 = pc')
    (h : gv_V μ k w pc' ls (.long (σ.2.2.1 q j) :: st) σ Q) : gv_V μ k w pc ls (.int i :: .ref q :: st) σ Q := by
  intro p l e R s m args below meth c D cA ad Z hC hE H locs cells slots sl hw0 hc hs hX hP hS hl
  subst hp
  subst hj
  exact va_lald hC.1.1 hC.1.2.1 hC.2.2.1 hP q 3 (gv_wget σ hsh) rfl hin hd (h p l e R s m args below meth c D cA ad Z hC hE H locs cells slots sl hw0 hc hs hX hP hS hl)
theorem gv_iast {μ : gM} {k pc pc' : Nat} {w : Bool} {ls : List (Option Value)} {st : List Value} {σ : gS} {Q : gQ → gS → Prop} {q n : Nat} {i : Int32} {x : Int32} (j : Nat) (hd : decode μ.cc pc = .ok (.iastore, 1)) (hsh : gv_sh[q]? = some (.inl (.int, n))) (hin : vp_in i n) (hj : i.toNatClampNeg = j) (hp : pc + 1 = pc')
    (h : gv_V μ k false pc' ls st (σ.1, gv_up σ.2.1 q j (x), σ.2.2) Q) : gv_V μ k w pc ls (.int x :: .int i :: .ref q :: st) σ Q := by
  intro p l e R s m args below meth c D cA ad Z hC hE H locs cells slots sl hw0 hc hs hX hP hS hl
  subst hp
  subst hj
  have hD : va_D (gv_A ad s) (gv_w cA ad σ) := gv_Aw hC.2.2.2.1
  exact va_iast hC.1.1 hC.1.2.1 hC.2.2.1 hP hD hS q 0 (gv_wget σ hsh) rfl hin hd (fun H1 locs1 hP1 _ hS1 => by
    rw [gv_wasta (by decide) hsh] at hP1
    exact h p l e R s m args below meth c D cA ad Z hC hE H1 locs1 cells slots sl (fun z => by cases z) hc hs hX hP1 hS1 hl)
theorem gv_bast {μ : gM} {k pc pc' : Nat} {w : Bool} {ls : List (Option Value)} {st : List Value} {σ : gS} {Q : gQ → gS → Prop} {q n : Nat} {i : Int32} {x : Int32} (j : Nat) (hd : decode μ.cc pc = .ok (.bastore, 1)) (hsh : gv_sh[q]? = some (.inl (.byte, n))) (hin : vp_in i n) (hj : i.toNatClampNeg = j) (hp : pc + 1 = pc')
    (h : gv_V μ k false pc' ls st (σ.1, gv_up σ.2.1 q j (vp_nar .byte x), σ.2.2) Q) : gv_V μ k w pc ls (.int x :: .int i :: .ref q :: st) σ Q := by
  intro p l e R s m args below meth c D cA ad Z hC hE H locs cells slots sl hw0 hc hs hX hP hS hl
  subst hp
  subst hj
  have hD : va_D (gv_A ad s) (gv_w cA ad σ) := gv_Aw hC.2.2.2.1
  exact va_bast hC.1.1 hC.1.2.1 hC.2.2.1 hP hD hS q 1 (gv_wget σ hsh) rfl hin hd (fun H1 locs1 hP1 _ hS1 => by
    rw [gv_wasta (by decide) hsh] at hP1
    exact h p l e R s m args below meth c D cA ad Z hC hE H1 locs1 cells slots sl (fun z => by cases z) hc hs hX hP1 hS1 hl)
theorem gv_zast {μ : gM} {k pc pc' : Nat} {w : Bool} {ls : List (Option Value)} {st : List Value} {σ : gS} {Q : gQ → gS → Prop} {q n : Nat} {i : Int32} {x : Int32} (j : Nat) (hd : decode μ.cc pc = .ok (.bastore, 1)) (hsh : gv_sh[q]? = some (.inl (.boolean, n))) (hin : vp_in i n) (hj : i.toNatClampNeg = j) (hp : pc + 1 = pc')
    (h : gv_V μ k false pc' ls st (σ.1, gv_up σ.2.1 q j (vp_nar .boolean x), σ.2.2) Q) : gv_V μ k w pc ls (.int x :: .int i :: .ref q :: st) σ Q := by
  intro p l e R s m args below meth c D cA ad Z hC hE H locs cells slots sl hw0 hc hs hX hP hS hl
  subst hp
  subst hj
  have hD : va_D (gv_A ad s) (gv_w cA ad σ) := gv_Aw hC.2.2.2.1
  exact va_zast hC.1.1 hC.1.2.1 hC.2.2.1 hP hD hS q 2 (gv_wget σ hsh) rfl hin hd (fun H1 locs1 hP1 _ hS1 => by
    rw [gv_wasta (by decide) hsh] at hP1
    exact h p l e R s m args below meth c D cA ad Z hC hE H1 locs1 cells slots sl (fun z => by cases z) hc hs hX hP1 hS1 hl)
theorem gv_last {μ : gM} {k pc pc' : Nat} {w : Bool} {ls : List (Option Value)} {st : List Value} {σ : gS} {Q : gQ → gS → Prop} {q n : Nat} {i : Int32} {x : Int64} (j : Nat) (hd : decode μ.cc pc = .ok (.lastore, 1)) (hsh : gv_sh[q]? = some (.inl (.long, n))) (hin : vp_in i n) (hj : i.toNatClampNeg = j) (hp : pc + 1 = pc')
    (h : gv_V μ k false pc' ls st (σ.1, σ.2.1, gv_up σ.2.2.1 q j (x), σ.2.2.2) Q) : gv_V μ k w pc ls (.long x :: .int i :: .ref q :: st) σ Q := by
  intro p l e R s m args below meth c D cA ad Z hC hE H locs cells slots sl hw0 hc hs hX hP hS hl
  subst hp
  subst hj
  have hD : va_D (gv_A ad s) (gv_w cA ad σ) := gv_Aw hC.2.2.2.1
  exact va_last hC.1.1 hC.1.2.1 hC.2.2.1 hP hD hS q 3 (gv_wget σ hsh) rfl hin hd (fun H1 locs1 hP1 _ hS1 => by
    rw [gv_wastl hsh] at hP1
    exact h p l e R s m args below meth c D cA ad Z hC hE H1 locs1 cells slots sl (fun z => by cases z) hc hs hX hP1 hS1 hl)
theorem gv_sld {μ : gM} {k pc pc' : Nat} {w : Bool} {ls : List (Option Value)} {st : List Value} {σ : gS} {Q : gQ → gS → Prop} {i : Int32} (j : Nat) (hd : decode μ.cc pc = .ok (.iaload, 1)) (hin : vp_in i σ.2.2.2.length) (hj : i.toNatClampNeg = j) (hp : pc + 1 = pc')
    (h : gv_V μ k w pc' ls (.int (σ.2.2.2.getD j 0) :: st) σ Q) : gv_V μ k w pc ls (.int i :: .ref gv_scr :: st) σ Q := by
  intro p l e R s m args below meth c D cA ad Z hC hE H locs cells slots sl hw0 hc hs hX hP hS hl
  subst hp
  subst hj
  exact va_sld hC.1.1 hC.1.2.1 hX hC.2.2.2.2.1.2 (fun z => by
    rcases z with ⟨i, h1, h2⟩ | z
    · exact hC.2.2.2.2.1.1 i h1 h2
    · exact absurd hC.2.2.2.2.1.2 (Nat.not_lt.mpr z)) hS hin hd (h p l e R s m args below meth c D cA ad Z hC hE H locs cells slots sl hw0 hc hs hX hP hS hl)
theorem gv_slen {μ : gM} {k pc pc' : Nat} {w : Bool} {ls : List (Option Value)} {st : List Value} {σ : gS} {Q : gQ → gS → Prop} (hd : decode μ.cc pc = .ok (.arraylength, 1)) (hp : pc + 1 = pc')
    (h : gv_V μ k w pc' ls (.int (Int32.ofNat σ.2.2.2.length) :: st) σ Q) : gv_V μ k w pc ls (.ref gv_scr :: st) σ Q := by
  intro p l e R s m args below meth c D cA ad Z hC hE H locs cells slots sl hw0 hc hs hX hP hS hl
  subst hp
  exact va_slen hC.1.1 hC.1.2.1 hX hC.2.2.2.2.1.2 (fun z => by
    rcases z with ⟨i, h1, h2⟩ | z
    · exact hC.2.2.2.2.1.1 i h1 h2
    · exact absurd hC.2.2.2.2.1.2 (Nat.not_lt.mpr z)) hS hd (h p l e R s m args below meth c D cA ad Z hC hE H locs cells slots sl hw0 hc hs hX hP hS hl)
theorem gv_alen0 {μ : gM} {k pc pc' : Nat} {w : Bool} {ls : List (Option Value)} {st : List Value} {σ : gS} {Q : gQ → gS → Prop} {q n : Nat} (hd : decode μ.cc pc = .ok (.arraylength, 1)) (hsh : gv_sh[q]? = some (.inl (.int, n))) (hp : pc + 1 = pc')
    (h : gv_V μ k w pc' ls (.int (Int32.ofNat n) :: st) σ Q) : gv_V μ k w pc ls (.ref q :: st) σ Q := by
  intro p l e R s m args below meth c D cA ad Z hC hE H locs cells slots sl hw0 hc hs hX hP hS hl
  subst hp
  exact va_alen hC.1.1 hC.1.2.1 hC.2.2.1 hP q 0 (gv_wget σ hsh) (ty := .int) rfl rfl hd (h p l e R s m args below meth c D cA ad Z hC hE H locs cells slots sl hw0 hc hs hX hP hS hl)
theorem gv_alen1 {μ : gM} {k pc pc' : Nat} {w : Bool} {ls : List (Option Value)} {st : List Value} {σ : gS} {Q : gQ → gS → Prop} {q n : Nat} (hd : decode μ.cc pc = .ok (.arraylength, 1)) (hsh : gv_sh[q]? = some (.inl (.byte, n))) (hp : pc + 1 = pc')
    (h : gv_V μ k w pc' ls (.int (Int32.ofNat n) :: st) σ Q) : gv_V μ k w pc ls (.ref q :: st) σ Q := by
  intro p l e R s m args below meth c D cA ad Z hC hE H locs cells slots sl hw0 hc hs hX hP hS hl
  subst hp
  exact va_alen hC.1.1 hC.1.2.1 hC.2.2.1 hP q 1 (gv_wget σ hsh) (ty := .byte) rfl rfl hd (h p l e R s m args below meth c D cA ad Z hC hE H locs cells slots sl hw0 hc hs hX hP hS hl)
theorem gv_alen2 {μ : gM} {k pc pc' : Nat} {w : Bool} {ls : List (Option Value)} {st : List Value} {σ : gS} {Q : gQ → gS → Prop} {q n : Nat} (hd : decode μ.cc pc = .ok (.arraylength, 1)) (hsh : gv_sh[q]? = some (.inl (.boolean, n))) (hp : pc + 1 = pc')
    (h : gv_V μ k w pc' ls (.int (Int32.ofNat n) :: st) σ Q) : gv_V μ k w pc ls (.ref q :: st) σ Q := by
  intro p l e R s m args below meth c D cA ad Z hC hE H locs cells slots sl hw0 hc hs hX hP hS hl
  subst hp
  exact va_alen hC.1.1 hC.1.2.1 hC.2.2.1 hP q 2 (gv_wget σ hsh) (ty := .boolean) rfl rfl hd (h p l e R s m args below meth c D cA ad Z hC hE H locs cells slots sl hw0 hc hs hX hP hS hl)
theorem gv_alen3 {μ : gM} {k pc pc' : Nat} {w : Bool} {ls : List (Option Value)} {st : List Value} {σ : gS} {Q : gQ → gS → Prop} {q n : Nat} (hd : decode μ.cc pc = .ok (.arraylength, 1)) (hsh : gv_sh[q]? = some (.inl (.long, n))) (hp : pc + 1 = pc')
    (h : gv_V μ k w pc' ls (.int (Int32.ofNat n) :: st) σ Q) : gv_V μ k w pc ls (.ref q :: st) σ Q := by
  intro p l e R s m args below meth c D cA ad Z hC hE H locs cells slots sl hw0 hc hs hX hP hS hl
  subst hp
  exact va_alen hC.1.1 hC.1.2.1 hC.2.2.1 hP q 3 (gv_wget σ hsh) (ty := .long) rfl rfl hd (h p l e R s m args below meth c D cA ad Z hC hE H locs cells slots sl hw0 hc hs hX hP hS hl)
