theorem gc_inj {A : Nat → Prop} {WS : va_W} {QL : List Nat} (h : WS.map Prod.fst = QL) (hD : va_D A WS) : (∀ i j, i < QL.length → j < QL.length → QL.getD i 0 = QL.getD j 0 → i = j) ∧ ∀ i, i < QL.length → A (QL.getD i 0) := by
  have key : ∀ i, i < QL.length → ∃ e, WS[i]? = some (QL.getD i 0, e) := by
    intro i hi
    have hl : i < WS.length := by rw [← h, List.length_map] at hi; exact hi
    refine ⟨WS[i].2, ?_⟩
    have e1 : QL.getD i 0 = WS[i].1 := by
      subst h
      simp [List.getD, hl]
    rw [e1, List.getElem?_eq_getElem hl]
  refine ⟨fun i j hi hj e => ?_, fun i hi => ?_⟩
  · obtain ⟨x, hx⟩ := key i hi
    obtain ⟨y, hy⟩ := key j hj
    exact hD.1 i j _ _ hx hy e
  · obtain ⟨x, hx⟩ := key i hi
    exact hD.2 i _ hx
theorem gc_adn {b : Nat} {QL : List Nat} {i : Nat} (h : i < 67) : gc_ad b QL i = QL.getD i 0 := if_neg (by omega)
theorem gc_known {s : State} {args : Array Value} (hts : ∀ w ∈ gv_ws, w.before args s = true) : ∃ (dC : Nat → ClassId) (dI : Nat → Nat → Nat), va_K (dC, dI) vwCl [] s := by
  obtain ⟨c0, i0, h0⟩ := u_known (C := "GuessFences") (T := gf_T0) (N := 12) hts lays_0 (hts (.instantiable "GuessFences" 12) (gv_i1 33 rfl rfl))
  obtain ⟨c1, i1, h1⟩ := u_known (C := "GuessFences$Listing") (T := gf_T1) (N := 8) hts lays_1 (hts (.instantiable "GuessFences$Listing" 8) (gv_i1 41 rfl rfl))
  obtain ⟨c2, i2, h2⟩ := u_known (C := "GuessFences$Machine") (T := gf_T2) (N := 7) hts lays_2 (hts (.instantiable "GuessFences$Machine" 7) (gv_i1 93 rfl rfl))
  obtain ⟨c3, i3, h3⟩ := u_known (C := "GuessFences$Leaks") (T := gf_T3) (N := 2) hts lays_3 (hts (.instantiable "GuessFences$Leaks" 2) (gv_i1 99 rfl rfl))
  obtain ⟨c4, i4, h4⟩ := u_known (C := "GuessFences$Guesses") (T := gf_T4) (N := 8) hts lays_4 (hts (.instantiable "GuessFences$Guesses" 8) (gv_i1 115 rfl rfl))
  obtain ⟨c5, i5, h5⟩ := u_known (C := "GuessFences$Reach") (T := gf_T5) (N := 6) hts lays_5 (hts (.instantiable "GuessFences$Reach" 6) (gv_i1 173 rfl rfl))
  obtain ⟨c6, i6, h6⟩ := u_known (C := "GuessFences$Taint") (T := gf_T6) (N := 11) hts lays_6 (hts (.instantiable "GuessFences$Taint" 11) (gv_i1 198 rfl rfl))
  obtain ⟨c7, i7, h7⟩ := u_known (C := "GuessFences$Cut") (T := gf_T7) (N := 9) hts lays_7 (hts (.instantiable "GuessFences$Cut" 9) (gv_i2 7 rfl rfl))
  obtain ⟨c8, i8, h8⟩ := u_known (C := "GuessFences$Rewriter") (T := gf_T8) (N := 4) hts lays_8 (hts (.instantiable "GuessFences$Rewriter" 4) (gv_i2 42 rfl rfl))
  obtain ⟨c9, i9, h9⟩ := u_known (C := "GuessFencesModel") (T := gf_T9) (N := 38) hts lays_9 (hts (.instantiable "GuessFencesModel" 38) (gv_i6 116 rfl rfl))
  refine ⟨fun k => match k with | 0 => c0 | 1 => c1 | 2 => c2 | 3 => c3 | 4 => c4 | 5 => c5 | 6 => c6 | 7 => c7 | 8 => c8 | _ => c9, fun k => match k with | 0 => i0 | 1 => i1 | 2 => i2 | 3 => i3 | 4 => i4 | 5 => i5 | 6 => i6 | 7 => i7 | 8 => i8 | _ => i9, fun k q hk => ?_, fun k q hk => by simp at hk⟩
  match k, hk with
  | 0, hk => cases hk; exact h0
  | 1, hk => cases hk; exact h1
  | 2, hk => cases hk; exact h2
  | 3, hk => cases hk; exact h3
  | 4, hk => cases hk; exact h4
  | 5, hk => cases hk; exact h5
  | 6, hk => cases hk; exact h6
  | 7, hk => cases hk; exact h7
  | 8, hk => cases hk; exact h8
  | 9, hk => cases hk; exact h9
  | k + 10, hk => exact absurd (List.getElem?_eq_some_iff.mp hk).1 (by simp)
theorem gc_up {P : Nat → Prop} {n : Nat} (h : ∀ k, k < n → P k) (hn : P n) : ∀ k, k < n + 1 → P k := fun k hk => by
  rcases Nat.lt_succ_iff_lt_or_eq.mp hk with h1 | rfl
  · exact h k h1
  · exact hn
def gc_at (D : va_G) (H : Heap) (cA : FieldType → ClassId) (ad : Nat → Nat) (σ : gS) (k : Nat) : Prop := va_at D vwCl (ad k, gv_e cA ad σ k (gv_sh.getD k (.inl (.int, 0)))) H
theorem gc_Pall {D : va_G} {H : Heap} {cA : FieldType → ClassId} {ad : Nat → Nat} {σ : gS} (h : ∀ k, k < 67 → gc_at D H cA ad σ k) : va_P D vwCl (gv_w cA ad σ) H := by
  intro k q hk
  have hl9 : k < 67 := by
    have := (List.getElem?_eq_some_iff.mp hk).1
    rw [gv_wlen, gv_shl] at this
    exact this
  have hsh : gv_sh[k]? = some (gv_sh.getD k (.inl (.int, 0))) := by
    rw [List.getD_eq_getElem?_getD, List.getElem?_eq_getElem (by rw [gv_shl]; exact hl9)]; rfl
  rw [gv_wget _ hsh] at hk
  cases hk
  exact h k hl9
theorem gc_o0 {cA : FieldType → ClassId} {ad : Nat → Nat} {σ : gS} : gv_e cA ad σ 0 (gv_sh.getD 0 (.inl (.int, 0))) = .inr (0, [.ref (ad 1), .ref (ad 2), .ref (ad 10), .ref (ad 21), .ref (ad 26), .ref (ad 33), .ref (ad 38), .int (σ.1 0 7), .int (σ.1 0 8), .int (σ.1 0 9), .int (σ.1 0 10), .int (σ.1 0 11)]) := by
  show Sum.inr (0, List.mapIdx (fun k f => gv_f ad σ 0 k f) [some 1, some 2, some 10, some 21, some 26, some 33, some 38, none, none, none, none, none]) = _
  simp only [List.mapIdx_cons, List.mapIdx_nil, gv_f, Nat.reduceAdd, Nat.zero_add]
theorem gc_o2 {cA : FieldType → ClassId} {ad : Nat → Nat} {σ : gS} : gv_e cA ad σ 2 (gv_sh.getD 2 (.inl (.int, 0))) = .inr (1, [.ref (ad 3), .ref (ad 4), .ref (ad 5), .ref (ad 6), .ref (ad 7), .ref (ad 8), .ref (ad 9), .int (σ.1 2 7)]) := by
  show Sum.inr (1, List.mapIdx (fun k f => gv_f ad σ 2 k f) [some 3, some 4, some 5, some 6, some 7, some 8, some 9, none]) = _
  simp only [List.mapIdx_cons, List.mapIdx_nil, gv_f, Nat.reduceAdd, Nat.zero_add]
theorem gc_o10 {cA : FieldType → ClassId} {ad : Nat → Nat} {σ : gS} : gv_e cA ad σ 10 (gv_sh.getD 10 (.inl (.int, 0))) = .inr (2, [.ref (ad 2), .ref (ad 11), .ref (ad 12), .ref (ad 13), .ref (ad 15), .int (σ.1 10 5), .int (σ.1 10 6)]) := by
  show Sum.inr (2, List.mapIdx (fun k f => gv_f ad σ 10 k f) [some 2, some 11, some 12, some 13, some 15, none, none]) = _
  simp only [List.mapIdx_cons, List.mapIdx_nil, gv_f, Nat.reduceAdd, Nat.zero_add]
theorem gc_o13 {cA : FieldType → ClassId} {ad : Nat → Nat} {σ : gS} : gv_e cA ad σ 13 (gv_sh.getD 13 (.inl (.int, 0))) = .inr (3, [.ref (ad 14), .int (σ.1 13 1)]) := by
  show Sum.inr (3, List.mapIdx (fun k f => gv_f ad σ 13 k f) [some 14, none]) = _
  simp only [List.mapIdx_cons, List.mapIdx_nil, gv_f, Nat.reduceAdd, Nat.zero_add]
theorem gc_o15 {cA : FieldType → ClassId} {ad : Nat → Nat} {σ : gS} : gv_e cA ad σ 15 (gv_sh.getD 15 (.inl (.int, 0))) = .inr (4, [.ref (ad 16), .ref (ad 17), .ref (ad 18), .ref (ad 19), .ref (ad 20), .int (σ.1 15 5), .int (σ.1 15 6), .int (σ.1 15 7)]) := by
  show Sum.inr (4, List.mapIdx (fun k f => gv_f ad σ 15 k f) [some 16, some 17, some 18, some 19, some 20, none, none, none]) = _
  simp only [List.mapIdx_cons, List.mapIdx_nil, gv_f, Nat.reduceAdd, Nat.zero_add]
theorem gc_o21 {cA : FieldType → ClassId} {ad : Nat → Nat} {σ : gS} : gv_e cA ad σ 21 (gv_sh.getD 21 (.inl (.int, 0))) = .inr (5, [.ref (ad 2), .ref (ad 22), .ref (ad 23), .ref (ad 24), .ref (ad 25), .int (σ.1 21 5)]) := by
  show Sum.inr (5, List.mapIdx (fun k f => gv_f ad σ 21 k f) [some 2, some 22, some 23, some 24, some 25, none]) = _
  simp only [List.mapIdx_cons, List.mapIdx_nil, gv_f, Nat.reduceAdd, Nat.zero_add]
theorem gc_o26 {cA : FieldType → ClassId} {ad : Nat → Nat} {σ : gS} : gv_e cA ad σ 26 (gv_sh.getD 26 (.inl (.int, 0))) = .inr (6, [.ref (ad 2), .ref (ad 21), .ref (ad 27), .ref (ad 28), .ref (ad 29), .ref (ad 30), .ref (ad 31), .ref (ad 32), .int (σ.1 26 8), .int (σ.1 26 9), .int (σ.1 26 10)]) := by
  show Sum.inr (6, List.mapIdx (fun k f => gv_f ad σ 26 k f) [some 2, some 21, some 27, some 28, some 29, some 30, some 31, some 32, none, none, none]) = _
  simp only [List.mapIdx_cons, List.mapIdx_nil, gv_f, Nat.reduceAdd, Nat.zero_add]
theorem gc_o33 {cA : FieldType → ClassId} {ad : Nat → Nat} {σ : gS} : gv_e cA ad σ 33 (gv_sh.getD 33 (.inl (.int, 0))) = .inr (7, [.ref (ad 2), .ref (ad 21), .ref (ad 26), .ref (ad 34), .ref (ad 35), .ref (ad 36), .ref (ad 37), .int (σ.1 33 7), .int (σ.1 33 8)]) := by
  show Sum.inr (7, List.mapIdx (fun k f => gv_f ad σ 33 k f) [some 2, some 21, some 26, some 34, some 35, some 36, some 37, none, none]) = _
  simp only [List.mapIdx_cons, List.mapIdx_nil, gv_f, Nat.reduceAdd, Nat.zero_add]
theorem gc_o38 {cA : FieldType → ClassId} {ad : Nat → Nat} {σ : gS} : gv_e cA ad σ 38 (gv_sh.getD 38 (.inl (.int, 0))) = .inr (8, [.ref (ad 2), .ref (ad 26), .ref (ad 39), .ref (ad 40)]) := by
  show Sum.inr (8, List.mapIdx (fun k f => gv_f ad σ 38 k f) [some 2, some 26, some 39, some 40]) = _
  simp only [List.mapIdx_cons, List.mapIdx_nil, gv_f, Nat.reduceAdd, Nat.zero_add]
theorem gc_o41 {cA : FieldType → ClassId} {ad : Nat → Nat} {σ : gS} : gv_e cA ad σ 41 (gv_sh.getD 41 (.inl (.int, 0))) = .inr (9, [.int (σ.1 41 0), .ref (ad 42), .int (σ.1 41 2), .ref (ad 43), .int (σ.1 41 4), .int (σ.1 41 5), .int (σ.1 41 6), .int (σ.1 41 7), .ref (ad 44), .ref (ad 45), .ref (ad 46), .int (σ.1 41 11), .int (σ.1 41 12), .ref (ad 47), .ref (ad 48), .ref (ad 49), .ref (ad 50), .ref (ad 51), .int (σ.1 41 18), .int (σ.1 41 19), .int (σ.1 41 20), .ref (ad 52), .ref (ad 53), .ref (ad 54), .ref (ad 55), .ref (ad 56), .int (σ.1 41 26), .int (σ.1 41 27), .ref (ad 57), .ref (ad 58), .ref (ad 59), .ref (ad 60), .ref (ad 61), .ref (ad 62), .ref (ad 63), .ref (ad 64), .ref (ad 65), .int (σ.1 41 37)]) := by
  show Sum.inr (9, List.mapIdx (fun k f => gv_f ad σ 41 k f) [none, some 42, none, some 43, none, none, none, none, some 44, some 45, some 46, none, none, some 47, some 48, some 49, some 50, some 51, none, none, none, some 52, some 53, some 54, some 55, some 56, none, none, some 57, some 58, some 59, some 60, some 61, some 62, some 63, some 64, some 65, none]) = _
  simp only [List.mapIdx_cons, List.mapIdx_nil, gv_f, Nat.reduceAdd, Nat.zero_add]
set_option maxRecDepth 100000 in
theorem gc_P1 {D : va_G} {H : Heap} {b : Nat} {X : List Int32} {q1 q2 q3 q4 q5 q6 q7 q8 q9 q10 q11 q12 q13 q14 q15 q16 q17 q18 q19 q20 q21 q22 q23 q24 q25 q26 q27 q28 q29 q30 q31 q32 q33 q34 q35 q36 q37 q38 q39 q40 q41 q42 q43 q44 q45 q46 q47 q48 q49 q50 q51 q52 q53 q54 q55 q56 q57 q58 q59 q60 q61 q62 q63 q64 q65 q66 q67 : Nat} {c2 c13 c31 c15 : ClassId} (hP : va_P D vwCl [(q1, .inr (0, [.ref q2, .ref q3, .ref q11, .ref q22, .ref q27, .ref q34, .ref q39, .int 0, .int (-1), .int 0, .int 0, .int 0])), (q2, .inl (c2, 1040, .inl (fun _ => 0))), (q3, .inr (1, [.ref q4, .ref q5, .ref q6, .ref q7, .ref q8, .ref q9, .ref q10, .int 0])), (q4, .inl (c2, 1040, .inl (fun _ => 0))), (q5, .inl (c2, 1040, .inl (fun _ => 0))), (q6, .inl (c2, 1040, .inl (fun _ => 0))), (q7, .inl (c2, 1040, .inl (fun _ => 0))), (q8, .inl (c2, 1040, .inl (fun _ => 0))), (q9, .inl (c2, 1040, .inl (fun _ => 0))), (q10, .inl (c2, 1040, .inl (fun _ => 0))), (q11, .inr (2, [.ref q3, .ref q12, .ref q13, .ref q14, .ref q16, .int 0, .int 16])), (q12, .inl (c2, 32, .inl (fun _ => 0))), (q13, .inl (c13, 256, .inl (fun _ => 0))), (q14, .inr (3, [.ref q15, .int 0])), (q15, .inl (c15, 2048, .inr (.inl (fun _ => 0)))), (q16, .inr (4, [.ref q17, .ref q18, .ref q19, .ref q20, .ref q21, .int 0, .int 0, .int 0])), (q17, .inl (c2, 512, .inl (fun _ => 0))), (q18, .inl (c13, 4096, .inl (fun _ => 0))), (q19, .inl (c2, 16, .inl (fun _ => 0))), (q20, .inl (c2, 16, .inl (fun _ => 0))), (q21, .inl (c2, 16, .inl (fun _ => 0))), (q22, .inr (5, [.ref q3, .ref q23, .ref q24, .ref q25, .ref q26, .int 0])), (q23, .inl (c15, 17680, .inr (.inl (fun _ => 0)))), (q24, .inl (c2, 1040, .inl (fun _ => 0))), (q25, .inl (c2, 1040, .inl (fun _ => 0))), (q26, .inl (c2, 1040, .inl (fun _ => 0))), (q27, .inr (6, [.ref q3, .ref q22, .ref q28, .ref q29, .ref q30, .ref q31, .ref q32, .ref q33, .int 0, .int 0, .int 0])), (q28, .inl (c2, 1040, .inl (fun _ => 0))), (q29, .inl (c2, 1040, .inl (fun _ => 0))), (q30, .inl (c2, 1040, .inl (fun _ => 0))), (q31, .inl (c31, 1040, .inl (fun _ => 0))), (q32, .inl (c15, 17, .inr (.inl (fun _ => 0)))), (q33, .inl (c15, 17, .inr (.inl (fun _ => 0)))), (q34, .inr (7, [.ref q3, .ref q22, .ref q27, .ref q35, .ref q36, .ref q37, .ref q38, .int 0, .int 0])), (q35, .inl (c2, 1040, .inl (fun _ => 0))), (q36, .inl (c2, 2080, .inl (fun _ => 0))), (q37, .inl (c2, 2080, .inl (fun _ => 0))), (q38, .inl (c15, 17, .inr (.inl (fun _ => 0)))), (q39, .inr (8, [.ref q3, .ref q27, .ref q40, .ref q41])), (q40, .inl (c2, 1041, .inl (fun _ => 0))), (q41, .inl (c2, 1040, .inl (fun _ => 0))), (q42, .inr (9, [.int 0, .ref q43, .int 0, .ref q44, .int 0, .int 0, .int (-1), .int 0, .ref q45, .ref q46, .ref q47, .int 0, .int 16, .ref q48, .ref q49, .ref q50, .ref q51, .ref q52, .int 0, .int 0, .int 0, .ref q53, .ref q54, .ref q55, .ref q56, .ref q57, .int 0, .int 0, .ref q58, .ref q59, .ref q60, .ref q61, .ref q62, .ref q63, .ref q64, .ref q65, .ref q66, .int 0])), (q43, .inl (c2, 1040, .inl (fun _ => 0))), (q44, .inl (c2, 1040, .inl (fun _ => 0))), (q45, .inl (c2, 32, .inl (fun _ => 0))), (q46, .inl (c2, 256, .inl (fun _ => 0))), (q47, .inl (c15, 2048, .inr (.inl (fun _ => 0)))), (q48, .inl (c2, 512, .inl (fun _ => 0))), (q49, .inl (c2, 4096, .inl (fun _ => 0))), (q50, .inl (c2, 16, .inl (fun _ => 0))), (q51, .inl (c2, 16, .inl (fun _ => 0))), (q52, .inl (c2, 16, .inl (fun _ => 0))), (q53, .inl (c31, 1040, .inl (fun _ => 0))), (q54, .inl (c31, 1040, .inl (fun _ => 0))), (q55, .inl (c31, 1040, .inl (fun _ => 0))), (q56, .inl (c31, 1040, .inl (fun _ => 0))), (q57, .inl (c31, 1040, .inl (fun _ => 0))), (q58, .inl (c2, 34320, .inl (fun _ => 0))), (q59, .inl (c2, 34320, .inl (fun _ => 0))), (q60, .inl (c31, 1040, .inl (fun _ => 0))), (q61, .inl (c31, 1040, .inl (fun _ => 0))), (q62, .inl (c2, 2080, .inl (fun _ => 0))), (q63, .inl (c2, 2081, .inl (fun _ => 0))), (q64, .inl (c31, 1040, .inl (fun _ => 0))), (q65, .inl (c2, 1040, .inl (fun _ => 0))), (q66, .inl (c2, 1041, .inl (fun _ => 0))), (q67, .inl (c15, 1, .inr (.inl (fun _ => 0))))] H) : va_P D vwCl (gv_w (gc_cA c2 c13 c31 c15) (gc_ad b [q1, q2, q3, q4, q5, q6, q7, q8, q9, q10, q11, q12, q13, q14, q15, q16, q17, q18, q19, q20, q21, q22, q23, q24, q25, q26, q27, q28, q29, q30, q31, q32, q33, q34, q35, q36, q37, q38, q39, q40, q41, q42, q43, q44, q45, q46, q47, q48, q49, q50, q51, q52, q53, q54, q55, q56, q57, q58, q59, q60, q61, q62, q63, q64, q65, q66, q67]) (gv_s0 X)) H := by
  refine gc_Pall ?_
  have h0 : ∀ k, k < 0 → gc_at D H (gc_cA c2 c13 c31 c15) (gc_ad b [q1, q2, q3, q4, q5, q6, q7, q8, q9, q10, q11, q12, q13, q14, q15, q16, q17, q18, q19, q20, q21, q22, q23, q24, q25, q26, q27, q28, q29, q30, q31, q32, q33, q34, q35, q36, q37, q38, q39, q40, q41, q42, q43, q44, q45, q46, q47, q48, q49, q50, q51, q52, q53, q54, q55, q56, q57, q58, q59, q60, q61, q62, q63, q64, q65, q66, q67]) (gv_s0 X) k := fun k hk => absurd hk (Nat.not_lt_zero k)
  have h1 := gc_up h0 (by unfold gc_at; rw [gc_o0]; exact hP 0 _ rfl)
  have h2 := gc_up h1 (hP 1 _ rfl)
  have h3 := gc_up h2 (by unfold gc_at; rw [gc_o2]; exact hP 2 _ rfl)
  have h4 := gc_up h3 (hP 3 _ rfl)
  have h5 := gc_up h4 (hP 4 _ rfl)
  have h6 := gc_up h5 (hP 5 _ rfl)
  have h7 := gc_up h6 (hP 6 _ rfl)
  have h8 := gc_up h7 (hP 7 _ rfl)
  have h9 := gc_up h8 (hP 8 _ rfl)
  have h10 := gc_up h9 (hP 9 _ rfl)
  have h11 := gc_up h10 (by unfold gc_at; rw [gc_o10]; exact hP 10 _ rfl)
  have h12 := gc_up h11 (hP 11 _ rfl)
  have h13 := gc_up h12 (hP 12 _ rfl)
  have h14 := gc_up h13 (by unfold gc_at; rw [gc_o13]; exact hP 13 _ rfl)
  have h15 := gc_up h14 (hP 14 _ rfl)
  have h16 := gc_up h15 (by unfold gc_at; rw [gc_o15]; exact hP 15 _ rfl)
  have h17 := gc_up h16 (hP 16 _ rfl)
  have h18 := gc_up h17 (hP 17 _ rfl)
  have h19 := gc_up h18 (hP 18 _ rfl)
  have h20 := gc_up h19 (hP 19 _ rfl)
  have h21 := gc_up h20 (hP 20 _ rfl)
  have h22 := gc_up h21 (by unfold gc_at; rw [gc_o21]; exact hP 21 _ rfl)
  have h23 := gc_up h22 (hP 22 _ rfl)
  have h24 := gc_up h23 (hP 23 _ rfl)
  have h25 := gc_up h24 (hP 24 _ rfl)
  have h26 := gc_up h25 (hP 25 _ rfl)
  have h27 := gc_up h26 (by unfold gc_at; rw [gc_o26]; exact hP 26 _ rfl)
  have h28 := gc_up h27 (hP 27 _ rfl)
  have h29 := gc_up h28 (hP 28 _ rfl)
  have h30 := gc_up h29 (hP 29 _ rfl)
  have h31 := gc_up h30 (hP 30 _ rfl)
  have h32 := gc_up h31 (hP 31 _ rfl)
  have h33 := gc_up h32 (hP 32 _ rfl)
  have h34 := gc_up h33 (by unfold gc_at; rw [gc_o33]; exact hP 33 _ rfl)
  have h35 := gc_up h34 (hP 34 _ rfl)
  have h36 := gc_up h35 (hP 35 _ rfl)
  have h37 := gc_up h36 (hP 36 _ rfl)
  have h38 := gc_up h37 (hP 37 _ rfl)
  have h39 := gc_up h38 (by unfold gc_at; rw [gc_o38]; exact hP 38 _ rfl)
  have h40 := gc_up h39 (hP 39 _ rfl)
  have h41 := gc_up h40 (hP 40 _ rfl)
  have h42 := gc_up h41 (by unfold gc_at; rw [gc_o41]; exact hP 41 _ rfl)
  have h43 := gc_up h42 (hP 42 _ rfl)
  have h44 := gc_up h43 (hP 43 _ rfl)
  have h45 := gc_up h44 (hP 44 _ rfl)
  have h46 := gc_up h45 (hP 45 _ rfl)
  have h47 := gc_up h46 (hP 46 _ rfl)
  have h48 := gc_up h47 (hP 47 _ rfl)
  have h49 := gc_up h48 (hP 48 _ rfl)
  have h50 := gc_up h49 (hP 49 _ rfl)
  have h51 := gc_up h50 (hP 50 _ rfl)
  have h52 := gc_up h51 (hP 51 _ rfl)
  have h53 := gc_up h52 (hP 52 _ rfl)
  have h54 := gc_up h53 (hP 53 _ rfl)
  have h55 := gc_up h54 (hP 54 _ rfl)
  have h56 := gc_up h55 (hP 55 _ rfl)
  have h57 := gc_up h56 (hP 56 _ rfl)
  have h58 := gc_up h57 (hP 57 _ rfl)
  have h59 := gc_up h58 (hP 58 _ rfl)
  have h60 := gc_up h59 (hP 59 _ rfl)
  have h61 := gc_up h60 (hP 60 _ rfl)
  have h62 := gc_up h61 (hP 61 _ rfl)
  have h63 := gc_up h62 (hP 62 _ rfl)
  have h64 := gc_up h63 (hP 63 _ rfl)
  have h65 := gc_up h64 (hP 64 _ rfl)
  have h66 := gc_up h65 (hP 65 _ rfl)
  have h67 := gc_up h66 (hP 66 _ rfl)
  exact h67
