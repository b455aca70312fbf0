theorem gc_inj {A : Nat → Prop} {WS : va_W} {QL : List Nat} (h : WS.map Prod.fst = QL) (hD : va_D A WS) : (∀ i j, i < QL.length → j < QL.length → QL.getD i 0 = QL.getD j 0 → i = j) ∧ ∀ i, i < QL.length → A (QL.getD i 0) := by
  have key : ∀ i, i < QL.length → ∃ e, WS[i]? = some (QL.getD i 0, e) := by
    intro i hi
    have hl : i < WS.length := by rw [← h, List.length_map] at hi; exact hi
    refine ⟨WS[i].2, ?_⟩
    have e1 : QL.getD i 0 = WS[i].1 := by
      subst h
      simp [List.getD, hl]
    rw [e1, List.getElem?_eq_getElem hl]
  refine ⟨fun i j hi hj e => ?_, fun i hi => ?_⟩
  · obtain ⟨x, hx⟩ := key i hi
    obtain ⟨y, hy⟩ := key j hj
    exact hD.1 i j _ _ hx hy e
  · obtain ⟨x, hx⟩ := key i hi
    exact hD.2 i _ hx
theorem gc_adn {b : Nat} {QL : List Nat} {i : Nat} (h : i < 67) : gc_ad b QL i = QL.getD i 0 := if_neg (by omega)
theorem gc_known {s : State} {args : Array Value} (hts : ∀ w ∈ gv_ws, w.before args s = true) : ∃ (dC : Nat → ClassId) (dI : Nat → Nat → Nat), va_K (dC, dI) vwCl [] s := by
  obtain ⟨c0, i0, h0⟩ := u_known (C := "GuessFences") (T := gf_T0) (N := 12) hts lays_0 (hts (.instantiable "GuessFences" 12) (gv_i1 33 rfl rfl))
  obtain ⟨c1, i1, h1⟩ := u_known (C := "GuessFences$Listing") (T := gf_T1) (N := 8) hts lays_1 (hts (.instantiable "GuessFences$Listing" 8) (gv_i1 41 rfl rfl))
  obtain ⟨c2, i2, h2⟩ := u_known (C := "GuessFences$Machine") (T := gf_T2) (N := 7) hts lays_2 (hts (.instantiable "GuessFences$Machine" 7) (gv_i1 93 rfl rfl))
  obtain ⟨c3, i3, h3⟩ := u_known (C := "GuessFences$Leaks") (T := gf_T3) (N := 2) hts lays_3 (hts (.instantiable "GuessFences$Leaks" 2) (gv_i1 99 rfl rfl))
  obtain ⟨c4, i4, h4⟩ := u_known (C := "GuessFences$Guesses") (T := gf_T4) (N := 8) hts lays_4 (hts (.instantiable "GuessFences$Guesses" 8) (gv_i1 115 rfl rfl))
  obtain ⟨c5, i5, h5⟩ := u_known (C := "GuessFences$Reach") (T := gf_T5) (N := 6) hts lays_5 (hts (.instantiable "GuessFences$Reach" 6) (gv_i1 173 rfl rfl))
  obtain ⟨c6, i6, h6⟩ := u_known (C := "GuessFences$Taint") (T := gf_T6) (N := 11) hts lays_6 (hts (.instantiable "GuessFences$Taint" 11) (gv_i1 198 rfl rfl))
  obtain ⟨c7, i7, h7⟩ := u_known (C := "GuessFences$Cut") (T := gf_T7) (N := 9) hts lays_7 (hts (.instantiable "GuessFences$Cut" 9) (gv_i2 7 rfl rfl))
  obtain ⟨c8, i8, h8⟩ := u_known (C := "GuessFences$Rewriter") (T := gf_T8) (N := 4) hts lays_8 (hts (.instantiable "GuessFences$Rewriter" 4) (gv_i2 42 rfl rfl))
  obtain ⟨c9, i9, h9⟩ := u_known (C := "GuessFencesModel") (T := gf_T9) (N := 38) hts lays_9 (hts (.instantiable "GuessFencesModel" 38) (gv_i6 116 rfl rfl))
  refine ⟨fun k => match k with | 0 => c0 | 1 => c1 | 2 => c2 | 3 => c3 | 4 => c4 | 5 => c5 | 6 => c6 | 7 => c7 | 8 => c8 | _ => c9, fun k => match k with | 0 => i0 | 1 => i1 | 2 => i2 | 3 => i3 | 4 => i4 | 5 => i5 | 6 => i6 | 7 => i7 | 8 => i8 | _ => i9, fun k q hk => ?_, fun k q hk => by simp at hk⟩
  match k, hk with
  | 0, hk => cases hk; exact h0
  | 1, hk => cases hk; exact h1
  | 2, hk => cases hk; exact h2
  | 3, hk => cases hk; exact h3
  | 4, hk => cases hk; exact h4
  | 5, hk => cases hk; exact h5
  | 6, hk => cases hk; exact h6
  | 7, hk => cases hk; exact h7
  | 8, hk => cases hk; exact h8
  | 9, hk => cases hk; exact h9
  | k + 10, hk => exact absurd (List.getElem?_eq_some_iff.mp hk).1 (by simp)
set_option maxHeartbeats 8000000 in
set_option maxRecDepth 100000 in
theorem gv_bridge {p : Program} {e : Env} {s : State} {m : MethodId} {below : List Frame} {meth : Method} {c : Code} (l : Launch) (hl0 : l.stackTraces = false) {b L : Nat} {xs : Nat → Int32} (C0 : lw_At p s m meth c b L xs) (htab : (c.exceptionTable.toList.map fun h => (h.startPc, h.endPc, h.handlerPc, h.catchType)) = [])
    (hV : gv_V m_L_law 600 false 23 [some (.ref 900), some (.ref 0), some (.ref 41), some (.ref 66), some (.int 0), none, none] [] (gv_s0 ((List.range L).map xs)) (fun o _ => o = .inl (some (.int 1)))) : W p l e room_1 s m #[Value.ref b] below meth c s.heap [] 0 0 (lw_Z below #[Value.ref b] s) (entryFrame m ([Value.ref b] : List Value).toArray 7) := by
  have hT := gc_Tc C0.2.2.2.2.2.1 C0.2.2.2.2.2.2.2.2.2
  obtain ⟨dC, dI, hK0⟩ := gc_known (gc_hts hT #[Value.ref b])
  refine gv_start l hl0 C0 dC dI hK0 (fun H locs ls q1 q2 q3 q4 q5 q6 q7 q8 q9 q10 q11 q12 q13 q14 q15 q16 q17 q18 q19 q20 q21 q22 q23 q24 q25 q26 q27 q28 q29 q30 q31 q32 q33 q34 q35 q36 q37 q38 q39 q40 q41 q42 q43 q44 q45 q46 q47 q48 q49 q50 q51 q52 q53 q54 q55 q56 q57 q58 q59 q60 q61 q62 q63 q64 q65 q66 q67 c2 c4 c5 c6 c7 c8 c9 c10 c12 c13 c15 c17 c18 c19 c20 c21 c23 c24 c25 c26 c28 c29 c30 c31 c32 c33 c35 c36 c37 c38 c40 c41 c43 c44 c45 c46 c47 c48 c49 c50 c51 c52 c53 c54 c55 c56 c57 c58 c59 c60 c61 c62 c63 c64 c65 c66 c67 hP hD hK hS hl => ?_)
  obtain ⟨hx, hb, hr, hml, hown, hts0, hX, hbl, hlocks, hgv⟩ := C0
  have e_c4 : c4 = c2 := gc_same hK (i := 0) (j := 1) rfl rfl (by simp)
  have e_c5 : c5 = c2 := gc_same hK (i := 0) (j := 2) rfl rfl (by simp)
  have e_c6 : c6 = c2 := gc_same hK (i := 0) (j := 3) rfl rfl (by simp)
  have e_c7 : c7 = c2 := gc_same hK (i := 0) (j := 4) rfl rfl (by simp)
  have e_c8 : c8 = c2 := gc_same hK (i := 0) (j := 5) rfl rfl (by simp)
  have e_c9 : c9 = c2 := gc_same hK (i := 0) (j := 6) rfl rfl (by simp)
  have e_c10 : c10 = c2 := gc_same hK (i := 0) (j := 7) rfl rfl (by simp)
  have e_c12 : c12 = c2 := gc_same hK (i := 0) (j := 8) rfl rfl (by simp)
  have e_c17 : c17 = c2 := gc_same hK (i := 0) (j := 11) rfl rfl (by simp)
  have e_c18 : c18 = c13 := gc_same hK (i := 9) (j := 12) rfl rfl (by simp)
  have e_c19 : c19 = c2 := gc_same hK (i := 0) (j := 13) rfl rfl (by simp)
  have e_c20 : c20 = c2 := gc_same hK (i := 0) (j := 14) rfl rfl (by simp)
  have e_c21 : c21 = c2 := gc_same hK (i := 0) (j := 15) rfl rfl (by simp)
  have e_c23 : c23 = c15 := gc_same hK (i := 10) (j := 16) rfl rfl (by simp)
  have e_c24 : c24 = c2 := gc_same hK (i := 0) (j := 17) rfl rfl (by simp)
  have e_c25 : c25 = c2 := gc_same hK (i := 0) (j := 18) rfl rfl (by simp)
  have e_c26 : c26 = c2 := gc_same hK (i := 0) (j := 19) rfl rfl (by simp)
  have e_c28 : c28 = c2 := gc_same hK (i := 0) (j := 20) rfl rfl (by simp)
  have e_c29 : c29 = c2 := gc_same hK (i := 0) (j := 21) rfl rfl (by simp)
  have e_c30 : c30 = c2 := gc_same hK (i := 0) (j := 22) rfl rfl (by simp)
  have e_c32 : c32 = c15 := gc_same hK (i := 10) (j := 24) rfl rfl (by simp)
  have e_c33 : c33 = c15 := gc_same hK (i := 10) (j := 25) rfl rfl (by simp)
  have e_c35 : c35 = c2 := gc_same hK (i := 0) (j := 26) rfl rfl (by simp)
  have e_c36 : c36 = c2 := gc_same hK (i := 0) (j := 27) rfl rfl (by simp)
  have e_c37 : c37 = c2 := gc_same hK (i := 0) (j := 28) rfl rfl (by simp)
  have e_c38 : c38 = c15 := gc_same hK (i := 10) (j := 29) rfl rfl (by simp)
  have e_c40 : c40 = c2 := gc_same hK (i := 0) (j := 30) rfl rfl (by simp)
  have e_c41 : c41 = c2 := gc_same hK (i := 0) (j := 31) rfl rfl (by simp)
  have e_c43 : c43 = c2 := gc_same hK (i := 0) (j := 32) rfl rfl (by simp)
  have e_c44 : c44 = c2 := gc_same hK (i := 0) (j := 33) rfl rfl (by simp)
  have e_c45 : c45 = c2 := gc_same hK (i := 0) (j := 34) rfl rfl (by simp)
  have e_c46 : c46 = c2 := gc_same hK (i := 0) (j := 35) rfl rfl (by simp)
  have e_c47 : c47 = c15 := gc_same hK (i := 10) (j := 36) rfl rfl (by simp)
  have e_c48 : c48 = c2 := gc_same hK (i := 0) (j := 37) rfl rfl (by simp)
  have e_c49 : c49 = c2 := gc_same hK (i := 0) (j := 38) rfl rfl (by simp)
  have e_c50 : c50 = c2 := gc_same hK (i := 0) (j := 39) rfl rfl (by simp)
  have e_c51 : c51 = c2 := gc_same hK (i := 0) (j := 40) rfl rfl (by simp)
  have e_c52 : c52 = c2 := gc_same hK (i := 0) (j := 41) rfl rfl (by simp)
  have e_c53 : c53 = c31 := gc_same hK (i := 23) (j := 42) rfl rfl (by simp)
  have e_c54 : c54 = c31 := gc_same hK (i := 23) (j := 43) rfl rfl (by simp)
  have e_c55 : c55 = c31 := gc_same hK (i := 23) (j := 44) rfl rfl (by simp)
  have e_c56 : c56 = c31 := gc_same hK (i := 23) (j := 45) rfl rfl (by simp)
  have e_c57 : c57 = c31 := gc_same hK (i := 23) (j := 46) rfl rfl (by simp)
  have e_c58 : c58 = c2 := gc_same hK (i := 0) (j := 47) rfl rfl (by simp)
  have e_c59 : c59 = c2 := gc_same hK (i := 0) (j := 48) rfl rfl (by simp)
  have e_c60 : c60 = c31 := gc_same hK (i := 23) (j := 49) rfl rfl (by simp)
  have e_c61 : c61 = c31 := gc_same hK (i := 23) (j := 50) rfl rfl (by simp)
  have e_c62 : c62 = c2 := gc_same hK (i := 0) (j := 51) rfl rfl (by simp)
  have e_c63 : c63 = c2 := gc_same hK (i := 0) (j := 52) rfl rfl (by simp)
  have e_c64 : c64 = c31 := gc_same hK (i := 23) (j := 53) rfl rfl (by simp)
  have e_c65 : c65 = c2 := gc_same hK (i := 0) (j := 54) rfl rfl (by simp)
  have e_c66 : c66 = c2 := gc_same hK (i := 0) (j := 55) rfl rfl (by simp)
  have e_c67 : c67 = c15 := gc_same hK (i := 10) (j := 56) rfl rfl (by simp)
  have hinj := gc_inj (QL := [q1, q2, q3, q4, q5, q6, q7, q8, q9, q10, q11, q12, q13, q14, q15, q16, q17, q18, q19, q20, q21, q22, q23, q24, q25, q26, q27, q28, q29, q30, q31, q32, q33, q34, q35, q36, q37, q38, q39, q40, q41, q42, q43, q44, q45, q46, q47, q48, q49, q50, q51, q52, q53, q54, q55, q56, q57, q58, q59, q60, q61, q62, q63, q64, q65, q66, q67]) rfl hD
  obtain ⟨QL, hQL⟩ : ∃ QL : List Nat, QL = [q1, q2, q3, q4, q5, q6, q7, q8, q9, q10, q11, q12, q13, q14, q15, q16, q17, q18, q19, q20, q21, q22, q23, q24, q25, q26, q27, q28, q29, q30, q31, q32, q33, q34, q35, q36, q37, q38, q39, q40, q41, q42, q43, q44, q45, q46, q47, q48, q49, q50, q51, q52, q53, q54, q55, q56, q57, q58, q59, q60, q61, q62, q63, q64, q65, q66, q67] := ⟨_, rfl⟩
  have hP2 : va_P (dC, dI) vwCl (gv_w (gc_cA c2 c13 c31 c15) (gc_ad b QL) (gv_s0 ((List.range L).map xs))) H := by
    have key : ∀ k, k < 67 → va_at (dC, dI) vwCl (gc_ad b QL k, gv_e (gc_cA c2 c13 c31 c15) (gc_ad b QL) (gv_s0 ((List.range L).map xs)) k (gv_sh.getD k (.inl (.int, 0)))) H := by
      rw [hQL]
      intro k hk
      match k, hk with
      | 0, _ => exact hP 0 _ rfl
      | 1, _ => exact hP 1 _ rfl
      | 2, _ => exact hP 2 _ rfl
      | 3, _ => have h9 := hP 3 _ rfl; rw [e_c4] at h9; exact h9
      | 4, _ => have h9 := hP 4 _ rfl; rw [e_c5] at h9; exact h9
      | 5, _ => have h9 := hP 5 _ rfl; rw [e_c6] at h9; exact h9
      | 6, _ => have h9 := hP 6 _ rfl; rw [e_c7] at h9; exact h9
      | 7, _ => have h9 := hP 7 _ rfl; rw [e_c8] at h9; exact h9
      | 8, _ => have h9 := hP 8 _ rfl; rw [e_c9] at h9; exact h9
      | 9, _ => have h9 := hP 9 _ rfl; rw [e_c10] at h9; exact h9
      | 10, _ => exact hP 10 _ rfl
      | 11, _ => have h9 := hP 11 _ rfl; rw [e_c12] at h9; exact h9
      | 12, _ => exact hP 12 _ rfl
      | 13, _ => exact hP 13 _ rfl
      | 14, _ => exact hP 14 _ rfl
      | 15, _ => exact hP 15 _ rfl
      | 16, _ => have h9 := hP 16 _ rfl; rw [e_c17] at h9; exact h9
      | 17, _ => have h9 := hP 17 _ rfl; rw [e_c18] at h9; exact h9
      | 18, _ => have h9 := hP 18 _ rfl; rw [e_c19] at h9; exact h9
      | 19, _ => have h9 := hP 19 _ rfl; rw [e_c20] at h9; exact h9
      | 20, _ => have h9 := hP 20 _ rfl; rw [e_c21] at h9; exact h9
      | 21, _ => exact hP 21 _ rfl
      | 22, _ => have h9 := hP 22 _ rfl; rw [e_c23] at h9; exact h9
      | 23, _ => have h9 := hP 23 _ rfl; rw [e_c24] at h9; exact h9
      | 24, _ => have h9 := hP 24 _ rfl; rw [e_c25] at h9; exact h9
      | 25, _ => have h9 := hP 25 _ rfl; rw [e_c26] at h9; exact h9
      | 26, _ => exact hP 26 _ rfl
      | 27, _ => have h9 := hP 27 _ rfl; rw [e_c28] at h9; exact h9
      | 28, _ => have h9 := hP 28 _ rfl; rw [e_c29] at h9; exact h9
      | 29, _ => have h9 := hP 29 _ rfl; rw [e_c30] at h9; exact h9
      | 30, _ => exact hP 30 _ rfl
      | 31, _ => have h9 := hP 31 _ rfl; rw [e_c32] at h9; exact h9
      | 32, _ => have h9 := hP 32 _ rfl; rw [e_c33] at h9; exact h9
      | 33, _ => exact hP 33 _ rfl
      | 34, _ => have h9 := hP 34 _ rfl; rw [e_c35] at h9; exact h9
      | 35, _ => have h9 := hP 35 _ rfl; rw [e_c36] at h9; exact h9
      | 36, _ => have h9 := hP 36 _ rfl; rw [e_c37] at h9; exact h9
      | 37, _ => have h9 := hP 37 _ rfl; rw [e_c38] at h9; exact h9
      | 38, _ => exact hP 38 _ rfl
      | 39, _ => have h9 := hP 39 _ rfl; rw [e_c40] at h9; exact h9
      | 40, _ => have h9 := hP 40 _ rfl; rw [e_c41] at h9; exact h9
      | 41, _ => exact hP 41 _ rfl
      | 42, _ => have h9 := hP 42 _ rfl; rw [e_c43] at h9; exact h9
      | 43, _ => have h9 := hP 43 _ rfl; rw [e_c44] at h9; exact h9
      | 44, _ => have h9 := hP 44 _ rfl; rw [e_c45] at h9; exact h9
      | 45, _ => have h9 := hP 45 _ rfl; rw [e_c46] at h9; exact h9
      | 46, _ => have h9 := hP 46 _ rfl; rw [e_c47] at h9; exact h9
      | 47, _ => have h9 := hP 47 _ rfl; rw [e_c48] at h9; exact h9
      | 48, _ => have h9 := hP 48 _ rfl; rw [e_c49] at h9; exact h9
      | 49, _ => have h9 := hP 49 _ rfl; rw [e_c50] at h9; exact h9
      | 50, _ => have h9 := hP 50 _ rfl; rw [e_c51] at h9; exact h9
      | 51, _ => have h9 := hP 51 _ rfl; rw [e_c52] at h9; exact h9
      | 52, _ => have h9 := hP 52 _ rfl; rw [e_c53] at h9; exact h9
      | 53, _ => have h9 := hP 53 _ rfl; rw [e_c54] at h9; exact h9
      | 54, _ => have h9 := hP 54 _ rfl; rw [e_c55] at h9; exact h9
      | 55, _ => have h9 := hP 55 _ rfl; rw [e_c56] at h9; exact h9
      | 56, _ => have h9 := hP 56 _ rfl; rw [e_c57] at h9; exact h9
      | 57, _ => have h9 := hP 57 _ rfl; rw [e_c58] at h9; exact h9
      | 58, _ => have h9 := hP 58 _ rfl; rw [e_c59] at h9; exact h9
      | 59, _ => have h9 := hP 59 _ rfl; rw [e_c60] at h9; exact h9
      | 60, _ => have h9 := hP 60 _ rfl; rw [e_c61] at h9; exact h9
      | 61, _ => have h9 := hP 61 _ rfl; rw [e_c62] at h9; exact h9
      | 62, _ => have h9 := hP 62 _ rfl; rw [e_c63] at h9; exact h9
      | 63, _ => have h9 := hP 63 _ rfl; rw [e_c64] at h9; exact h9
      | 64, _ => have h9 := hP 64 _ rfl; rw [e_c65] at h9; exact h9
      | 65, _ => have h9 := hP 65 _ rfl; rw [e_c66] at h9; exact h9
      | 66, _ => have h9 := hP 66 _ rfl; rw [e_c67] at h9; exact h9
      | k + 67, h => exact absurd h (by omega)
    intro k q hk
    have hl9 : k < 67 := by
      have := (List.getElem?_eq_some_iff.mp hk).1
      rw [gv_wlen, gv_shl] at this
      exact this
    have hsh : gv_sh[k]? = some (gv_sh.getD k (.inl (.int, 0))) := by
      rw [List.getD_eq_getElem?_getD, List.getElem?_eq_getElem (by rw [gv_shl]; exact hl9)]; rfl
    rw [gv_wget _ hsh] at hk
    cases hk
    exact key k hl9
  have hlenq : QL.length = 67 := by rw [hQL]; rfl
  have hinj1 : ∀ i j, i < gv_sh.length → j < gv_sh.length → gc_ad b QL i = gc_ad b QL j → i = j := by
    intro i j hi hj he
    rw [gv_shl] at hi hj
    rw [gc_adn hi, gc_adn hj] at he
    rw [← hQL] at hinj
    exact hinj.1 i j (by rw [hlenq]; exact hi) (by rw [hlenq]; exact hj) he
  have hnew : ∀ i, i < gv_sh.length → s.heap.size ≤ gc_ad b QL i := by
    intro i hi
    rw [gv_shl] at hi
    rw [gc_adn hi]
    rw [← hQL] at hinj
    exact hinj.2 i (by rw [hlenq]; exact hi)
  have hscr : gc_ad b QL gv_scr = b := rfl
  have hnA : ∀ a : Nat, a < s.heap.size → ¬ gv_A (gc_ad b QL) s a := by
    intro a ha z
    rcases z with ⟨i, hi, rfl⟩ | z
    · exact absurd (hnew i hi) (by omega)
    · omega
  have hq := flat_of_before _ hgv
  have hZ1 : gv_Zs "java/lang/Throwable" "UNASSIGNED_STACK" "[Ljava/lang/StackTraceElement;" (gv_A (gc_ad b QL) s) s s.heap := gv_Zs.of (hts0 (.laysStatic "java/lang/Throwable" "UNASSIGNED_STACK" "[Ljava/lang/StackTraceElement;") (List.mem_append_right _ (List.mem_append_right _ (List.mem_append_right _ (List.mem_append_left _ (List.mem_of_getElem? (i := 23) rfl)))))) (hq (.isRef (.static "java/lang/Throwable" "UNASSIGNED_STACK" "[Ljava/lang/StackTraceElement;")) (by decide +kernel)) hnA
  have hZ2 : gv_Zs "java/lang/Throwable" "SUPPRESSED_SENTINEL" "Ljava/util/List;" (gv_A (gc_ad b QL) s) s s.heap := gv_Zs.of (hts0 (.laysStatic "java/lang/Throwable" "SUPPRESSED_SENTINEL" "Ljava/util/List;") (List.mem_append_right _ (List.mem_append_right _ (List.mem_append_right _ (List.mem_append_left _ (List.mem_of_getElem? (i := 25) rfl)))))) (hq (.isRef (.static "java/lang/Throwable" "SUPPRESSED_SENTINEL" "Ljava/util/List;")) (by decide +kernel)) hnA
  have hC : gv_C m_L_law p l room_1 s m meth c (dC, dI) (gc_cA c2 c13 c31 c15) (gc_ad b QL) :=
    ⟨⟨hx, hb, hml, hown, hr, hlocks, htab, hl0, by decide, by decide⟩, hT.1, hK.sub (tys' := gv_ty (gc_cA c2 c13 c31 c15)) [0, 9, 23, 10] rfl, hinj1, ⟨fun i hi z => by
      have := hnew i hi
      rw [hscr] at z
      omega, by rw [hscr]; exact hbl⟩, hZ1, hZ2⟩
  have hE : gv_Ex m_L_law p l e room_1 s m #[Value.ref b] below meth c (dC, dI) (gc_cA c2 c13 c31 c15) (gc_ad b QL) (lw_Z below #[Value.ref b] s) (fun o _ => o = .inl (some (.int 1))) := by
    refine ⟨?_, ?_⟩
    · intro v σ k H locs cells slots sl pc i hQ hri _ _ hc hs _ _ hS' hd
      cases hQ
      rcases hri with ⟨h, _⟩ | ⟨x, ty, h, _, _, rfl⟩ | ⟨x, h, _⟩
      · cases h
      · cases h
        refine va_forget (fun q hq => ?_) ?_
        · rcases hS'.2.2 q hq with ⟨i, hi, z⟩ | z
          · rw [z]; exact hnew i hi
          · exact z
        · refine W.widen (k := 601024) (n := 7293034) ?_ ?_ (lw_ret hx hb hr hlocks hd)
          · have : room_1.cells = 601024 := rfl
            omega
          · have : room_1.slots = 7293034 := rfl
            omega
      · cases h
    · intro n σ U a locs cells slots hQ
      cases hQ
  have hX2 : gv_X (gc_ad b QL) (gv_s0 ((List.range L).map xs)) s := by
    show va_X b ((List.range L).map xs).length (fun j => ((List.range L).map xs).getD j 0) s s.heap
    obtain ⟨scr, z1, z2, z3, z4, z5⟩ := hX
    refine ⟨scr, z1, z2, z3, by rw [z4]; simp, fun j hj => ?_⟩
    rw [List.length_map, List.length_range] at hj
    rw [z5 j hj]
    simp [hj]
  have hS2 : va_S (gv_A (gc_ad b QL) s) s.heap H locs := ⟨hS.1, fun q h1 h2 => hS.2.1 q h1 (fun z => h2 (Or.inr z)), fun q hq => Or.inr (hS.2.2 q hq)⟩
  refine hV p l e room_1 s m #[Value.ref b] below meth c (dC, dI) (gc_cA c2 c13 c31 c15) (gc_ad b QL) _ hC hE H locs 67 139984 ls (fun z => by cases z) (by decide) (by decide) hX2 hP2 hS2 ⟨hl.1, hl.2.1, fun q hq => ?_⟩
  subst hQL
  refine hl.2.2 q ?_
  have hq2 : q ∈ [(0, Value.ref b), (1, Value.ref q1), (2, Value.ref q42), (3, Value.ref q67), (4, Value.int 0)] := hq
  simp only [List.mem_cons, List.not_mem_nil, or_false] at hq2 ⊢
  tauto
