theorem rel_0 (X : List Int32) : rel X (gv_s0 X) := ⟨rfl, 0, ⟨by omega, rfl, rfl, fun i hi => absurd hi (Nat.not_lt_zero i)⟩, ⟨rfl, ⟨rfl, Or.inl rfl⟩, ⟨rfl, Or.inl rfl, fun _ i hi => absurd hi (Nat.not_lt_zero i)⟩, rfl⟩, Or.inl (by omega), fun y => absurd (show (0 : Int32) = 1 from y) (by decide)⟩
theorem law_ok (X : List Int32) (a b : Int32) (σ : gS) (h : rel X σ) (d : Nat) : lc_ok d X a b σ (rel X) := by
  match d with
  | 0 => exact ok_word X a σ h
  | 1 => exact ok_again X a b σ h
  | 2 => exact ok_clear X σ h
  | 3 => exact ok_wordAt X a σ h
  | 4 => exact ok_load X σ h
  | 5 => exact ok_faultAt X σ h
  | 6 => exact ok_decoded X a b σ h
  | 7 => exact ok_set X a b σ h
  | 8 => exact ok_register X a σ h
  | 9 => exact ok_poke X a b σ h
  | 10 => exact ok_peek X a σ h
  | 11 => exact ok_run X a σ h
  | 12 => exact ok_order X a σ h
  | 13 => exact ok_window X a σ h
  | 14 => exact ok_state X a σ h
  | 15 => exact ok_leak X a σ h
  | 16 => exact ok_forget X σ h
  | 17 => exact ok_check X σ h
  | 18 => exact ok_reaches X a b σ h
  | 19 => exact ok_mark X a σ h
  | 20 => exact ok_cut X σ h
  | 21 => exact ok_rewrite X σ h
  | 22 => exact ok_home X a σ h
  | _ + 23 => exact h
theorem law_all (X : List Int32) (hX : X.length ≤ 1536) : gv_V m_L_law 600 false 23 [some (.ref 900), some (.ref 0), some (.ref 41), some (.ref 66), some (.int 0), none, none] [] (gv_s0 X) (fun o _ => o = .inl (some (.int 1))) :=
  lc_loop X hX (fun _ σ => rel X σ) (fun _ _ h => h.1) (fun i σ h _ d _ => law_ok X _ _ σ h d) 512 0 87 (gv_s0 X) (by omega) (Nat.zero_le _) (rel_0 X)
