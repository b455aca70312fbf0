def gf_T0 : u_T := fun k => match k with
  | 0 => ("GuessFences", "words", "[I", true)
  | 1 => ("GuessFences", "listing", "LGuessFences$Listing;", true)
  | 2 => ("GuessFences", "machine", "LGuessFences$Machine;", true)
  | 3 => ("GuessFences", "reach", "LGuessFences$Reach;", true)
  | 4 => ("GuessFences", "taint", "LGuessFences$Taint;", true)
  | 5 => ("GuessFences", "smallestCut", "LGuessFences$Cut;", true)
  | 6 => ("GuessFences", "rewriter", "LGuessFences$Rewriter;", true)
  | 7 => ("GuessFences", "size", "I", false)
  | 8 => ("GuessFences", "faultPlace", "I", false)
  | 9 => ("GuessFences", "loaded", "Z", false)
  | 10 => ("GuessFences", "studied", "Z", false)
  | _ => ("GuessFences", "rewritten", "Z", false)
def gf_y0 : Nat → FieldType := fun k => match k with
  | 0 => .array .int
  | 1 => .object "GuessFences$Listing"
  | 2 => .object "GuessFences$Machine"
  | 3 => .object "GuessFences$Reach"
  | 4 => .object "GuessFences$Taint"
  | 5 => .object "GuessFences$Cut"
  | 6 => .object "GuessFences$Rewriter"
  | 7 => .int
  | 8 => .int
  | 9 => .boolean
  | 10 => .boolean
  | _ => .boolean
def gf_T1 : u_T := fun k => match k with
  | 0 => ("GuessFences$Listing", "kind", "[I", true)
  | 1 => ("GuessFences$Listing", "operation", "[I", true)
  | 2 => ("GuessFences$Listing", "result", "[I", true)
  | 3 => ("GuessFences$Listing", "first", "[I", true)
  | 4 => ("GuessFences$Listing", "second", "[I", true)
  | 5 => ("GuessFences$Listing", "number", "[I", true)
  | 6 => ("GuessFences$Listing", "target", "[I", true)
  | _ => ("GuessFences$Listing", "size", "I", false)
def gf_y1 : Nat → FieldType := fun k => match k with
  | 0 => .array .int
  | 1 => .array .int
  | 2 => .array .int
  | 3 => .array .int
  | 4 => .array .int
  | 5 => .array .int
  | 6 => .array .int
  | _ => .int
def gf_T2 : u_T := fun k => match k with
  | 0 => ("GuessFences$Machine", "listing", "LGuessFences$Listing;", true)
  | 1 => ("GuessFences$Machine", "registers", "[I", true)
  | 2 => ("GuessFences$Machine", "memory", "[B", true)
  | 3 => ("GuessFences$Machine", "leaks", "LGuessFences$Leaks;", true)
  | 4 => ("GuessFences$Machine", "guesses", "LGuessFences$Guesses;", true)
  | 5 => ("GuessFences$Machine", "place", "I", false)
  | _ => ("GuessFences$Machine", "window", "I", false)
def gf_y2 : Nat → FieldType := fun k => match k with
  | 0 => .object "GuessFences$Listing"
  | 1 => .array .int
  | 2 => .array .byte
  | 3 => .object "GuessFences$Leaks"
  | 4 => .object "GuessFences$Guesses"
  | 5 => .int
  | _ => .int
def gf_T3 : u_T := fun k => match k with
  | 0 => ("GuessFences$Leaks", "pairs", "[J", true)
  | _ => ("GuessFences$Leaks", "count", "I", false)
def gf_y3 : Nat → FieldType := fun k => match k with
  | 0 => .array .long
  | _ => .int
def gf_T4 : u_T := fun k => match k with
  | 0 => ("GuessFences$Guesses", "registers", "[I", true)
  | 1 => ("GuessFences$Guesses", "memory", "[B", true)
  | 2 => ("GuessFences$Guesses", "went", "[I", true)
  | 3 => ("GuessFences$Guesses", "ought", "[I", true)
  | 4 => ("GuessFences$Guesses", "stepsThen", "[I", true)
  | 5 => ("GuessFences$Guesses", "oldest", "I", false)
  | 6 => ("GuessFences$Guesses", "open", "I", false)
  | _ => ("GuessFences$Guesses", "steps", "I", false)
def gf_y4 : Nat → FieldType := fun k => match k with
  | 0 => .array .int
  | 1 => .array .byte
  | 2 => .array .int
  | 3 => .array .int
  | 4 => .array .int
  | 5 => .int
  | 6 => .int
  | _ => .int
def gf_T5 : u_T := fun k => match k with
  | 0 => ("GuessFences$Reach", "listing", "LGuessFences$Listing;", true)
  | 1 => ("GuessFences$Reach", "rows", "[J", true)
  | 2 => ("GuessFences$Reach", "traced", "[I", true)
  | 3 => ("GuessFences$Reach", "seenFor", "[I", true)
  | 4 => ("GuessFences$Reach", "queue", "[I", true)
  | _ => ("GuessFences$Reach", "tail", "I", false)
def gf_y5 : Nat → FieldType := fun k => match k with
  | 0 => .object "GuessFences$Listing"
  | 1 => .array .long
  | 2 => .array .int
  | 3 => .array .int
  | 4 => .array .int
  | _ => .int
def gf_T6 : u_T := fun k => match k with
  | 0 => ("GuessFences$Taint", "listing", "LGuessFences$Listing;", true)
  | 1 => ("GuessFences$Taint", "reach", "LGuessFences$Reach;", true)
  | 2 => ("GuessFences$Taint", "marks", "[I", true)
  | 3 => ("GuessFences$Taint", "guessed", "[I", true)
  | 4 => ("GuessFences$Taint", "results", "[I", true)
  | 5 => ("GuessFences$Taint", "givesAway", "[Z", true)
  | 6 => ("GuessFences$Taint", "clean", "[J", true)
  | 7 => ("GuessFences$Taint", "betrayers", "[J", true)
  | 8 => ("GuessFences$Taint", "guessedCount", "I", false)
  | 9 => ("GuessFences$Taint", "resultCount", "I", false)
  | _ => ("GuessFences$Taint", "exposed", "I", false)
def gf_y6 : Nat → FieldType := fun k => match k with
  | 0 => .object "GuessFences$Listing"
  | 1 => .object "GuessFences$Reach"
  | 2 => .array .int
  | 3 => .array .int
  | 4 => .array .int
  | 5 => .array .boolean
  | 6 => .array .long
  | 7 => .array .long
  | 8 => .int
  | 9 => .int
  | _ => .int
def gf_T7 : u_T := fun k => match k with
  | 0 => ("GuessFences$Cut", "listing", "LGuessFences$Listing;", true)
  | 1 => ("GuessFences$Cut", "reach", "LGuessFences$Reach;", true)
  | 2 => ("GuessFences$Cut", "taint", "LGuessFences$Taint;", true)
  | 3 => ("GuessFences$Cut", "pathBefore", "[I", true)
  | 4 => ("GuessFences$Cut", "cameFrom", "[I", true)
  | 5 => ("GuessFences$Cut", "queue", "[I", true)
  | 6 => ("GuessFences$Cut", "unseenEntrances", "[J", true)
  | 7 => ("GuessFences$Cut", "tail", "I", false)
  | _ => ("GuessFences$Cut", "results", "I", false)
def gf_y7 : Nat → FieldType := fun k => match k with
  | 0 => .object "GuessFences$Listing"
  | 1 => .object "GuessFences$Reach"
  | 2 => .object "GuessFences$Taint"
  | 3 => .array .int
  | 4 => .array .int
  | 5 => .array .int
  | 6 => .array .long
  | 7 => .int
  | _ => .int
def gf_T8 : u_T := fun k => match k with
  | 0 => ("GuessFences$Rewriter", "listing", "LGuessFences$Listing;", true)
  | 1 => ("GuessFences$Rewriter", "taint", "LGuessFences$Taint;", true)
  | 2 => ("GuessFences$Rewriter", "moved", "[I", true)
  | _ => ("GuessFences$Rewriter", "homes", "[I", true)
def gf_y8 : Nat → FieldType := fun k => match k with
  | 0 => .object "GuessFences$Listing"
  | 1 => .object "GuessFences$Taint"
  | 2 => .array .int
  | _ => .array .int
def gf_T9 : u_T := fun k => match k with
  | 0 => ("GuessFencesModel", "thrown", "I", false)
  | 1 => ("GuessFencesModel", "words", "[I", true)
  | 2 => ("GuessFencesModel", "size", "I", false)
  | 3 => ("GuessFencesModel", "homes", "[I", true)
  | 4 => ("GuessFencesModel", "hasHomes", "Z", false)
  | 5 => ("GuessFencesModel", "loaded", "Z", false)
  | 6 => ("GuessFencesModel", "faultPlace", "I", false)
  | 7 => ("GuessFencesModel", "place", "I", false)
  | 8 => ("GuessFencesModel", "registers", "[I", true)
  | 9 => ("GuessFencesModel", "memory", "[I", true)
  | 10 => ("GuessFencesModel", "leaks", "[J", true)
  | 11 => ("GuessFencesModel", "leaked", "I", false)
  | 12 => ("GuessFencesModel", "window", "I", false)
  | 13 => ("GuessFencesModel", "keptRegisters", "[I", true)
  | 14 => ("GuessFencesModel", "keptMemory", "[I", true)
  | 15 => ("GuessFencesModel", "keptPlaces", "[I", true)
  | 16 => ("GuessFencesModel", "keptWays", "[I", true)
  | 17 => ("GuessFencesModel", "keptSteps", "[I", true)
  | 18 => ("GuessFencesModel", "guesses", "I", false)
  | 19 => ("GuessFencesModel", "steps", "I", false)
  | 20 => ("GuessFencesModel", "known", "Z", false)
  | 21 => ("GuessFencesModel", "guessed", "[Z", true)
  | 22 => ("GuessFencesModel", "tainted", "[Z", true)
  | 23 => ("GuessFencesModel", "exposed", "[Z", true)
  | 24 => ("GuessFencesModel", "ends", "[Z", true)
  | 25 => ("GuessFencesModel", "inCut", "[Z", true)
  | 26 => ("GuessFencesModel", "cutSize", "I", false)
  | 27 => ("GuessFencesModel", "exposures", "I", false)
  | 28 => ("GuessFencesModel", "reach", "[I", true)
  | 29 => ("GuessFencesModel", "flow", "[I", true)
  | 30 => ("GuessFencesModel", "through", "[Z", true)
  | 31 => ("GuessFencesModel", "ended", "[Z", true)
  | 32 => ("GuessFencesModel", "from", "[I", true)
  | 33 => ("GuessFencesModel", "queue", "[I", true)
  | 34 => ("GuessFencesModel", "seen", "[Z", true)
  | 35 => ("GuessFencesModel", "fresh", "[I", true)
  | 36 => ("GuessFencesModel", "where", "[I", true)
  | _ => ("GuessFencesModel", "waiting", "I", false)
def gf_y9 : Nat → FieldType := fun k => match k with
  | 0 => .int
  | 1 => .array .int
  | 2 => .int
  | 3 => .array .int
  | 4 => .boolean
  | 5 => .boolean
  | 6 => .int
  | 7 => .int
  | 8 => .array .int
  | 9 => .array .int
  | 10 => .array .long
  | 11 => .int
  | 12 => .int
  | 13 => .array .int
  | 14 => .array .int
  | 15 => .array .int
  | 16 => .array .int
  | 17 => .array .int
  | 18 => .int
  | 19 => .int
  | 20 => .boolean
  | 21 => .array .boolean
  | 22 => .array .boolean
  | 23 => .array .boolean
  | 24 => .array .boolean
  | 25 => .array .boolean
  | 26 => .int
  | 27 => .int
  | 28 => .array .int
  | 29 => .array .int
  | 30 => .array .boolean
  | 31 => .array .boolean
  | 32 => .array .int
  | 33 => .array .int
  | 34 => .array .boolean
  | 35 => .array .int
  | 36 => .array .int
  | _ => .int
abbrev vwCl : List vw_C := [("GuessFences", gf_T0, 12), ("GuessFences$Listing", gf_T1, 8), ("GuessFences$Machine", gf_T2, 7), ("GuessFences$Leaks", gf_T3, 2), ("GuessFences$Guesses", gf_T4, 8), ("GuessFences$Reach", gf_T5, 6), ("GuessFences$Taint", gf_T6, 11), ("GuessFences$Cut", gf_T7, 9), ("GuessFences$Rewriter", gf_T8, 4), ("GuessFencesModel", gf_T9, 38)]
abbrev gD : Type := (FieldType × Nat) ⊕ (Nat × List (Option Nat))
def gv_sh : List gD := [
  .inr (0, [some 1, some 2, some 10, some 21, some 26, some 33, some 38, none, none, none, none, none]),
  .inl (.int, 1040),
  .inr (1, [some 3, some 4, some 5, some 6, some 7, some 8, some 9, none]),
  .inl (.int, 1040),
  .inl (.int, 1040),
  .inl (.int, 1040),
  .inl (.int, 1040),
  .inl (.int, 1040),
  .inl (.int, 1040),
  .inl (.int, 1040),
  .inr (2, [some 2, some 11, some 12, some 13, some 15, none, none]),
  .inl (.int, 32),
  .inl (.byte, 256),
  .inr (3, [some 14, none]),
  .inl (.long, 2048),
  .inr (4, [some 16, some 17, some 18, some 19, some 20, none, none, none]),
  .inl (.int, 512),
  .inl (.byte, 4096),
  .inl (.int, 16),
  .inl (.int, 16),
  .inl (.int, 16),
  .inr (5, [some 2, some 22, some 23, some 24, some 25, none]),
  .inl (.long, 17680),
  .inl (.int, 1040),
  .inl (.int, 1040),
  .inl (.int, 1040),
  .inr (6, [some 2, some 21, some 27, some 28, some 29, some 30, some 31, some 32, none, none, none]),
  .inl (.int, 1040),
  .inl (.int, 1040),
  .inl (.int, 1040),
  .inl (.boolean, 1040),
  .inl (.long, 17),
  .inl (.long, 17),
  .inr (7, [some 2, some 21, some 26, some 34, some 35, some 36, some 37, none, none]),
  .inl (.int, 1040),
  .inl (.int, 2080),
  .inl (.int, 2080),
  .inl (.long, 17),
  .inr (8, [some 2, some 26, some 39, some 40]),
  .inl (.int, 1041),
  .inl (.int, 1040),
  .inr (9, [none, some 42, none, some 43, none, none, none, none, some 44, some 45, some 46, none, none, some 47, some 48, some 49, some 50, some 51, none, none, none, some 52, some 53, some 54, some 55, some 56, none, none, some 57, some 58, some 59, some 60, some 61, some 62, some 63, some 64, some 65, none]),
  .inl (.int, 1040),
  .inl (.int, 1040),
  .inl (.int, 32),
  .inl (.int, 256),
  .inl (.long, 2048),
  .inl (.int, 512),
  .inl (.int, 4096),
  .inl (.int, 16),
  .inl (.int, 16),
  .inl (.int, 16),
  .inl (.boolean, 1040),
  .inl (.boolean, 1040),
  .inl (.boolean, 1040),
  .inl (.boolean, 1040),
  .inl (.boolean, 1040),
  .inl (.int, 34320),
  .inl (.int, 34320),
  .inl (.boolean, 1040),
  .inl (.boolean, 1040),
  .inl (.int, 2080),
  .inl (.int, 2081),
  .inl (.boolean, 1040),
  .inl (.int, 1040),
  .inl (.int, 1041),
  .inl (.long, 1)]
theorem gv_shl : gv_sh.length = 67 := rfl
def gv_scr : Nat := 900
def gv_en (n : Nat) : String := match n with
  | 1 => "java/lang/IllegalStateException"
  | 2 => "java/lang/IndexOutOfBoundsException"
  | _ => "java/lang/IllegalArgumentException"
def gv_good (w : Cond) : Bool := match w with
  | .fieldLinkNest .. => true
  | .methodLinkNest .. => true
  | .declares _ => true
  | .castable .. => true
  | w => w.onTables && w.keeps
def gv_nc : List Cond := [.not (.castable "java/lang/IllegalStateException" "java/lang/IndexOutOfBoundsException"), .not (.castable "java/lang/IllegalStateException" "java/lang/IllegalArgumentException"), .not (.castable "java/lang/IndexOutOfBoundsException" "java/lang/IllegalStateException"), .not (.castable "java/lang/IndexOutOfBoundsException" "java/lang/IllegalArgumentException"), .not (.castable "java/lang/IllegalArgumentException" "java/lang/IllegalStateException"), .not (.castable "java/lang/IllegalArgumentException" "java/lang/IndexOutOfBoundsException")]
def gv_ws : List Cond := gv_nc ++ lw_tbl.filter gv_good
theorem gv_in {w : Cond} (i : Nat) (h : tables_1[i]? = some w) (hg : gv_good w = true) : w ∈ gv_ws := List.mem_append_right _ (List.mem_filter.mpr ⟨List.mem_append_right _ (List.mem_of_getElem? h), hg⟩)
theorem gv_inp {w : Cond} (i : Nat) (h : (k2_sels lw_privs)[i]? = some w) (hg : gv_good w = true) : w ∈ gv_ws := List.mem_append_right _ (List.mem_filter.mpr ⟨List.mem_append_left _ (List.mem_of_getElem? h), hg⟩)
theorem gv_inn {w : Cond} (i : Nat) (h : gv_nc[i]? = some w) : w ∈ gv_ws := List.mem_append_left _ (List.mem_of_getElem? h)
theorem gv_i1 {w : Cond} (i : Nat) (h : tables_1_1[i]? = some w) (hg : gv_good w = true) : w ∈ gv_ws := List.mem_append_right _ (List.mem_filter.mpr ⟨List.mem_append_right _ (show w ∈ tables_1 from List.mem_append_left _ (List.mem_of_getElem? h)), hg⟩)
theorem gv_i2 {w : Cond} (i : Nat) (h : tables_1_2[i]? = some w) (hg : gv_good w = true) : w ∈ gv_ws := List.mem_append_right _ (List.mem_filter.mpr ⟨List.mem_append_right _ (show w ∈ tables_1 from List.mem_append_right _ (List.mem_append_left _ (List.mem_of_getElem? h))), hg⟩)
theorem gv_i3 {w : Cond} (i : Nat) (h : tables_1_3[i]? = some w) (hg : gv_good w = true) : w ∈ gv_ws := List.mem_append_right _ (List.mem_filter.mpr ⟨List.mem_append_right _ (show w ∈ tables_1 from List.mem_append_right _ (List.mem_append_right _ (List.mem_append_left _ (List.mem_of_getElem? h)))), hg⟩)
theorem gv_i4 {w : Cond} (i : Nat) (h : tables_1_4[i]? = some w) (hg : gv_good w = true) : w ∈ gv_ws := List.mem_append_right _ (List.mem_filter.mpr ⟨List.mem_append_right _ (show w ∈ tables_1 from List.mem_append_right _ (List.mem_append_right _ (List.mem_append_right _ (List.mem_append_left _ (List.mem_of_getElem? h))))), hg⟩)
theorem gv_i5 {w : Cond} (i : Nat) (h : tables_1_5[i]? = some w) (hg : gv_good w = true) : w ∈ gv_ws := List.mem_append_right _ (List.mem_filter.mpr ⟨List.mem_append_right _ (show w ∈ tables_1 from List.mem_append_right _ (List.mem_append_right _ (List.mem_append_right _ (List.mem_append_right _ (List.mem_append_left _ (List.mem_of_getElem? h)))))), hg⟩)
theorem gv_i6 {w : Cond} (i : Nat) (h : tables_1_6[i]? = some w) (hg : gv_good w = true) : w ∈ gv_ws := List.mem_append_right _ (List.mem_filter.mpr ⟨List.mem_append_right _ (show w ∈ tables_1 from List.mem_append_right _ (List.mem_append_right _ (List.mem_append_right _ (List.mem_append_right _ (List.mem_append_right _ (List.mem_append_left _ (List.mem_of_getElem? h))))))), hg⟩)
theorem gv_i7 {w : Cond} (i : Nat) (h : tables_1_7[i]? = some w) (hg : gv_good w = true) : w ∈ gv_ws := List.mem_append_right _ (List.mem_filter.mpr ⟨List.mem_append_right _ (show w ∈ tables_1 from List.mem_append_right _ (List.mem_append_right _ (List.mem_append_right _ (List.mem_append_right _ (List.mem_append_right _ (List.mem_append_right _ (List.mem_append_left _ (List.mem_of_getElem? h)))))))), hg⟩)
theorem gv_i8 {w : Cond} (i : Nat) (h : tables_1_8[i]? = some w) (hg : gv_good w = true) : w ∈ gv_ws := List.mem_append_right _ (List.mem_filter.mpr ⟨List.mem_append_right _ (show w ∈ tables_1 from List.mem_append_right _ (List.mem_append_right _ (List.mem_append_right _ (List.mem_append_right _ (List.mem_append_right _ (List.mem_append_right _ (List.mem_append_right _ (List.mem_of_getElem? h)))))))), hg⟩)
theorem gv_inl {ws : List Cond} (ks : List Nat) (h : ws = ks.filterMap (fun i => tables_1[i]?)) (hg : ws.all gv_good = true) : ∀ w ∈ ws, w ∈ gv_ws := by
  intro w hw
  have h1 := List.all_eq_true.mp hg w hw
  rw [h] at hw
  obtain ⟨i, -, hi⟩ := List.mem_filterMap.mp hw
  exact gv_in i hi h1
