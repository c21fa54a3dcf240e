/-! names, classes, layout, statics, methods: printed by wip/whole/gen_names.py -/
def gw_tbl : List Cond := lw_tbl.filter goodWord
theorem gw_in {w : Cond} (h : w ∈ lw_tbl) (g : goodWord w = true) : w ∈ gw_tbl := List.mem_filter.mpr ⟨h, g⟩
theorem gw_at {w : Cond} (i : Nat) (h : lw_tbl[i]? = some w) (g : goodWord w = true) : w ∈ gw_tbl := gw_in (List.mem_of_getElem? h) g
def R_BB : String := "SignDots$ByBar"
def T_BB : u_T := fun k => match k with
  | 0 => ("SignDots$ByBar", "value", "[I", true)
  | _ => ("SignDots$ByBar", "told", "[Z", true)
def t_BB : Nat → FieldType := fun k => match k with
  | 0 => .array .int
  | _ => .array .boolean
theorem nm_BB : ∀ a, a < 2 → ∀ b, b < 2 → a ≠ b → (T_BB a).2.1 ≠ (T_BB b).2.1 := by decide +kernel
theorem tk_BB : ∀ k, k < 2 → parseFieldDescriptor (T_BB k).2.2.1 = some (t_BB k) := by decide +kernel
theorem wi_BB : ∀ w ∈ u_ws R_BB T_BB 2, w ∈ gw_tbl := by
  have h : u_ws R_BB T_BB 2 = [135, 137].filterMap (fun i => lw_tbl[i]?) := by decide +kernel
  have g : (u_ws R_BB T_BB 2).all goodWord = true := by decide +kernel
  intro w hw; have hg := List.all_eq_true.mp g w hw; rw [h] at hw; obtain ⟨i, -, hi⟩ := List.mem_filterMap.mp hw; exact gw_in (List.mem_of_getElem? hi) hg
def R_CO : String := "SignDots$Columns"
def T_CO : u_T := fun k => match k with
  | 0 => ("SignDots$Columns", "notes", "LSignDots$Notes;", true)
  | 1 => ("SignDots$Columns", "signs", "LSignDots$Signs;", true)
  | 2 => ("SignDots$Columns", "fromTop", "[I", true)
  | 3 => ("SignDots$Columns", "zigzag", "[I", true)
  | 4 => ("SignDots$Columns", "column", "[I", true)
  | 5 => ("SignDots$Columns", "trial", "[I", true)
  | 6 => ("SignDots$Columns", "columnWidth", "[I", true)
  | 7 => ("SignDots$Columns", "size", "I", false)
  | 8 => ("SignDots$Columns", "leastSum", "I", false)
  | _ => ("SignDots$Columns", "laidOut", "I", false)
def t_CO : Nat → FieldType := fun k => match k with
  | 0 => .object "SignDots$Notes"
  | 1 => .object "SignDots$Signs"
  | 2 => .array .int
  | 3 => .array .int
  | 4 => .array .int
  | 5 => .array .int
  | 6 => .array .int
  | 7 => .int
  | 8 => .int
  | _ => .int
theorem nm_CO : ∀ a, a < 10 → ∀ b, b < 10 → a ≠ b → (T_CO a).2.1 ≠ (T_CO b).2.1 := by decide +kernel
theorem tk_CO : ∀ k, k < 10 → parseFieldDescriptor (T_CO k).2.2.1 = some (t_CO k) := by decide +kernel
theorem wi_CO : ∀ w ∈ u_ws R_CO T_CO 10, w ∈ gw_tbl := by
  have h : u_ws R_CO T_CO 10 = [223, 225, 227, 229, 231, 233, 235, 237, 239, 241].filterMap (fun i => lw_tbl[i]?) := by decide +kernel
  have g : (u_ws R_CO T_CO 10).all goodWord = true := by decide +kernel
  intro w hw; have hg := List.all_eq_true.mp g w hw; rw [h] at hw; obtain ⟨i, -, hi⟩ := List.mem_filterMap.mp hw; exact gw_in (List.mem_of_getElem? hi) hg
def R_DS : String := "SignDots$DotSpaces"
def T_DS : u_T := fun k => match k with
  | 0 => ("SignDots$DotSpaces", "notes", "LSignDots$Notes;", true)
  | 1 => ("SignDots$DotSpaces", "dottedAt", "[I", true)
  | 2 => ("SignDots$DotSpaces", "dotted", "[I", true)
  | 3 => ("SignDots$DotSpaces", "space", "[I", true)
  | 4 => ("SignDots$DotSpaces", "cost", "[I", true)
  | 5 => ("SignDots$DotSpaces", "size", "I", false)
  | 6 => ("SignDots$DotSpaces", "lowest", "I", false)
  | 7 => ("SignDots$DotSpaces", "spaces", "I", false)
  | _ => ("SignDots$DotSpaces", "laidOut", "I", false)
def t_DS : Nat → FieldType := fun k => match k with
  | 0 => .object "SignDots$Notes"
  | 1 => .array .int
  | 2 => .array .int
  | 3 => .array .int
  | 4 => .array .int
  | 5 => .int
  | 6 => .int
  | 7 => .int
  | _ => .int
theorem nm_DS : ∀ a, a < 9 → ∀ b, b < 9 → a ≠ b → (T_DS a).2.1 ≠ (T_DS b).2.1 := by decide +kernel
theorem tk_DS : ∀ k, k < 9 → parseFieldDescriptor (T_DS k).2.2.1 = some (t_DS k) := by decide +kernel
theorem wi_DS : ∀ w ∈ u_ws R_DS T_DS 9, w ∈ gw_tbl := by
  have h : u_ws R_DS T_DS 9 = [259, 261, 263, 265, 267, 269, 271, 273, 275].filterMap (fun i => lw_tbl[i]?) := by decide +kernel
  have g : (u_ws R_DS T_DS 9).all goodWord = true := by decide +kernel
  intro w hw; have hg := List.all_eq_true.mp g w hw; rw [h] at hw; obtain ⟨i, -, hi⟩ := List.mem_filterMap.mp hw; exact gw_in (List.mem_of_getElem? hi) hg
def R_KR : String := "SignDots$KeyRow"
def T_KR : u_T := fun k => match k with
  | 0 => ("SignDots$KeyRow", "letter", "[I", true)
  | 1 => ("SignDots$KeyRow", "alter", "[I", true)
  | 2 => ("SignDots$KeyRow", "place", "[I", true)
  | _ => ("SignDots$KeyRow", "size", "I", false)
def t_KR : Nat → FieldType := fun k => match k with
  | 0 => .array .int
  | 1 => .array .int
  | 2 => .array .int
  | _ => .int
theorem nm_KR : ∀ a, a < 4 → ∀ b, b < 4 → a ≠ b → (T_KR a).2.1 ≠ (T_KR b).2.1 := by decide +kernel
theorem tk_KR : ∀ k, k < 4 → parseFieldDescriptor (T_KR k).2.2.1 = some (t_KR k) := by decide +kernel
theorem wi_KR : ∀ w ∈ u_ws R_KR T_KR 4, w ∈ gw_tbl := by
  have h : u_ws R_KR T_KR 4 = [292, 294, 296, 298].filterMap (fun i => lw_tbl[i]?) := by decide +kernel
  have g : (u_ws R_KR T_KR 4).all goodWord = true := by decide +kernel
  intro w hw; have hg := List.all_eq_true.mp g w hw; rw [h] at hw; obtain ⟨i, -, hi⟩ := List.mem_filterMap.mp hw; exact gw_in (List.mem_of_getElem? hi) hg
def R_NO : String := "SignDots$Notes"
def T_NO : u_T := fun k => match k with
  | 0 => ("SignDots$Notes", "step", "[I", true)
  | 1 => ("SignDots$Notes", "alter", "[I", true)
  | 2 => ("SignDots$Notes", "bar", "[I", true)
  | 3 => ("SignDots$Notes", "time", "[I", true)
  | 4 => ("SignDots$Notes", "voice", "[I", true)
  | 5 => ("SignDots$Notes", "order", "[I", true)
  | 6 => ("SignDots$Notes", "marks", "[I", true)
  | _ => ("SignDots$Notes", "size", "I", false)
def t_NO : Nat → FieldType := fun k => match k with
  | 0 => .array .int
  | 1 => .array .int
  | 2 => .array .int
  | 3 => .array .int
  | 4 => .array .int
  | 5 => .array .int
  | 6 => .array .int
  | _ => .int
theorem nm_NO : ∀ a, a < 8 → ∀ b, b < 8 → a ≠ b → (T_NO a).2.1 ≠ (T_NO b).2.1 := by decide +kernel
theorem tk_NO : ∀ k, k < 8 → parseFieldDescriptor (T_NO k).2.2.1 = some (t_NO k) := by decide +kernel
theorem wi_NO : ∀ w ∈ u_ws R_NO T_NO 8, w ∈ gw_tbl := by
  have h : u_ws R_NO T_NO 8 = [109, 111, 113, 115, 117, 119, 121, 123].filterMap (fun i => lw_tbl[i]?) := by decide +kernel
  have g : (u_ws R_NO T_NO 8).all goodWord = true := by decide +kernel
  intro w hw; have hg := List.all_eq_true.mp g w hw; rw [h] at hw; obtain ⟨i, -, hi⟩ := List.mem_filterMap.mp hw; exact gw_in (List.mem_of_getElem? hi) hg
def R_SE : String := "SignDots$Seats"
def T_SE : u_T := fun k => match k with
  | 0 => ("SignDots$Seats", "enteredBar", "[I", true)
  | 1 => ("SignDots$Seats", "state", "[I", true)
  | 2 => ("SignDots$Seats", "earlierBar", "[I", true)
  | 3 => ("SignDots$Seats", "earlierState", "[I", true)
  | _ => ("SignDots$Seats", "courtesyBar", "[I", true)
def t_SE : Nat → FieldType := fun k => match k with
  | 0 => .array .int
  | 1 => .array .int
  | 2 => .array .int
  | 3 => .array .int
  | _ => .array .int
theorem nm_SE : ∀ a, a < 5 → ∀ b, b < 5 → a ≠ b → (T_SE a).2.1 ≠ (T_SE b).2.1 := by decide +kernel
theorem tk_SE : ∀ k, k < 5 → parseFieldDescriptor (T_SE k).2.2.1 = some (t_SE k) := by decide +kernel
theorem wi_SE : ∀ w ∈ u_ws R_SE T_SE 5, w ∈ gw_tbl := by
  have h : u_ws R_SE T_SE 5 = [158, 160, 162, 164, 166].filterMap (fun i => lw_tbl[i]?) := by decide +kernel
  have g : (u_ws R_SE T_SE 5).all goodWord = true := by decide +kernel
  intro w hw; have hg := List.all_eq_true.mp g w hw; rw [h] at hw; obtain ⟨i, -, hi⟩ := List.mem_filterMap.mp hw; exact gw_in (List.mem_of_getElem? hi) hg
def R_SG : String := "SignDots$Signs"
def T_SG : u_T := fun k => match k with
  | 0 => ("SignDots$Signs", "notes", "LSignDots$Notes;", true)
  | 1 => ("SignDots$Signs", "keys", "LSignDots$ByBar;", true)
  | 2 => ("SignDots$Signs", "rules", "[I", true)
  | 3 => ("SignDots$Signs", "seats", "LSignDots$Seats;", true)
  | 4 => ("SignDots$Signs", "seat", "[I", true)
  | 5 => ("SignDots$Signs", "tie", "[I", true)
  | 6 => ("SignDots$Signs", "kind", "[I", true)
  | 7 => ("SignDots$Signs", "natural", "[I", true)
  | 8 => ("SignDots$Signs", "from", "I", false)
  | 9 => ("SignDots$Signs", "to", "I", false)
  | _ => ("SignDots$Signs", "found", "Z", false)
def t_SG : Nat → FieldType := fun k => match k with
  | 0 => .object "SignDots$Notes"
  | 1 => .object "SignDots$ByBar"
  | 2 => .array .int
  | 3 => .object "SignDots$Seats"
  | 4 => .array .int
  | 5 => .array .int
  | 6 => .array .int
  | 7 => .array .int
  | 8 => .int
  | 9 => .int
  | _ => .boolean
theorem nm_SG : ∀ a, a < 11 → ∀ b, b < 11 → a ≠ b → (T_SG a).2.1 ≠ (T_SG b).2.1 := by decide +kernel
theorem tk_SG : ∀ k, k < 11 → parseFieldDescriptor (T_SG k).2.2.1 = some (t_SG k) := by decide +kernel
theorem wi_SG : ∀ w ∈ u_ws R_SG T_SG 11, w ∈ gw_tbl := by
  have h : u_ws R_SG T_SG 11 = [184, 186, 188, 190, 192, 194, 196, 198, 200, 202, 204].filterMap (fun i => lw_tbl[i]?) := by decide +kernel
  have g : (u_ws R_SG T_SG 11).all goodWord = true := by decide +kernel
  intro w hw; have hg := List.all_eq_true.mp g w hw; rw [h] at hw; obtain ⟨i, -, hi⟩ := List.mem_filterMap.mp hw; exact gw_in (List.mem_of_getElem? hi) hg
def R_SD : String := "SignDots"
def T_SD : u_T := fun k => match k with
  | 0 => ("SignDots", "notes", "LSignDots$Notes;", true)
  | 1 => ("SignDots", "keys", "LSignDots$ByBar;", true)
  | 2 => ("SignDots", "clefs", "LSignDots$ByBar;", true)
  | 3 => ("SignDots", "rules", "[I", true)
  | 4 => ("SignDots", "signs", "LSignDots$Signs;", true)
  | 5 => ("SignDots", "columns", "LSignDots$Columns;", true)
  | 6 => ("SignDots", "dotSpaces", "LSignDots$DotSpaces;", true)
  | _ => ("SignDots", "keyRow", "LSignDots$KeyRow;", true)
def t_SD : Nat → FieldType := fun k => match k with
  | 0 => .object "SignDots$Notes"
  | 1 => .object "SignDots$ByBar"
  | 2 => .object "SignDots$ByBar"
  | 3 => .array .int
  | 4 => .object "SignDots$Signs"
  | 5 => .object "SignDots$Columns"
  | 6 => .object "SignDots$DotSpaces"
  | _ => .object "SignDots$KeyRow"
theorem nm_SD : ∀ a, a < 8 → ∀ b, b < 8 → a ≠ b → (T_SD a).2.1 ≠ (T_SD b).2.1 := by decide +kernel
theorem tk_SD : ∀ k, k < 8 → parseFieldDescriptor (T_SD k).2.2.1 = some (t_SD k) := by decide +kernel
theorem wi_SD : ∀ w ∈ u_ws R_SD T_SD 8, w ∈ gw_tbl := by
  have h : u_ws R_SD T_SD 8 = [309, 311, 313, 315, 317, 319, 321, 323].filterMap (fun i => lw_tbl[i]?) := by decide +kernel
  have g : (u_ws R_SD T_SD 8).all goodWord = true := by decide +kernel
  intro w hw; have hg := List.all_eq_true.mp g w hw; rw [h] at hw; obtain ⟨i, -, hi⟩ := List.mem_filterMap.mp hw; exact gw_in (List.mem_of_getElem? hi) hg
def R_MD : String := "SignDotsModel"
def T_MD : u_T := fun k => match k with
  | 0 => ("SignDotsModel", "step", "[I", true)
  | 1 => ("SignDotsModel", "alter", "[I", true)
  | 2 => ("SignDotsModel", "bar", "[I", true)
  | 3 => ("SignDotsModel", "time", "[I", true)
  | 4 => ("SignDotsModel", "voice", "[I", true)
  | 5 => ("SignDotsModel", "tied", "[I", true)
  | 6 => ("SignDotsModel", "grace", "[I", true)
  | 7 => ("SignDotsModel", "dots", "[I", true)
  | 8 => ("SignDotsModel", "notes", "I", false)
  | 9 => ("SignDotsModel", "keys", "[I", true)
  | 10 => ("SignDotsModel", "clefs", "[I", true)
  | 11 => ("SignDotsModel", "rules", "[I", true)
  | 12 => ("SignDotsModel", "order", "[I", true)
  | 13 => ("SignDotsModel", "tiedTo", "[I", true)
  | 14 => ("SignDotsModel", "signs", "[I", true)
  | 15 => ("SignDotsModel", "natural", "[Z", true)
  | 16 => ("SignDotsModel", "state", "[I", true)
  | 17 => ("SignDotsModel", "before", "[I", true)
  | 18 => ("SignDotsModel", "next", "[I", true)
  | 19 => ("SignDotsModel", "had", "[Z", true)
  | 20 => ("SignDotsModel", "shown", "[Z", true)
  | 21 => ("SignDotsModel", "known", "Z", false)
  | 22 => ("SignDotsModel", "placed", "I", false)
  | 23 => ("SignDotsModel", "byPlace", "[I", true)
  | 24 => ("SignDotsModel", "zigzag", "[I", true)
  | 25 => ("SignDotsModel", "signCount", "I", false)
  | 26 => ("SignDotsModel", "column", "[I", true)
  | 27 => ("SignDotsModel", "best", "[I", true)
  | 28 => ("SignDotsModel", "places", "[I", true)
  | 29 => ("SignDotsModel", "sums", "[I", true)
  | _ => ("SignDotsModel", "found", "I", false)
def t_MD : Nat → FieldType := fun k => match k with
  | 0 => .array .int
  | 1 => .array .int
  | 2 => .array .int
  | 3 => .array .int
  | 4 => .array .int
  | 5 => .array .int
  | 6 => .array .int
  | 7 => .array .int
  | 8 => .int
  | 9 => .array .int
  | 10 => .array .int
  | 11 => .array .int
  | 12 => .array .int
  | 13 => .array .int
  | 14 => .array .int
  | 15 => .array .boolean
  | 16 => .array .int
  | 17 => .array .int
  | 18 => .array .int
  | 19 => .array .boolean
  | 20 => .array .boolean
  | 21 => .boolean
  | 22 => .int
  | 23 => .array .int
  | 24 => .array .int
  | 25 => .int
  | 26 => .array .int
  | 27 => .array .int
  | 28 => .array .int
  | 29 => .array .int
  | _ => .int
theorem nm_MD : ∀ a, a < 31 → ∀ b, b < 31 → a ≠ b → (T_MD a).2.1 ≠ (T_MD b).2.1 := by decide +kernel
theorem tk_MD : ∀ k, k < 31 → parseFieldDescriptor (T_MD k).2.2.1 = some (t_MD k) := by decide +kernel
theorem wi_MD : ∀ w ∈ u_ws R_MD T_MD 31, w ∈ gw_tbl := by
  have h : u_ws R_MD T_MD 31 = [757, 759, 761, 763, 765, 767, 769, 771, 773, 775, 777, 779, 781, 783, 785, 787, 789, 791, 793, 795, 797, 799, 801, 803, 805, 807, 809, 811, 813, 815, 817].filterMap (fun i => lw_tbl[i]?) := by decide +kernel
  have g : (u_ws R_MD T_MD 31).all goodWord = true := by decide +kernel
  intro w hw; have hg := List.all_eq_true.mp g w hw; rw [h] at hw; obtain ⟨i, -, hi⟩ := List.mem_filterMap.mp hw; exact gw_in (List.mem_of_getElem? hi) hg
def classes : List vw_C := [(R_BB, T_BB, 2), (R_CO, T_CO, 10), (R_DS, T_DS, 9), (R_KR, T_KR, 4), (R_NO, T_NO, 8), (R_SE, T_SE, 5), (R_SG, T_SG, 11), (R_SD, T_SD, 8), (R_MD, T_MD, 31)]
theorem cls_ok : ∀ (ci : Nat) (C : String) (T : u_T) (N : Nat), classes[ci]? = some (C, T, N) → (∀ w ∈ u_ws C T N, w ∈ gw_tbl) ∧ (∃ ty : Nat → FieldType, ∀ k, k < N → parseFieldDescriptor (T k).2.2.1 = some (ty k)) ∧ (∀ a, a < N → ∀ b, b < N → a ≠ b → (T a).2.1 ≠ (T b).2.1) := by
  intro ci C T N h
  match ci, h with
  | 0, h => cases h; exact ⟨wi_BB, ⟨t_BB, tk_BB⟩, nm_BB⟩
  | 1, h => cases h; exact ⟨wi_CO, ⟨t_CO, tk_CO⟩, nm_CO⟩
  | 2, h => cases h; exact ⟨wi_DS, ⟨t_DS, tk_DS⟩, nm_DS⟩
  | 3, h => cases h; exact ⟨wi_KR, ⟨t_KR, tk_KR⟩, nm_KR⟩
  | 4, h => cases h; exact ⟨wi_NO, ⟨t_NO, tk_NO⟩, nm_NO⟩
  | 5, h => cases h; exact ⟨wi_SE, ⟨t_SE, tk_SE⟩, nm_SE⟩
  | 6, h => cases h; exact ⟨wi_SG, ⟨t_SG, tk_SG⟩, nm_SG⟩
  | 7, h => cases h; exact ⟨wi_SD, ⟨t_SD, tk_SD⟩, nm_SD⟩
  | 8, h => cases h; exact ⟨wi_MD, ⟨t_MD, tk_MD⟩, nm_MD⟩
  | k + 9, h => simp [classes] at h
abbrev LayE : Type := Option Nat × Nat × Bool × List (Option Nat)
/-- the cells: 0 SD, 1 NO, 2 NO.step, 3 NO.alter, 4 NO.bar, 5 NO.time, 6 NO.voice, 7 NO.order, 8 NO.marks, 9 KB, 10 KB.value, 11 KB.told, 12 CB, 13 CB.value, 14 CB.told, 15 rules, 16 SG, 17 SE, 18 SE.enteredBar, 19 SE.state, 20 SE.earlierBar, 21 SE.earlierState, 22 SE.courtesyBar, 23 SG.seat, 24 SG.tie, 25 SG.kind, 26 SG.natural, 27 CO, 28 CO.fromTop, 29 CO.zigzag, 30 CO.column, 31 CO.trial, 32 CO.columnWidth, 33 DS, 34 DS.dottedAt, 35 DS.dotted, 36 DS.space, 37 DS.cost, 38 KR, 39 KR.letter, 40 KR.alter, 41 KR.place, 42 MD, 43 MD.step, 44 MD.alter, 45 MD.bar, 46 MD.time, 47 MD.voice, 48 MD.tied, 49 MD.grace, 50 MD.dots, 51 MD.keys, 52 MD.clefs, 53 MD.rules, 54 MD.order, 55 MD.tiedTo, 56 MD.signs, 57 MD.natural, 58 MD.state, 59 MD.before, 60 MD.next, 61 MD.had, 62 MD.shown, 63 MD.byPlace, 64 MD.zigzag, 65 MD.column, 66 MD.best, 67 MD.places, 68 MD.sums -/
def lay : List LayE := [
  (some 7, 8, false, [some 1, some 9, some 12, some 15, some 16, some 27, some 33, some 38]),
  (some 4, 8, false, [some 2, some 3, some 4, some 5, some 6, some 7, some 8, none]),
  (none, 60, false, []),
  (none, 60, false, []),
  (none, 60, false, []),
  (none, 60, false, []),
  (none, 60, false, []),
  (none, 60, false, []),
  (none, 180, false, []),
  (some 0, 2, false, [some 10, some 11]),
  (none, 20, false, []),
  (none, 20, true, []),
  (some 0, 2, false, [some 13, some 14]),
  (none, 20, false, []),
  (none, 20, true, []),
  (none, 5, false, []),
  (some 6, 11, false, [some 1, some 9, some 15, some 17, some 23, some 24, some 25, some 26, none, none, none]),
  (some 5, 5, false, [some 18, some 19, some 20, some 21, some 22]),
  (none, 280, false, []),
  (none, 280, false, []),
  (none, 280, false, []),
  (none, 280, false, []),
  (none, 280, false, []),
  (none, 60, false, []),
  (none, 60, false, []),
  (none, 60, false, []),
  (none, 60, false, []),
  (some 1, 10, false, [some 1, some 16, some 28, some 29, some 30, some 31, some 32, none, none, none]),
  (none, 60, false, []),
  (none, 60, false, []),
  (none, 60, false, []),
  (none, 60, false, []),
  (none, 60, false, []),
  (some 2, 9, false, [some 1, some 34, some 35, some 36, some 37, none, none, none, none]),
  (none, 70, false, []),
  (none, 60, false, []),
  (none, 60, false, []),
  (none, 5760, false, []),
  (some 3, 4, false, [some 39, some 40, some 41, none]),
  (none, 14, false, []),
  (none, 14, false, []),
  (none, 14, false, []),
  (some 8, 31, false, [some 43, some 44, some 45, some 46, some 47, some 48, some 49, some 50, none, some 51, some 52, some 53, some 54, some 55, some 56, some 57, some 58, some 59, some 60, some 61, some 62, none, none, some 63, some 64, none, some 65, some 66, some 67, some 68, none]),
  (none, 60, false, []),
  (none, 60, false, []),
  (none, 60, false, []),
  (none, 60, false, []),
  (none, 60, false, []),
  (none, 60, false, []),
  (none, 60, false, []),
  (none, 60, false, []),
  (none, 20, false, []),
  (none, 20, false, []),
  (none, 5, false, []),
  (none, 60, false, []),
  (none, 60, false, []),
  (none, 60, false, []),
  (none, 60, true, []),
  (none, 280, false, []),
  (none, 280, false, []),
  (none, 280, false, []),
  (none, 280, true, []),
  (none, 280, true, []),
  (none, 60, false, []),
  (none, 60, false, []),
  (none, 60, false, []),
  (none, 60, false, []),
  (none, 60, false, []),
  (none, 24000, false, [])]
abbrev NC : Nat := 69
theorem lay_len : lay.length = NC := rfl
def stt : List (String × String × List Int32) := [("SignDots", "MARK_LIMIT", [1, 1, 3]), ("SignDots", "LOWEST_LINE", [30, 18, 24]), ("SignDots", "RULE_LIMIT", [1, 1, 15, 1, 2]), ("SignDots$KeyRow", "SHARPS_AHEAD", [1, 3, 5, 0, 2, 4, 6]), ("SignDots$Signs", "WIDTHS", [16, 12, 9, 9, 7, 8, 10, 14, 10]), ("SignDots$KeyRow", "SHARPS", [3, 0, 4, 1, 5, 2, 6]), ("SignDots$KeyRow", "FLATS", [6, 2, 5, 1, 4, 0, 3]), ("SignDots$KeyRow", "TOP_SHARP", [9, 7, 8]), ("SignDots$KeyRow", "TOP_FLAT", [7, 5, 6])]
abbrev Mt : Type := MethodName × ByteArray × Nat × Option FieldType
abbrev c_SD_note : ByteArray := prog_1_method_2_code
def M_SD_note : Mt := (⟨"SignDots", "note", "(IIIII)I"⟩, c_SD_note, 6, (some .int))
abbrev c_SD_within : ByteArray := prog_1_method_19_code
def M_SD_within : Mt := (⟨"SignDots", "within", "(III)Z"⟩, c_SD_within, 3, (some .boolean))
abbrev c_SD_isBar : ByteArray := prog_1_method_18_code
def M_SD_isBar : Mt := (⟨"SignDots", "isBar", "(I)Z"⟩, c_SD_isBar, 1, (some .boolean))
abbrev c_SD_forgetAnswers : ByteArray := prog_1_method_15_code
def M_SD_forgetAnswers : Mt := (⟨"SignDots", "forgetAnswers", "()V"⟩, c_SD_forgetAnswers, 1, none)
abbrev c_SG_forget : ByteArray := prog_8_method_2_code
def M_SG_forget : Mt := (⟨"SignDots$Signs", "forget", "()V"⟩, c_SG_forget, 1, none)
abbrev c_CO_forget : ByteArray := prog_3_method_2_code
def M_CO_forget : Mt := (⟨"SignDots$Columns", "forget", "()V"⟩, c_CO_forget, 1, none)
abbrev c_DS_forget : ByteArray := prog_4_method_2_code
def M_DS_forget : Mt := (⟨"SignDots$DotSpaces", "forget", "()V"⟩, c_DS_forget, 1, none)
abbrev c_NO_add : ByteArray := prog_6_method_3_code
def M_NO_add : Mt := (⟨"SignDots$Notes", "add", "(IIIII)I"⟩, c_NO_add, 8, (some .int))
abbrev c_NO_isBefore : ByteArray := prog_6_method_9_code
def M_NO_isBefore : Mt := (⟨"SignDots$Notes", "isBefore", "(II)Z"⟩, c_NO_isBefore, 3, (some .boolean))
abbrev c_SD_mark : ByteArray := prog_1_method_3_code
def M_SD_mark : Mt := (⟨"SignDots", "mark", "(III)I"⟩, c_SD_mark, 4, (some .int))
abbrev c_NO_has : ByteArray := prog_6_method_2_code
def M_NO_has : Mt := (⟨"SignDots$Notes", "has", "(I)Z"⟩, c_NO_has, 2, (some .boolean))
abbrev c_NO_possibleTie : ByteArray := prog_6_method_7_code
def M_NO_possibleTie : Mt := (⟨"SignDots$Notes", "possibleTie", "(I)I"⟩, c_NO_possibleTie, 4, (some .int))
abbrev c_NO_positionOf : ByteArray := prog_6_method_11_code
def M_NO_positionOf : Mt := (⟨"SignDots$Notes", "positionOf", "(I)I"⟩, c_NO_positionOf, 3, (some .int))
abbrev c_NO_setMark : ByteArray := prog_6_method_6_code
def M_NO_setMark : Mt := (⟨"SignDots$Notes", "setMark", "(III)I"⟩, c_NO_setMark, 5, (some .int))
abbrev c_NO_markOf : ByteArray := prog_6_method_5_code
def M_NO_markOf : Mt := (⟨"SignDots$Notes", "markOf", "(II)I"⟩, c_NO_markOf, 3, (some .int))
abbrev c_SD_key : ByteArray := prog_1_method_4_code
def M_SD_key : Mt := (⟨"SignDots", "key", "(II)I"⟩, c_SD_key, 3, (some .int))
abbrev c_BB_tell : ByteArray := prog_2_method_3_code
def M_BB_tell : Mt := (⟨"SignDots$ByBar", "tell", "(II)I"⟩, c_BB_tell, 5, (some .int))
abbrev c_SD_clef : ByteArray := prog_1_method_5_code
def M_SD_clef : Mt := (⟨"SignDots", "clef", "(II)I"⟩, c_SD_clef, 3, (some .int))
abbrev c_SD_rule : ByteArray := prog_1_method_6_code
def M_SD_rule : Mt := (⟨"SignDots", "rule", "(II)I"⟩, c_SD_rule, 4, (some .int))
abbrev c_SD_drop : ByteArray := prog_1_method_7_code
def M_SD_drop : Mt := (⟨"SignDots", "drop", "()I"⟩, c_SD_drop, 1, (some .int))
abbrev c_NO_removeLast : ByteArray := prog_6_method_4_code
def M_NO_removeLast : Mt := (⟨"SignDots$Notes", "removeLast", "()V"⟩, c_NO_removeLast, 2, none)
abbrev c_SD_count : ByteArray := prog_1_method_8_code
def M_SD_count : Mt := (⟨"SignDots", "count", "(I)I"⟩, c_SD_count, 2, (some .int))
abbrev c_SG_find : ByteArray := prog_8_method_3_code
def M_SG_find : Mt := (⟨"SignDots$Signs", "find", "()V"⟩, c_SG_find, 2, none)
abbrev c_SE_clear : ByteArray := prog_7_method_2_code
def M_SE_clear : Mt := (⟨"SignDots$Seats", "clear", "()V"⟩, c_SE_clear, 1, none)
abbrev c_JA_fill : ByteArray := prog_13_method_103_code
def M_JA_fill : Mt := (⟨"java/util/Arrays", "fill", "([II)V"⟩, c_JA_fill, 4, none)
abbrev c_SG_seatFor : ByteArray := prog_8_method_6_code
def M_SG_seatFor : Mt := (⟨"SignDots$Signs", "seatFor", "(II)I"⟩, c_SG_seatFor, 4, (some .int))
abbrev c_NO_tieOf : ByteArray := prog_6_method_8_code
def M_NO_tieOf : Mt := (⟨"SignDots$Notes", "tieOf", "(I)I"⟩, c_NO_tieOf, 2, (some .int))
abbrev c_NO_beginsChord : ByteArray := prog_6_method_12_code
def M_NO_beginsChord : Mt := (⟨"SignDots$Notes", "beginsChord", "(I)Z"⟩, c_NO_beginsChord, 2, (some .boolean))
abbrev c_NO_shareChord : ByteArray := prog_6_method_10_code
def M_NO_shareChord : Mt := (⟨"SignDots$Notes", "shareChord", "(II)Z"⟩, c_NO_shareChord, 3, (some .boolean))
abbrev c_NO_chordEnd : ByteArray := prog_6_method_13_code
def M_NO_chordEnd : Mt := (⟨"SignDots$Notes", "chordEnd", "(I)I"⟩, c_NO_chordEnd, 3, (some .int))
abbrev c_SG_decideChord : ByteArray := prog_8_method_7_code
def M_SG_decideChord : Mt := (⟨"SignDots$Signs", "decideChord", "()V"⟩, c_SG_decideChord, 4, none)
abbrev c_SG_stateAhead : ByteArray := prog_8_method_9_code
def M_SG_stateAhead : Mt := (⟨"SignDots$Signs", "stateAhead", "(I)I"⟩, c_SG_stateAhead, 3, (some .int))
abbrev c_SG_alterByKey : ByteArray := prog_8_method_10_code
def M_SG_alterByKey : Mt := (⟨"SignDots$Signs", "alterByKey", "(II)I"⟩, c_SG_alterByKey, 3, (some .int))
abbrev c_BB_at : ByteArray := prog_2_method_2_code
def M_BB_at : Mt := (⟨"SignDots$ByBar", "at", "(I)I"⟩, c_BB_at, 2, (some .int))
abbrev c_KR_alterOf : ByteArray := prog_5_method_2_code
def M_KR_alterOf : Mt := (⟨"SignDots$KeyRow", "alterOf", "(II)I"⟩, c_KR_alterOf, 3, (some .int))
abbrev c_SE_stateIn : ByteArray := prog_7_method_4_code
def M_SE_stateIn : Mt := (⟨"SignDots$Seats", "stateIn", "(III)I"⟩, c_SE_stateIn, 4, (some .int))
abbrev c_SE_isEntered : ByteArray := prog_7_method_3_code
def M_SE_isEntered : Mt := (⟨"SignDots$Seats", "isEntered", "(II)Z"⟩, c_SE_isEntered, 3, (some .boolean))
abbrev c_SG_needsSign : ByteArray := prog_8_method_11_code
def M_SG_needsSign : Mt := (⟨"SignDots$Signs", "needsSign", "(II)Z"⟩, c_SG_needsSign, 3, (some .boolean))
abbrev c_SG_hasUnlike : ByteArray := prog_8_method_13_code
def M_SG_hasUnlike : Mt := (⟨"SignDots$Signs", "hasUnlike", "(I)Z"⟩, c_SG_hasUnlike, 4, (some .boolean))
abbrev c_SG_isFirst : ByteArray := prog_8_method_14_code
def M_SG_isFirst : Mt := (⟨"SignDots$Signs", "isFirst", "(IZ)Z"⟩, c_SG_isFirst, 5, (some .boolean))
abbrev c_SG_wantsNatural : ByteArray := prog_8_method_12_code
def M_SG_wantsNatural : Mt := (⟨"SignDots$Signs", "wantsNatural", "(II)Z"⟩, c_SG_wantsNatural, 3, (some .boolean))
abbrev c_SG_isCourtesy : ByteArray := prog_8_method_15_code
def M_SG_isCourtesy : Mt := (⟨"SignDots$Signs", "isCourtesy", "(I)Z"⟩, c_SG_isCourtesy, 3, (some .boolean))
abbrev c_SE_hasCourtesy : ByteArray := prog_7_method_8_code
def M_SE_hasCourtesy : Mt := (⟨"SignDots$Seats", "hasCourtesy", "(II)Z"⟩, c_SE_hasCourtesy, 3, (some .boolean))
abbrev c_SG_wasOtherInLastBar : ByteArray := prog_8_method_16_code
def M_SG_wasOtherInLastBar : Mt := (⟨"SignDots$Signs", "wasOtherInLastBar", "(I)Z"⟩, c_SG_wasOtherInLastBar, 4, (some .boolean))
abbrev c_SE_stateBefore : ByteArray := prog_7_method_5_code
def M_SE_stateBefore : Mt := (⟨"SignDots$Seats", "stateBefore", "(III)I"⟩, c_SE_stateBefore, 5, (some .int))
abbrev c_SG_isOtherInOctave : ByteArray := prog_8_method_17_code
def M_SG_isOtherInOctave : Mt := (⟨"SignDots$Signs", "isOtherInOctave", "(I)Z"⟩, c_SG_isOtherInOctave, 5, (some .boolean))
abbrev c_SG_wasOtherByTie : ByteArray := prog_8_method_18_code
def M_SG_wasOtherByTie : Mt := (⟨"SignDots$Signs", "wasOtherByTie", "(I)Z"⟩, c_SG_wasOtherByTie, 5, (some .boolean))
abbrev c_SG_wasOtherByKey : ByteArray := prog_8_method_19_code
def M_SG_wasOtherByKey : Mt := (⟨"SignDots$Signs", "wasOtherByKey", "(I)Z"⟩, c_SG_wasOtherByKey, 4, (some .boolean))
abbrev c_SE_setCourtesy : ByteArray := prog_7_method_9_code
def M_SE_setCourtesy : Mt := (⟨"SignDots$Seats", "setCourtesy", "(II)V"⟩, c_SE_setCourtesy, 3, none)
abbrev c_SG_changeStates : ByteArray := prog_8_method_8_code
def M_SG_changeStates : Mt := (⟨"SignDots$Signs", "changeStates", "()V"⟩, c_SG_changeStates, 4, none)
abbrev c_SE_enter : ByteArray := prog_7_method_6_code
def M_SE_enter : Mt := (⟨"SignDots$Seats", "enter", "(III)V"⟩, c_SE_enter, 4, none)
abbrev c_SE_setState : ByteArray := prog_7_method_7_code
def M_SE_setState : Mt := (⟨"SignDots$Seats", "setState", "(II)V"⟩, c_SE_setState, 3, none)
abbrev c_SG_howMany : ByteArray := prog_8_method_4_code
def M_SG_howMany : Mt := (⟨"SignDots$Signs", "howMany", "(I)I"⟩, c_SG_howMany, 4, (some .int))
abbrev c_NO_howManyChords : ByteArray := prog_6_method_16_code
def M_NO_howManyChords : Mt := (⟨"SignDots$Notes", "howManyChords", "()I"⟩, c_NO_howManyChords, 3, (some .int))
abbrev c_SD_ordered : ByteArray := prog_1_method_9_code
def M_SD_ordered : Mt := (⟨"SignDots", "ordered", "(I)I"⟩, c_SD_ordered, 2, (some .int))
abbrev c_SD_sign : ByteArray := prog_1_method_10_code
def M_SD_sign : Mt := (⟨"SignDots", "sign", "(II)I"⟩, c_SD_sign, 3, (some .int))
abbrev c_SG_widthOf : ByteArray := prog_8_method_5_code
def M_SG_widthOf : Mt := (⟨"SignDots$Signs", "widthOf", "(I)I"⟩, c_SG_widthOf, 3, (some .int))
abbrev c_NO_chordStart : ByteArray := prog_6_method_14_code
def M_NO_chordStart : Mt := (⟨"SignDots$Notes", "chordStart", "(I)I"⟩, c_NO_chordStart, 2, (some .int))
abbrev c_NO_chordAt : ByteArray := prog_6_method_15_code
def M_NO_chordAt : Mt := (⟨"SignDots$Notes", "chordAt", "(II)I"⟩, c_NO_chordAt, 4, (some .int))
abbrev c_CO_layOut : ByteArray := prog_3_method_3_code
def M_CO_layOut : Mt := (⟨"SignDots$Columns", "layOut", "(I)V"⟩, c_CO_layOut, 2, none)
abbrev c_CO_collectFromTop : ByteArray := prog_3_method_6_code
def M_CO_collectFromTop : Mt := (⟨"SignDots$Columns", "collectFromTop", "(II)V"⟩, c_CO_collectFromTop, 6, none)
abbrev c_CO_bringToZigzag : ByteArray := prog_3_method_7_code
def M_CO_bringToZigzag : Mt := (⟨"SignDots$Columns", "bringToZigzag", "()V"⟩, c_CO_bringToZigzag, 2, none)
abbrev c_CO_search : ByteArray := prog_3_method_8_code
def M_CO_search : Mt := (⟨"SignDots$Columns", "search", "(III)V"⟩, c_CO_search, 7, none)
abbrev c_CO_canStand : ByteArray := prog_3_method_10_code
def M_CO_canStand : Mt := (⟨"SignDots$Columns", "canStand", "(II[I)Z"⟩, c_CO_canStand, 5, (some .boolean))
abbrev c_CO_canShare : ByteArray := prog_3_method_11_code
def M_CO_canShare : Mt := (⟨"SignDots$Columns", "canShare", "(II)Z"⟩, c_CO_canShare, 4, (some .boolean))
abbrev c_CO_down : ByteArray := prog_3_method_13_code
def M_CO_down : Mt := (⟨"SignDots$Columns", "down", "(I)I"⟩, c_CO_down, 3, (some .int))
abbrev c_CO_levelReach : ByteArray := prog_3_method_14_code
def M_CO_levelReach : Mt := (⟨"SignDots$Columns", "levelReach", "(II)I"⟩, c_CO_levelReach, 3, (some .int))
abbrev c_CO_up : ByteArray := prog_3_method_12_code
def M_CO_up : Mt := (⟨"SignDots$Columns", "up", "(I)I"⟩, c_CO_up, 3, (some .int))
abbrev c_JM_max : ByteArray := prog_11_method_65_code
def M_JM_max : Mt := (⟨"java/lang/Math", "max", "(II)I"⟩, c_JM_max, 2, (some .int))
abbrev c_CO_takeInTurn : ByteArray := prog_3_method_9_code
def M_CO_takeInTurn : Mt := (⟨"SignDots$Columns", "takeInTurn", "()V"⟩, c_CO_takeInTurn, 4, none)
abbrev c_CO_columnOf : ByteArray := prog_3_method_4_code
def M_CO_columnOf : Mt := (⟨"SignDots$Columns", "columnOf", "(I)I"⟩, c_CO_columnOf, 3, (some .int))
abbrev c_SD_placeOf : ByteArray := prog_1_method_17_code
def M_SD_placeOf : Mt := (⟨"SignDots", "placeOf", "(I)I"⟩, c_SD_placeOf, 2, (some .int))
abbrev c_SD_extent : ByteArray := prog_1_method_11_code
def M_SD_extent : Mt := (⟨"SignDots", "extent", "(II)I"⟩, c_SD_extent, 4, (some .int))
abbrev c_CO_sumOfWidths : ByteArray := prog_3_method_5_code
def M_CO_sumOfWidths : Mt := (⟨"SignDots$Columns", "sumOfWidths", "()I"⟩, c_CO_sumOfWidths, 1, (some .int))
abbrev c_SD_dot : ByteArray := prog_1_method_12_code
def M_SD_dot : Mt := (⟨"SignDots", "dot", "(I)I"⟩, c_SD_dot, 2, (some .int))
abbrev c_DS_layOut : ByteArray := prog_4_method_3_code
def M_DS_layOut : Mt := (⟨"SignDots$DotSpaces", "layOut", "(I)V"⟩, c_DS_layOut, 3, none)
abbrev c_DS_collectFromTop : ByteArray := prog_4_method_5_code
def M_DS_collectFromTop : Mt := (⟨"SignDots$DotSpaces", "collectFromTop", "(II)V"⟩, c_DS_collectFromTop, 5, none)
abbrev c_JM_min : ByteArray := prog_11_method_69_code
def M_JM_min : Mt := (⟨"java/lang/Math", "min", "(II)I"⟩, c_JM_min, 2, (some .int))
abbrev c_DS_fillCosts : ByteArray := prog_4_method_7_code
def M_DS_fillCosts : Mt := (⟨"SignDots$DotSpaces", "fillCosts", "()V"⟩, c_DS_fillCosts, 6, none)
abbrev c_DS_spaceAt : ByteArray := prog_4_method_6_code
def M_DS_spaceAt : Mt := (⟨"SignDots$DotSpaces", "spaceAt", "(I)I"⟩, c_DS_spaceAt, 2, (some .int))
abbrev c_JM_abs : ByteArray := prog_11_method_59_code
def M_JM_abs : Mt := (⟨"java/lang/Math", "abs", "(I)I"⟩, c_JM_abs, 1, (some .int))
abbrev c_DS_chooseSpaces : ByteArray := prog_4_method_8_code
def M_DS_chooseSpaces : Mt := (⟨"SignDots$DotSpaces", "chooseSpaces", "()V"⟩, c_DS_chooseSpaces, 5, none)
abbrev c_DS_distanceFrom : ByteArray := prog_4_method_4_code
def M_DS_distanceFrom : Mt := (⟨"SignDots$DotSpaces", "distanceFrom", "(I)I"⟩, c_DS_distanceFrom, 3, (some .int))
abbrev c_SD_keySigns : ByteArray := prog_1_method_13_code
def M_SD_keySigns : Mt := (⟨"SignDots", "keySigns", "(I)I"⟩, c_SD_keySigns, 2, (some .int))
abbrev c_SD_layOutKey : ByteArray := prog_1_method_16_code
def M_SD_layOutKey : Mt := (⟨"SignDots", "layOutKey", "(I)V"⟩, c_SD_layOutKey, 3, none)
abbrev c_KR_layOut : ByteArray := prog_5_method_3_code
def M_KR_layOut : Mt := (⟨"SignDots$KeyRow", "layOut", "(IIII)V"⟩, c_KR_layOut, 8, none)
abbrev c_KR_addNaturals : ByteArray := prog_5_method_4_code
def M_KR_addNaturals : Mt := (⟨"SignDots$KeyRow", "addNaturals", "(III)V"⟩, c_KR_addNaturals, 6, none)
abbrev c_KR_letterOf : ByteArray := prog_5_method_5_code
def M_KR_letterOf : Mt := (⟨"SignDots$KeyRow", "letterOf", "(II)I"⟩, c_KR_letterOf, 2, (some .int))
abbrev c_KR_placeFor : ByteArray := prog_5_method_6_code
def M_KR_placeFor : Mt := (⟨"SignDots$KeyRow", "placeFor", "(III)I"⟩, c_KR_placeFor, 5, (some .int))
abbrev c_KR_append : ByteArray := prog_5_method_7_code
def M_KR_append : Mt := (⟨"SignDots$KeyRow", "append", "(III)V"⟩, c_KR_append, 4, none)
abbrev c_SD_keySign : ByteArray := prog_1_method_14_code
def M_SD_keySign : Mt := (⟨"SignDots", "keySign", "(III)I"⟩, c_SD_keySign, 4, (some .int))
abbrev c_MD_note : ByteArray := prog_10_method_3_code
def M_MD_note : Mt := (⟨"SignDotsModel", "note", "(IIIII)I"⟩, c_MD_note, 6, (some .int))
abbrev c_MD_in : ByteArray := prog_10_method_2_code
def M_MD_in : Mt := (⟨"SignDotsModel", "in", "(III)Z"⟩, c_MD_in, 3, (some .boolean))
abbrev c_MD_mark : ByteArray := prog_10_method_7_code
def M_MD_mark : Mt := (⟨"SignDotsModel", "mark", "(III)I"⟩, c_MD_mark, 5, (some .int))
abbrev c_MD_mate : ByteArray := prog_10_method_6_code
def M_MD_mate : Mt := (⟨"SignDotsModel", "mate", "(I)I"⟩, c_MD_mate, 4, (some .int))
abbrev c_MD_whenOf : ByteArray := prog_10_method_5_code
def M_MD_whenOf : Mt := (⟨"SignDotsModel", "whenOf", "(I)I"⟩, c_MD_whenOf, 2, (some .int))
abbrev c_MD_when : ByteArray := prog_10_method_4_code
def M_MD_when : Mt := (⟨"SignDotsModel", "when", "(II)I"⟩, c_MD_when, 2, (some .int))
abbrev c_MD_key : ByteArray := prog_10_method_10_code
def M_MD_key : Mt := (⟨"SignDotsModel", "key", "(II)I"⟩, c_MD_key, 4, (some .int))
abbrev c_MD_keyOf : ByteArray := prog_10_method_8_code
def M_MD_keyOf : Mt := (⟨"SignDotsModel", "keyOf", "(I)I"⟩, c_MD_keyOf, 3, (some .int))
abbrev c_MD_clef : ByteArray := prog_10_method_11_code
def M_MD_clef : Mt := (⟨"SignDotsModel", "clef", "(II)I"⟩, c_MD_clef, 4, (some .int))
abbrev c_MD_clefOf : ByteArray := prog_10_method_9_code
def M_MD_clefOf : Mt := (⟨"SignDotsModel", "clefOf", "(I)I"⟩, c_MD_clefOf, 3, (some .int))
abbrev c_MD_rule : ByteArray := prog_10_method_12_code
def M_MD_rule : Mt := (⟨"SignDotsModel", "rule", "(II)I"⟩, c_MD_rule, 4, (some .int))
abbrev c_MD_drop : ByteArray := prog_10_method_13_code
def M_MD_drop : Mt := (⟨"SignDotsModel", "drop", "()I"⟩, c_MD_drop, 1, (some .int))
abbrev c_MD_count : ByteArray := prog_10_method_33_code
def M_MD_count : Mt := (⟨"SignDotsModel", "count", "(I)I"⟩, c_MD_count, 6, (some .int))
abbrev c_MD_work : ByteArray := prog_10_method_18_code
def M_MD_work : Mt := (⟨"SignDotsModel", "work", "()V"⟩, c_MD_work, 4, none)
abbrev c_MD_sort : ByteArray := prog_10_method_17_code
def M_MD_sort : Mt := (⟨"SignDotsModel", "sort", "()V"⟩, c_MD_sort, 3, none)
abbrev c_MD_keyAlter : ByteArray := prog_10_method_15_code
def M_MD_keyAlter : Mt := (⟨"SignDotsModel", "keyAlter", "(II)I"⟩, c_MD_keyAlter, 3, (some .int))
abbrev c_MD_letter : ByteArray := prog_10_method_14_code
def M_MD_letter : Mt := (⟨"SignDotsModel", "letter", "(IZ)I"⟩, c_MD_letter, 3, (some .int))
abbrev c_MD_chord : ByteArray := prog_10_method_19_code
def M_MD_chord : Mt := (⟨"SignDotsModel", "chord", "(II)V"⟩, c_MD_chord, 4, none)
abbrev c_MD_need : ByteArray := prog_10_method_20_code
def M_MD_need : Mt := (⟨"SignDotsModel", "need", "(III)V"⟩, c_MD_need, 10, none)
abbrev c_MD_seat : ByteArray := prog_10_method_16_code
def M_MD_seat : Mt := (⟨"SignDotsModel", "seat", "(I)I"⟩, c_MD_seat, 3, (some .int))
abbrev c_MD_court : ByteArray := prog_10_method_21_code
def M_MD_court : Mt := (⟨"SignDotsModel", "court", "(II)V"⟩, c_MD_court, 6, none)
abbrev c_MD_otherSeat : ByteArray := prog_10_method_22_code
def M_MD_otherSeat : Mt := (⟨"SignDotsModel", "otherSeat", "(I)Z"⟩, c_MD_otherSeat, 4, (some .boolean))
abbrev c_MD_tiedAhead : ByteArray := prog_10_method_23_code
def M_MD_tiedAhead : Mt := (⟨"SignDotsModel", "tiedAhead", "(II)Z"⟩, c_MD_tiedAhead, 5, (some .boolean))
abbrev c_MD_ordered : ByteArray := prog_10_method_34_code
def M_MD_ordered : Mt := (⟨"SignDotsModel", "ordered", "(I)I"⟩, c_MD_ordered, 2, (some .int))
abbrev c_MD_sign : ByteArray := prog_10_method_35_code
def M_MD_sign : Mt := (⟨"SignDotsModel", "sign", "(II)I"⟩, c_MD_sign, 3, (some .int))
abbrev c_MD_width : ByteArray := prog_10_method_25_code
def M_MD_width : Mt := (⟨"SignDotsModel", "width", "(I)I"⟩, c_MD_width, 4, (some .int))
abbrev c_MD_columnOf : ByteArray := prog_10_method_36_code
def M_MD_columnOf : Mt := (⟨"SignDotsModel", "columnOf", "(I)I"⟩, c_MD_columnOf, 3, (some .int))
abbrev c_MD_place : ByteArray := prog_10_method_32_code
def M_MD_place : Mt := (⟨"SignDotsModel", "place", "(II)V"⟩, c_MD_place, 8, none)
abbrev c_MD_listSigns : ByteArray := prog_10_method_28_code
def M_MD_listSigns : Mt := (⟨"SignDotsModel", "listSigns", "(II)V"⟩, c_MD_listSigns, 5, none)
abbrev c_MD_placeOf : ByteArray := prog_10_method_24_code
def M_MD_placeOf : Mt := (⟨"SignDotsModel", "placeOf", "(I)I"⟩, c_MD_placeOf, 3, (some .int))
abbrev c_MD_fits : ByteArray := prog_10_method_30_code
def M_MD_fits : Mt := (⟨"SignDotsModel", "fits", "(I)Z"⟩, c_MD_fits, 3, (some .boolean))
abbrev c_MD_canShare : ByteArray := prog_10_method_27_code
def M_MD_canShare : Mt := (⟨"SignDotsModel", "canShare", "(II)Z"⟩, c_MD_canShare, 6, (some .boolean))
abbrev c_MD_reach : ByteArray := prog_10_method_26_code
def M_MD_reach : Mt := (⟨"SignDotsModel", "reach", "(IZ)I"⟩, c_MD_reach, 4, (some .int))
abbrev c_MD_widths : ByteArray := prog_10_method_29_code
def M_MD_widths : Mt := (⟨"SignDotsModel", "widths", "([II)I"⟩, c_MD_widths, 8, (some .int))
abbrev c_MD_isFull : ByteArray := prog_10_method_31_code
def M_MD_isFull : Mt := (⟨"SignDotsModel", "isFull", "(I)Z"⟩, c_MD_isFull, 4, (some .boolean))
abbrev c_MD_extent : ByteArray := prog_10_method_37_code
def M_MD_extent : Mt := (⟨"SignDotsModel", "extent", "(II)I"⟩, c_MD_extent, 5, (some .int))
abbrev c_MD_dot : ByteArray := prog_10_method_38_code
def M_MD_dot : Mt := (⟨"SignDotsModel", "dot", "(I)I"⟩, c_MD_dot, 9, (some .int))
abbrev c_MD_keySigns : ByteArray := prog_10_method_41_code
def M_MD_keySigns : Mt := (⟨"SignDotsModel", "keySigns", "(I)I"⟩, c_MD_keySigns, 3, (some .int))
abbrev c_MD_keyBefore : ByteArray := prog_10_method_39_code
def M_MD_keyBefore : Mt := (⟨"SignDotsModel", "keyBefore", "(I)I"⟩, c_MD_keyBefore, 2, (some .int))
abbrev c_MD_naturals : ByteArray := prog_10_method_40_code
def M_MD_naturals : Mt := (⟨"SignDotsModel", "naturals", "(II)I"⟩, c_MD_naturals, 8, (some .int))
abbrev c_MD_keySign : ByteArray := prog_10_method_42_code
def M_MD_keySign : Mt := (⟨"SignDotsModel", "keySign", "(III)I"⟩, c_MD_keySign, 10, (some .int))
def nwW : Cond := .fieldLinkNest "SignDots$KeyRow" 64 "SignDots" "LOWEST_LINE" "[I" "SignDots"
def fLnk (own : String) (idx ci j : Nat) : Prop := ∃ (C : String) (T : u_T) (N : Nat), classes[ci]? = some (C, T, N) ∧ j < N ∧ Cond.fieldLink own idx (T j).1 (T j).2.1 (T j).2.2.1 ∈ gw_tbl
def fInt (ci j : Nat) : Prop := ∃ (C : String) (T : u_T) (N : Nat), classes[ci]? = some (C, T, N) ∧ (T j).2.2.2 = false ∧ (T j).2.2.1 = "I"
def fBool (ci j : Nat) : Prop := ∃ (C : String) (T : u_T) (N : Nat), classes[ci]? = some (C, T, N) ∧ (T j).2.2.2 = false ∧ (T j).2.2.1 = "Z"
def sLnk (own : String) (idx t : Nat) : Prop := ∃ q : String × String × List Int32, stt[t]? = some q ∧ (Cond.fieldLink own idx q.1 q.2.1 "[I" ∈ gw_tbl ∨ ∃ host, Cond.fieldLinkNest own idx q.1 q.2.1 "[I" host = nwW)
def cB (own : String) (idx : Nat) (M' : Mt) (n : Nat) : Prop := Cond.methodLink own idx M'.1 ∈ gw_tbl ∧ Cond.initialized M'.1.cls ∈ gw_tbl ∧ Cond.code M'.1 M'.2.1 M'.2.2.1 M'.2.2.2 ∈ gw_tbl ∧ (M'.1.cls ≠ "java/lang/invoke/MethodHandle" ∧ M'.1.cls ≠ "java/lang/invoke/VarHandle" ∧ (parseMethodDescriptor M'.1.desc).map (fun d => d.parameters.length) = some n) ∧ M'.2.2.1 ≤ 40
def cV (own : String) (idx : Nat) (M' : Mt) (n : Nat) : Prop := cB own idx M' n ∧ Cond.instanceMethod M'.1 ∈ gw_tbl ∧ Cond.selects M'.1.cls M'.1 M'.1 ∈ gw_tbl
def cS (own : String) (idx : Nat) (M' : Mt) (n : Nat) : Prop := cB own idx M' n ∧ Cond.static M'.1 ∈ gw_tbl
