def R_Gr : String := "GroundReach"
def F_Gr : u_T := fun k => match k with
  | 0 => ("GroundReach", "terms", "LGroundReach$Terms;", true)
  | 1 => ("GroundReach", "rules", "LGroundReach$Rules;", true)
  | 2 => ("GroundReach", "automaton", "LGroundReach$Automaton;", true)
  | 3 => ("GroundReach", "relations", "LGroundReach$Relations;", true)
  | 4 => ("GroundReach", "languages", "LGroundReach$Languages;", true)
  | 5 => ("GroundReach", "steps", "LGroundReach$Steps;", true)
  | _ => ("GroundReach", "levels", "LGroundReach$Levels;", true)
def t_Gr : Nat → FieldType := fun k => match k with
  | 0 => .object "GroundReach$Terms"
  | 1 => .object "GroundReach$Rules"
  | 2 => .object "GroundReach$Automaton"
  | 3 => .object "GroundReach$Relations"
  | 4 => .object "GroundReach$Languages"
  | 5 => .object "GroundReach$Steps"
  | _ => .object "GroundReach$Levels"
theorem n_Gr : ∀ a, a < 7 → ∀ b, b < 7 → a ≠ b → (F_Gr a).2.1 ≠ (F_Gr b).2.1 := by decide +kernel
theorem t_Gr_ok : ∀ k, k < 7 → parseFieldDescriptor (F_Gr k).2.2.1 = some (t_Gr k) := by decide +kernel
set_option maxRecDepth 20000 in
theorem u_Gr : ∀ w ∈ u_ws R_Gr F_Gr 7, w ∈ gtbl := fun w h => gmem ((goodIn_of (big := lw_tbl) (u_ws R_Gr F_Gr 7) (by decide +kernel)) w h).1 (List.all_eq_true.mp (show (u_ws R_Gr F_Gr 7).all goodWord = true by decide +kernel) w h)
theorem in_Gr : Cond.initialized R_Gr ∈ gtbl := gmem (List.mem_append_right _ (List.mem_of_getElem? (i := 1) (by decide +kernel))) (by decide +kernel)
theorem fl_Gr_terms : Cond.fieldLink R_Gr 14 R_Gr "terms" "LGroundReach$Terms;" ∈ gtbl := gmem (List.mem_append_right _ (List.mem_of_getElem? (i := 225) (by decide +kernel))) (by decide +kernel)
theorem fl_Gr_rules : Cond.fieldLink R_Gr 21 R_Gr "rules" "LGroundReach$Rules;" ∈ gtbl := gmem (List.mem_append_right _ (List.mem_of_getElem? (i := 226) (by decide +kernel))) (by decide +kernel)
theorem fl_Gr_automaton : Cond.fieldLink R_Gr 30 R_Gr "automaton" "LGroundReach$Automaton;" ∈ gtbl := gmem (List.mem_append_right _ (List.mem_of_getElem? (i := 227) (by decide +kernel))) (by decide +kernel)
theorem fl_Gr_relations : Cond.fieldLink R_Gr 39 R_Gr "relations" "LGroundReach$Relations;" ∈ gtbl := gmem (List.mem_append_right _ (List.mem_of_getElem? (i := 228) (by decide +kernel))) (by decide +kernel)
theorem fl_Gr_languages : Cond.fieldLink R_Gr 48 R_Gr "languages" "LGroundReach$Languages;" ∈ gtbl := gmem (List.mem_append_right _ (List.mem_of_getElem? (i := 229) (by decide +kernel))) (by decide +kernel)
theorem fl_Gr_steps : Cond.fieldLink R_Gr 55 R_Gr "steps" "LGroundReach$Steps;" ∈ gtbl := gmem (List.mem_append_right _ (List.mem_of_getElem? (i := 230) (by decide +kernel))) (by decide +kernel)
theorem fl_Gr_levels : Cond.fieldLink R_Gr 62 R_Gr "levels" "LGroundReach$Levels;" ∈ gtbl := gmem (List.mem_append_right _ (List.mem_of_getElem? (i := 231) (by decide +kernel))) (by decide +kernel)
def R_Te : String := "GroundReach$Terms"
def F_Te : u_T := fun k => match k with
  | 0 => ("GroundReach$Terms", "places", "[I", true)
  | 1 => ("GroundReach$Terms", "symbol", "[I", true)
  | 2 => ("GroundReach$Terms", "first", "[I", true)
  | 3 => ("GroundReach$Terms", "second", "[I", true)
  | 4 => ("GroundReach$Terms", "size", "[I", true)
  | 5 => ("GroundReach$Terms", "newestIn", "[I", true)
  | 6 => ("GroundReach$Terms", "olderInBucket", "[I", true)
  | _ => ("GroundReach$Terms", "count", "I", false)
def t_Te : Nat → FieldType := fun k => match k with
  | 0 => .array .int
  | 1 => .array .int
  | 2 => .array .int
  | 3 => .array .int
  | 4 => .array .int
  | 5 => .array .int
  | 6 => .array .int
  | _ => .int
theorem n_Te : ∀ a, a < 8 → ∀ b, b < 8 → a ≠ b → (F_Te a).2.1 ≠ (F_Te b).2.1 := by decide +kernel
theorem t_Te_ok : ∀ k, k < 8 → parseFieldDescriptor (F_Te k).2.2.1 = some (t_Te k) := by decide +kernel
set_option maxRecDepth 20000 in
theorem u_Te : ∀ w ∈ u_ws R_Te F_Te 8, w ∈ gtbl := fun w h => gmem ((goodIn_of (big := lw_tbl) (u_ws R_Te F_Te 8) (by decide +kernel)) w h).1 (List.all_eq_true.mp (show (u_ws R_Te F_Te 8).all goodWord = true by decide +kernel) w h)
theorem in_Te : Cond.initialized R_Te ∈ gtbl := gmem (List.mem_append_right _ (List.mem_of_getElem? (i := 2) (by decide +kernel))) (by decide +kernel)
theorem fl_Te_places : Cond.fieldLink R_Te 9 R_Te "places" "[I" ∈ gtbl := gmem (List.mem_append_right _ (List.mem_of_getElem? (i := 38) (by decide +kernel))) (by decide +kernel)
theorem fl_Te_symbol : Cond.fieldLink R_Te 15 R_Te "symbol" "[I" ∈ gtbl := gmem (List.mem_append_right _ (List.mem_of_getElem? (i := 39) (by decide +kernel))) (by decide +kernel)
theorem fl_Te_first : Cond.fieldLink R_Te 18 R_Te "first" "[I" ∈ gtbl := gmem (List.mem_append_right _ (List.mem_of_getElem? (i := 40) (by decide +kernel))) (by decide +kernel)
theorem fl_Te_second : Cond.fieldLink R_Te 21 R_Te "second" "[I" ∈ gtbl := gmem (List.mem_append_right _ (List.mem_of_getElem? (i := 41) (by decide +kernel))) (by decide +kernel)
theorem fl_Te_size : Cond.fieldLink R_Te 24 R_Te "size" "[I" ∈ gtbl := gmem (List.mem_append_right _ (List.mem_of_getElem? (i := 42) (by decide +kernel))) (by decide +kernel)
theorem fl_Te_newestIn : Cond.fieldLink R_Te 27 R_Te "newestIn" "[I" ∈ gtbl := gmem (List.mem_append_right _ (List.mem_of_getElem? (i := 43) (by decide +kernel))) (by decide +kernel)
theorem fl_Te_olderInBucket : Cond.fieldLink R_Te 30 R_Te "olderInBucket" "[I" ∈ gtbl := gmem (List.mem_append_right _ (List.mem_of_getElem? (i := 44) (by decide +kernel))) (by decide +kernel)
theorem fl_Te_count : Cond.fieldLink R_Te 45 R_Te "count" "I" ∈ gtbl := gmem (List.mem_append_right _ (List.mem_of_getElem? (i := 45) (by decide +kernel))) (by decide +kernel)
def R_Ru : String := "GroundReach$Rules"
def F_Ru : u_T := fun k => match k with
  | 0 => ("GroundReach$Rules", "left", "[I", true)
  | 1 => ("GroundReach$Rules", "right", "[I", true)
  | 2 => ("GroundReach$Rules", "count", "I", false)
  | _ => ("GroundReach$Rules", "changes", "I", false)
def t_Ru : Nat → FieldType := fun k => match k with
  | 0 => .array .int
  | 1 => .array .int
  | 2 => .int
  | _ => .int
theorem n_Ru : ∀ a, a < 4 → ∀ b, b < 4 → a ≠ b → (F_Ru a).2.1 ≠ (F_Ru b).2.1 := by decide +kernel
theorem t_Ru_ok : ∀ k, k < 4 → parseFieldDescriptor (F_Ru k).2.2.1 = some (t_Ru k) := by decide +kernel
set_option maxRecDepth 20000 in
theorem u_Ru : ∀ w ∈ u_ws R_Ru F_Ru 4, w ∈ gtbl := fun w h => gmem ((goodIn_of (big := lw_tbl) (u_ws R_Ru F_Ru 4) (by decide +kernel)) w h).1 (List.all_eq_true.mp (show (u_ws R_Ru F_Ru 4).all goodWord = true by decide +kernel) w h)
theorem in_Ru : Cond.initialized R_Ru ∈ gtbl := gmem (List.mem_append_right _ (List.mem_of_getElem? (i := 5) (by decide +kernel))) (by decide +kernel)
theorem fl_Ru_left : Cond.fieldLink R_Ru 9 R_Ru "left" "[I" ∈ gtbl := gmem (List.mem_append_right _ (List.mem_of_getElem? (i := 70) (by decide +kernel))) (by decide +kernel)
theorem fl_Ru_right : Cond.fieldLink R_Ru 15 R_Ru "right" "[I" ∈ gtbl := gmem (List.mem_append_right _ (List.mem_of_getElem? (i := 71) (by decide +kernel))) (by decide +kernel)
theorem fl_Ru_count : Cond.fieldLink R_Ru 18 R_Ru "count" "I" ∈ gtbl := gmem (List.mem_append_right _ (List.mem_of_getElem? (i := 72) (by decide +kernel))) (by decide +kernel)
theorem fl_Ru_changes : Cond.fieldLink R_Ru 22 R_Ru "changes" "I" ∈ gtbl := gmem (List.mem_append_right _ (List.mem_of_getElem? (i := 73) (by decide +kernel))) (by decide +kernel)
def R_Au : String := "GroundReach$Automaton"
def F_Au : u_T := fun k => match k with
  | 0 => ("GroundReach$Automaton", "terms", "LGroundReach$Terms;", true)
  | 1 => ("GroundReach$Automaton", "symbol", "[I", true)
  | 2 => ("GroundReach$Automaton", "first", "[I", true)
  | 3 => ("GroundReach$Automaton", "second", "[I", true)
  | 4 => ("GroundReach$Automaton", "target", "[I", true)
  | 5 => ("GroundReach$Automaton", "weight", "[I", true)
  | 6 => ("GroundReach$Automaton", "count", "I", false)
  | _ => ("GroundReach$Automaton", "finals", "I", false)
def t_Au : Nat → FieldType := fun k => match k with
  | 0 => .object "GroundReach$Terms"
  | 1 => .array .int
  | 2 => .array .int
  | 3 => .array .int
  | 4 => .array .int
  | 5 => .array .int
  | 6 => .int
  | _ => .int
theorem n_Au : ∀ a, a < 8 → ∀ b, b < 8 → a ≠ b → (F_Au a).2.1 ≠ (F_Au b).2.1 := by decide +kernel
theorem t_Au_ok : ∀ k, k < 8 → parseFieldDescriptor (F_Au k).2.2.1 = some (t_Au k) := by decide +kernel
set_option maxRecDepth 20000 in
theorem u_Au : ∀ w ∈ u_ws R_Au F_Au 8, w ∈ gtbl := fun w h => gmem ((goodIn_of (big := lw_tbl) (u_ws R_Au F_Au 8) (by decide +kernel)) w h).1 (List.all_eq_true.mp (show (u_ws R_Au F_Au 8).all goodWord = true by decide +kernel) w h)
theorem in_Au : Cond.initialized R_Au ∈ gtbl := gmem (List.mem_append_right _ (List.mem_of_getElem? (i := 6) (by decide +kernel))) (by decide +kernel)
theorem fl_Au_terms : Cond.fieldLink R_Au 27 R_Au "terms" "LGroundReach$Terms;" ∈ gtbl := gmem (List.mem_append_right _ (List.mem_of_getElem? (i := 89) (by decide +kernel))) (by decide +kernel)
theorem fl_Au_symbol : Cond.fieldLink R_Au 9 R_Au "symbol" "[I" ∈ gtbl := gmem (List.mem_append_right _ (List.mem_of_getElem? (i := 90) (by decide +kernel))) (by decide +kernel)
theorem fl_Au_first : Cond.fieldLink R_Au 15 R_Au "first" "[I" ∈ gtbl := gmem (List.mem_append_right _ (List.mem_of_getElem? (i := 91) (by decide +kernel))) (by decide +kernel)
theorem fl_Au_second : Cond.fieldLink R_Au 18 R_Au "second" "[I" ∈ gtbl := gmem (List.mem_append_right _ (List.mem_of_getElem? (i := 92) (by decide +kernel))) (by decide +kernel)
theorem fl_Au_target : Cond.fieldLink R_Au 21 R_Au "target" "[I" ∈ gtbl := gmem (List.mem_append_right _ (List.mem_of_getElem? (i := 93) (by decide +kernel))) (by decide +kernel)
theorem fl_Au_weight : Cond.fieldLink R_Au 24 R_Au "weight" "[I" ∈ gtbl := gmem (List.mem_append_right _ (List.mem_of_getElem? (i := 94) (by decide +kernel))) (by decide +kernel)
theorem fl_Au_count : Cond.fieldLink R_Au 31 R_Au "count" "I" ∈ gtbl := gmem (List.mem_append_right _ (List.mem_of_getElem? (i := 95) (by decide +kernel))) (by decide +kernel)
theorem fl_Au_finals : Cond.fieldLink R_Au 35 R_Au "finals" "I" ∈ gtbl := gmem (List.mem_append_right _ (List.mem_of_getElem? (i := 96) (by decide +kernel))) (by decide +kernel)
def R_Re : String := "GroundReach$Relations"
def F_Re : u_T := fun k => match k with
  | 0 => ("GroundReach$Relations", "terms", "LGroundReach$Terms;", true)
  | 1 => ("GroundReach$Relations", "rules", "LGroundReach$Rules;", true)
  | 2 => ("GroundReach$Relations", "reached", "[J", true)
  | 3 => ("GroundReach$Relations", "joined", "[J", true)
  | 4 => ("GroundReach$Relations", "least", "[I", true)
  | 5 => ("GroundReach$Relations", "termsThen", "I", false)
  | 6 => ("GroundReach$Relations", "changesThen", "I", false)
  | _ => ("GroundReach$Relations", "joinedKnown", "Z", false)
def t_Re : Nat → FieldType := fun k => match k with
  | 0 => .object "GroundReach$Terms"
  | 1 => .object "GroundReach$Rules"
  | 2 => .array .long
  | 3 => .array .long
  | 4 => .array .int
  | 5 => .int
  | 6 => .int
  | _ => .boolean
theorem n_Re : ∀ a, a < 8 → ∀ b, b < 8 → a ≠ b → (F_Re a).2.1 ≠ (F_Re b).2.1 := by decide +kernel
theorem t_Re_ok : ∀ k, k < 8 → parseFieldDescriptor (F_Re k).2.2.1 = some (t_Re k) := by decide +kernel
set_option maxRecDepth 20000 in
theorem u_Re : ∀ w ∈ u_ws R_Re F_Re 8, w ∈ gtbl := fun w h => gmem ((goodIn_of (big := lw_tbl) (u_ws R_Re F_Re 8) (by decide +kernel)) w h).1 (List.all_eq_true.mp (show (u_ws R_Re F_Re 8).all goodWord = true by decide +kernel) w h)
theorem in_Re : Cond.initialized R_Re ∈ gtbl := gmem (List.mem_append_right _ (List.mem_of_getElem? (i := 7) (by decide +kernel))) (by decide +kernel)
theorem fl_Re_terms : Cond.fieldLink R_Re 29 R_Re "terms" "LGroundReach$Terms;" ∈ gtbl := gmem (List.mem_append_right _ (List.mem_of_getElem? (i := 120) (by decide +kernel))) (by decide +kernel)
theorem fl_Re_rules : Cond.fieldLink R_Re 33 R_Re "rules" "LGroundReach$Rules;" ∈ gtbl := gmem (List.mem_append_right _ (List.mem_of_getElem? (i := 121) (by decide +kernel))) (by decide +kernel)
theorem fl_Re_reached : Cond.fieldLink R_Re 9 R_Re "reached" "[J" ∈ gtbl := gmem (List.mem_append_right _ (List.mem_of_getElem? (i := 122) (by decide +kernel))) (by decide +kernel)
theorem fl_Re_joined : Cond.fieldLink R_Re 15 R_Re "joined" "[J" ∈ gtbl := gmem (List.mem_append_right _ (List.mem_of_getElem? (i := 123) (by decide +kernel))) (by decide +kernel)
theorem fl_Re_least : Cond.fieldLink R_Re 18 R_Re "least" "[I" ∈ gtbl := gmem (List.mem_append_right _ (List.mem_of_getElem? (i := 124) (by decide +kernel))) (by decide +kernel)
theorem fl_Re_termsThen : Cond.fieldLink R_Re 22 R_Re "termsThen" "I" ∈ gtbl := gmem (List.mem_append_right _ (List.mem_of_getElem? (i := 125) (by decide +kernel))) (by decide +kernel)
theorem fl_Re_changesThen : Cond.fieldLink R_Re 26 R_Re "changesThen" "I" ∈ gtbl := gmem (List.mem_append_right _ (List.mem_of_getElem? (i := 126) (by decide +kernel))) (by decide +kernel)
theorem fl_Re_joinedKnown : Cond.fieldLink R_Re 48 R_Re "joinedKnown" "Z" ∈ gtbl := gmem (List.mem_append_right _ (List.mem_of_getElem? (i := 127) (by decide +kernel))) (by decide +kernel)
def R_La : String := "GroundReach$Languages"
def F_La : u_T := fun k => match k with
  | 0 => ("GroundReach$Languages", "terms", "LGroundReach$Terms;", true)
  | 1 => ("GroundReach$Languages", "automaton", "LGroundReach$Automaton;", true)
  | 2 => ("GroundReach$Languages", "relations", "LGroundReach$Relations;", true)
  | _ => ("GroundReach$Languages", "states", "[I", true)
def t_La : Nat → FieldType := fun k => match k with
  | 0 => .object "GroundReach$Terms"
  | 1 => .object "GroundReach$Automaton"
  | 2 => .object "GroundReach$Relations"
  | _ => .array .int
theorem n_La : ∀ a, a < 4 → ∀ b, b < 4 → a ≠ b → (F_La a).2.1 ≠ (F_La b).2.1 := by decide +kernel
theorem t_La_ok : ∀ k, k < 4 → parseFieldDescriptor (F_La k).2.2.1 = some (t_La k) := by decide +kernel
set_option maxRecDepth 20000 in
theorem u_La : ∀ w ∈ u_ws R_La F_La 4, w ∈ gtbl := fun w h => gmem ((goodIn_of (big := lw_tbl) (u_ws R_La F_La 4) (by decide +kernel)) w h).1 (List.all_eq_true.mp (show (u_ws R_La F_La 4).all goodWord = true by decide +kernel) w h)
theorem in_La : Cond.initialized R_La ∈ gtbl := gmem (List.mem_append_right _ (List.mem_of_getElem? (i := 8) (by decide +kernel))) (by decide +kernel)
theorem fl_La_terms : Cond.fieldLink R_La 15 R_La "terms" "LGroundReach$Terms;" ∈ gtbl := gmem (List.mem_append_right _ (List.mem_of_getElem? (i := 152) (by decide +kernel))) (by decide +kernel)
theorem fl_La_automaton : Cond.fieldLink R_La 19 R_La "automaton" "LGroundReach$Automaton;" ∈ gtbl := gmem (List.mem_append_right _ (List.mem_of_getElem? (i := 153) (by decide +kernel))) (by decide +kernel)
theorem fl_La_relations : Cond.fieldLink R_La 23 R_La "relations" "LGroundReach$Relations;" ∈ gtbl := gmem (List.mem_append_right _ (List.mem_of_getElem? (i := 154) (by decide +kernel))) (by decide +kernel)
theorem fl_La_states : Cond.fieldLink R_La 9 R_La "states" "[I" ∈ gtbl := gmem (List.mem_append_right _ (List.mem_of_getElem? (i := 155) (by decide +kernel))) (by decide +kernel)
def R_Sp : String := "GroundReach$Steps"
def F_Sp : u_T := fun k => match k with
  | 0 => ("GroundReach$Steps", "terms", "LGroundReach$Terms;", true)
  | 1 => ("GroundReach$Steps", "rules", "LGroundReach$Rules;", true)
  | 2 => ("GroundReach$Steps", "counts", "[J", true)
  | 3 => ("GroundReach$Steps", "path", "[I", true)
  | _ => ("GroundReach$Steps", "wentFirst", "[Z", true)
def t_Sp : Nat → FieldType := fun k => match k with
  | 0 => .object "GroundReach$Terms"
  | 1 => .object "GroundReach$Rules"
  | 2 => .array .long
  | 3 => .array .int
  | _ => .array .boolean
theorem n_Sp : ∀ a, a < 5 → ∀ b, b < 5 → a ≠ b → (F_Sp a).2.1 ≠ (F_Sp b).2.1 := by decide +kernel
theorem t_Sp_ok : ∀ k, k < 5 → parseFieldDescriptor (F_Sp k).2.2.1 = some (t_Sp k) := by decide +kernel
set_option maxRecDepth 20000 in
theorem u_Sp : ∀ w ∈ u_ws R_Sp F_Sp 5, w ∈ gtbl := fun w h => gmem ((goodIn_of (big := lw_tbl) (u_ws R_Sp F_Sp 5) (by decide +kernel)) w h).1 (List.all_eq_true.mp (show (u_ws R_Sp F_Sp 5).all goodWord = true by decide +kernel) w h)
theorem in_Sp : Cond.initialized R_Sp ∈ gtbl := gmem (List.mem_append_right _ (List.mem_of_getElem? (i := 9) (by decide +kernel))) (by decide +kernel)
theorem fl_Sp_terms : Cond.fieldLink R_Sp 23 R_Sp "terms" "LGroundReach$Terms;" ∈ gtbl := gmem (List.mem_append_right _ (List.mem_of_getElem? (i := 171) (by decide +kernel))) (by decide +kernel)
theorem fl_Sp_rules : Cond.fieldLink R_Sp 27 R_Sp "rules" "LGroundReach$Rules;" ∈ gtbl := gmem (List.mem_append_right _ (List.mem_of_getElem? (i := 172) (by decide +kernel))) (by decide +kernel)
theorem fl_Sp_counts : Cond.fieldLink R_Sp 9 R_Sp "counts" "[J" ∈ gtbl := gmem (List.mem_append_right _ (List.mem_of_getElem? (i := 173) (by decide +kernel))) (by decide +kernel)
theorem fl_Sp_path : Cond.fieldLink R_Sp 15 R_Sp "path" "[I" ∈ gtbl := gmem (List.mem_append_right _ (List.mem_of_getElem? (i := 174) (by decide +kernel))) (by decide +kernel)
theorem fl_Sp_wentFirst : Cond.fieldLink R_Sp 19 R_Sp "wentFirst" "[Z" ∈ gtbl := gmem (List.mem_append_right _ (List.mem_of_getElem? (i := 175) (by decide +kernel))) (by decide +kernel)
def R_Le : String := "GroundReach$Levels"
def F_Le : u_T := fun k => match k with
  | 0 => ("GroundReach$Levels", "terms", "LGroundReach$Terms;", true)
  | 1 => ("GroundReach$Levels", "rules", "LGroundReach$Rules;", true)
  | 2 => ("GroundReach$Levels", "after", "[J", true)
  | 3 => ("GroundReach$Levels", "counted", "[Z", true)
  | 4 => ("GroundReach$Levels", "expanded", "[Z", true)
  | 5 => ("GroundReach$Levels", "inLevels", "[J", true)
  | 6 => ("GroundReach$Levels", "newest", "[J", true)
  | 7 => ("GroundReach$Levels", "coming", "[J", true)
  | 8 => ("GroundReach$Levels", "waiting", "[I", true)
  | _ => ("GroundReach$Levels", "countedTerms", "I", false)
def t_Le : Nat → FieldType := fun k => match k with
  | 0 => .object "GroundReach$Terms"
  | 1 => .object "GroundReach$Rules"
  | 2 => .array .long
  | 3 => .array .boolean
  | 4 => .array .boolean
  | 5 => .array .long
  | 6 => .array .long
  | 7 => .array .long
  | 8 => .array .int
  | _ => .int
theorem n_Le : ∀ a, a < 10 → ∀ b, b < 10 → a ≠ b → (F_Le a).2.1 ≠ (F_Le b).2.1 := by decide +kernel
theorem t_Le_ok : ∀ k, k < 10 → parseFieldDescriptor (F_Le k).2.2.1 = some (t_Le k) := by decide +kernel
set_option maxRecDepth 20000 in
theorem u_Le : ∀ w ∈ u_ws R_Le F_Le 10, w ∈ gtbl := fun w h => gmem ((goodIn_of (big := lw_tbl) (u_ws R_Le F_Le 10) (by decide +kernel)) w h).1 (List.all_eq_true.mp (show (u_ws R_Le F_Le 10).all goodWord = true by decide +kernel) w h)
theorem in_Le : Cond.initialized R_Le ∈ gtbl := gmem (List.mem_append_right _ (List.mem_of_getElem? (i := 10) (by decide +kernel))) (by decide +kernel)
theorem fl_Le_terms : Cond.fieldLink R_Le 35 R_Le "terms" "LGroundReach$Terms;" ∈ gtbl := gmem (List.mem_append_right _ (List.mem_of_getElem? (i := 194) (by decide +kernel))) (by decide +kernel)
theorem fl_Le_rules : Cond.fieldLink R_Le 39 R_Le "rules" "LGroundReach$Rules;" ∈ gtbl := gmem (List.mem_append_right _ (List.mem_of_getElem? (i := 195) (by decide +kernel))) (by decide +kernel)
theorem fl_Le_after : Cond.fieldLink R_Le 11 R_Le "after" "[J" ∈ gtbl := gmem (List.mem_append_right _ (List.mem_of_getElem? (i := 196) (by decide +kernel))) (by decide +kernel)
theorem fl_Le_counted : Cond.fieldLink R_Le 15 R_Le "counted" "[Z" ∈ gtbl := gmem (List.mem_append_right _ (List.mem_of_getElem? (i := 197) (by decide +kernel))) (by decide +kernel)
theorem fl_Le_expanded : Cond.fieldLink R_Le 19 R_Le "expanded" "[Z" ∈ gtbl := gmem (List.mem_append_right _ (List.mem_of_getElem? (i := 198) (by decide +kernel))) (by decide +kernel)
theorem fl_Le_inLevels : Cond.fieldLink R_Le 22 R_Le "inLevels" "[J" ∈ gtbl := gmem (List.mem_append_right _ (List.mem_of_getElem? (i := 199) (by decide +kernel))) (by decide +kernel)
theorem fl_Le_newest : Cond.fieldLink R_Le 25 R_Le "newest" "[J" ∈ gtbl := gmem (List.mem_append_right _ (List.mem_of_getElem? (i := 200) (by decide +kernel))) (by decide +kernel)
theorem fl_Le_coming : Cond.fieldLink R_Le 28 R_Le "coming" "[J" ∈ gtbl := gmem (List.mem_append_right _ (List.mem_of_getElem? (i := 201) (by decide +kernel))) (by decide +kernel)
theorem fl_Le_waiting : Cond.fieldLink R_Le 31 R_Le "waiting" "[I" ∈ gtbl := gmem (List.mem_append_right _ (List.mem_of_getElem? (i := 202) (by decide +kernel))) (by decide +kernel)
theorem fl_Le_countedTerms : Cond.fieldLink R_Le 53 R_Le "countedTerms" "I" ∈ gtbl := gmem (List.mem_append_right _ (List.mem_of_getElem? (i := 203) (by decide +kernel))) (by decide +kernel)
def R_Mo : String := "GroundReachModel"
def F_Mo : u_T := fun k => match k with
  | 0 => ("GroundReachModel", "thrown", "I", false)
  | 1 => ("GroundReachModel", "places", "[I", true)
  | 2 => ("GroundReachModel", "symbol", "[I", true)
  | 3 => ("GroundReachModel", "one", "[I", true)
  | 4 => ("GroundReachModel", "two", "[I", true)
  | 5 => ("GroundReachModel", "count", "I", false)
  | 6 => ("GroundReachModel", "rules", "I", false)
  | 7 => ("GroundReachModel", "left", "[I", true)
  | 8 => ("GroundReachModel", "right", "[I", true)
  | 9 => ("GroundReachModel", "edges", "I", false)
  | 10 => ("GroundReachModel", "edge", "[I", true)
  | 11 => ("GroundReachModel", "finals", "I", false)
  | 12 => ("GroundReachModel", "goes", "[Z", true)
  | 13 => ("GroundReachModel", "joins", "[Z", true)
  | 14 => ("GroundReachModel", "states", "[Z", true)
  | 15 => ("GroundReachModel", "light", "[I", true)
  | 16 => ("GroundReachModel", "stateLight", "[I", true)
  | 17 => ("GroundReachModel", "stored", "I", false)
  | 18 => ("GroundReachModel", "different", "I", false)
  | 19 => ("GroundReachModel", "marked", "[Z", true)
  | 20 => ("GroundReachModel", "came", "[Z", true)
  | 21 => ("GroundReachModel", "level", "[I", true)
  | 22 => ("GroundReachModel", "many", "[I", true)
  | 23 => ("GroundReachModel", "open", "[I", true)
  | 24 => ("GroundReachModel", "path", "[I", true)
  | _ => ("GroundReachModel", "side", "[I", true)
def t_Mo : Nat → FieldType := fun k => match k with
  | 0 => .int
  | 1 => .array .int
  | 2 => .array .int
  | 3 => .array .int
  | 4 => .array .int
  | 5 => .int
  | 6 => .int
  | 7 => .array .int
  | 8 => .array .int
  | 9 => .int
  | 10 => .array .int
  | 11 => .int
  | 12 => .array .boolean
  | 13 => .array .boolean
  | 14 => .array .boolean
  | 15 => .array .int
  | 16 => .array .int
  | 17 => .int
  | 18 => .int
  | 19 => .array .boolean
  | 20 => .array .boolean
  | 21 => .array .int
  | 22 => .array .int
  | 23 => .array .int
  | 24 => .array .int
  | _ => .array .int
theorem n_Mo : ∀ a, a < 26 → ∀ b, b < 26 → a ≠ b → (F_Mo a).2.1 ≠ (F_Mo b).2.1 := by decide +kernel
theorem t_Mo_ok : ∀ k, k < 26 → parseFieldDescriptor (F_Mo k).2.2.1 = some (t_Mo k) := by decide +kernel
set_option maxRecDepth 20000 in
theorem u_Mo : ∀ w ∈ u_ws R_Mo F_Mo 26, w ∈ gtbl := fun w h => gmem ((goodIn_of (big := lw_tbl) (u_ws R_Mo F_Mo 26) (by decide +kernel)) w h).1 (List.all_eq_true.mp (show (u_ws R_Mo F_Mo 26).all goodWord = true by decide +kernel) w h)
theorem in_Mo : Cond.initialized R_Mo ∈ gtbl := gmem (List.mem_append_right _ (List.mem_of_getElem? (i := 11) (by decide +kernel))) (by decide +kernel)
theorem fl_Mo_thrown : Cond.fieldLink R_Mo 68 R_Mo "thrown" "I" ∈ gtbl := gmem (List.mem_append_right _ (List.mem_of_getElem? (i := 769) (by decide +kernel))) (by decide +kernel)
theorem fl_Mo_places : Cond.fieldLink R_Mo 7 R_Mo "places" "[I" ∈ gtbl := gmem (List.mem_append_right _ (List.mem_of_getElem? (i := 770) (by decide +kernel))) (by decide +kernel)
theorem fl_Mo_symbol : Cond.fieldLink R_Mo 13 R_Mo "symbol" "[I" ∈ gtbl := gmem (List.mem_append_right _ (List.mem_of_getElem? (i := 771) (by decide +kernel))) (by decide +kernel)
theorem fl_Mo_one : Cond.fieldLink R_Mo 16 R_Mo "one" "[I" ∈ gtbl := gmem (List.mem_append_right _ (List.mem_of_getElem? (i := 772) (by decide +kernel))) (by decide +kernel)
theorem fl_Mo_two : Cond.fieldLink R_Mo 19 R_Mo "two" "[I" ∈ gtbl := gmem (List.mem_append_right _ (List.mem_of_getElem? (i := 773) (by decide +kernel))) (by decide +kernel)
theorem fl_Mo_count : Cond.fieldLink R_Mo 72 R_Mo "count" "I" ∈ gtbl := gmem (List.mem_append_right _ (List.mem_of_getElem? (i := 774) (by decide +kernel))) (by decide +kernel)
theorem fl_Mo_rules : Cond.fieldLink R_Mo 93 R_Mo "rules" "I" ∈ gtbl := gmem (List.mem_append_right _ (List.mem_of_getElem? (i := 775) (by decide +kernel))) (by decide +kernel)
theorem fl_Mo_left : Cond.fieldLink R_Mo 22 R_Mo "left" "[I" ∈ gtbl := gmem (List.mem_append_right _ (List.mem_of_getElem? (i := 776) (by decide +kernel))) (by decide +kernel)
theorem fl_Mo_right : Cond.fieldLink R_Mo 25 R_Mo "right" "[I" ∈ gtbl := gmem (List.mem_append_right _ (List.mem_of_getElem? (i := 777) (by decide +kernel))) (by decide +kernel)
theorem fl_Mo_edges : Cond.fieldLink R_Mo 109 R_Mo "edges" "I" ∈ gtbl := gmem (List.mem_append_right _ (List.mem_of_getElem? (i := 778) (by decide +kernel))) (by decide +kernel)
theorem fl_Mo_edge : Cond.fieldLink R_Mo 28 R_Mo "edge" "[I" ∈ gtbl := gmem (List.mem_append_right _ (List.mem_of_getElem? (i := 779) (by decide +kernel))) (by decide +kernel)
theorem fl_Mo_finals : Cond.fieldLink R_Mo 112 R_Mo "finals" "I" ∈ gtbl := gmem (List.mem_append_right _ (List.mem_of_getElem? (i := 780) (by decide +kernel))) (by decide +kernel)
theorem fl_Mo_goes : Cond.fieldLink R_Mo 31 R_Mo "goes" "[Z" ∈ gtbl := gmem (List.mem_append_right _ (List.mem_of_getElem? (i := 781) (by decide +kernel))) (by decide +kernel)
theorem fl_Mo_joins : Cond.fieldLink R_Mo 35 R_Mo "joins" "[Z" ∈ gtbl := gmem (List.mem_append_right _ (List.mem_of_getElem? (i := 782) (by decide +kernel))) (by decide +kernel)
theorem fl_Mo_states : Cond.fieldLink R_Mo 38 R_Mo "states" "[Z" ∈ gtbl := gmem (List.mem_append_right _ (List.mem_of_getElem? (i := 783) (by decide +kernel))) (by decide +kernel)
theorem fl_Mo_light : Cond.fieldLink R_Mo 41 R_Mo "light" "[I" ∈ gtbl := gmem (List.mem_append_right _ (List.mem_of_getElem? (i := 784) (by decide +kernel))) (by decide +kernel)
theorem fl_Mo_stateLight : Cond.fieldLink R_Mo 44 R_Mo "stateLight" "[I" ∈ gtbl := gmem (List.mem_append_right _ (List.mem_of_getElem? (i := 785) (by decide +kernel))) (by decide +kernel)
theorem fl_Mo_stored : Cond.fieldLink R_Mo 151 R_Mo "stored" "I" ∈ gtbl := gmem (List.mem_append_right _ (List.mem_of_getElem? (i := 786) (by decide +kernel))) (by decide +kernel)
theorem fl_Mo_different : Cond.fieldLink R_Mo 157 R_Mo "different" "I" ∈ gtbl := gmem (List.mem_append_right _ (List.mem_of_getElem? (i := 787) (by decide +kernel))) (by decide +kernel)
theorem fl_Mo_marked : Cond.fieldLink R_Mo 47 R_Mo "marked" "[Z" ∈ gtbl := gmem (List.mem_append_right _ (List.mem_of_getElem? (i := 788) (by decide +kernel))) (by decide +kernel)
theorem fl_Mo_came : Cond.fieldLink R_Mo 50 R_Mo "came" "[Z" ∈ gtbl := gmem (List.mem_append_right _ (List.mem_of_getElem? (i := 789) (by decide +kernel))) (by decide +kernel)
theorem fl_Mo_level : Cond.fieldLink R_Mo 53 R_Mo "level" "[I" ∈ gtbl := gmem (List.mem_append_right _ (List.mem_of_getElem? (i := 790) (by decide +kernel))) (by decide +kernel)
theorem fl_Mo_many : Cond.fieldLink R_Mo 56 R_Mo "many" "[I" ∈ gtbl := gmem (List.mem_append_right _ (List.mem_of_getElem? (i := 791) (by decide +kernel))) (by decide +kernel)
theorem fl_Mo_open : Cond.fieldLink R_Mo 59 R_Mo "open" "[I" ∈ gtbl := gmem (List.mem_append_right _ (List.mem_of_getElem? (i := 792) (by decide +kernel))) (by decide +kernel)
theorem fl_Mo_path : Cond.fieldLink R_Mo 62 R_Mo "path" "[I" ∈ gtbl := gmem (List.mem_append_right _ (List.mem_of_getElem? (i := 793) (by decide +kernel))) (by decide +kernel)
theorem fl_Mo_side : Cond.fieldLink R_Mo 65 R_Mo "side" "[I" ∈ gtbl := gmem (List.mem_append_right _ (List.mem_of_getElem? (i := 794) (by decide +kernel))) (by decide +kernel)
def R_Ar : String := "java/util/Arrays"
theorem in_Ar : Cond.initialized R_Ar ∈ gtbl := gmem (List.mem_append_right _ (List.mem_of_getElem? (i := 4) (by decide +kernel))) (by decide +kernel)
def R_Ma : String := "java/lang/Math"
theorem in_Ma : Cond.initialized R_Ma ∈ gtbl := gmem (List.mem_append_right _ (List.mem_of_getElem? (i := 3) (by decide +kernel))) (by decide +kernel)
def R_Lw : String := "GroundReachLaw"
theorem in_Lw : Cond.initialized R_Lw ∈ gtbl := gmem (List.mem_append_right _ (List.mem_of_getElem? (i := 0) (by decide +kernel))) (by decide +kernel)
abbrev classes : List vw_C := [(R_Gr, F_Gr, 7), (R_Te, F_Te, 8), (R_Ru, F_Ru, 4), (R_Au, F_Au, 8), (R_Re, F_Re, 8), (R_La, F_La, 4), (R_Sp, F_Sp, 5), (R_Le, F_Le, 10), (R_Mo, F_Mo, 26)]
