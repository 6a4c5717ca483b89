abbrev rm_Gr_term : Room := { frames := 6, cells := 1, slots := 6, locals := 94 }
def p_Gr_term (x1 : Int32) (x2 : Int32) (x3 : Int32) (te : Te) (Q : Int32 → Te → Prop) (X : String → Te → Prop) : Prop :=
  p_Te_canStand x1 x2 x3 te (fun r7 => ((¬ r7 = 0 → p_Te_findOrAppend x1 x2 x3 te (fun r28 te28 => ((¬ r28 = (-1 : Int32) → Q r28 te28) ∧
      (r28 = (-1 : Int32) → X xIS te28)))) ∧
    (r7 = 0 → X xIA te)))

abbrev rm_Gr_rule : Room := { frames := 6, cells := 1, slots := 6, locals := 81 }
def p_Gr_rule (x1 : Int32) (x2 : Int32) (te : Te) (ru : Ru) (Q : Int32 → Ru → Prop) (X : String → Ru → Prop) : Prop :=
  p_Te_isMade x1 te (fun r5 => ((r5 = 0 → X xIA ru) ∧
    (¬ r5 = 0 → p_Te_isMade x2 te (fun r16 => ((r16 = 0 → X xIA ru) ∧
      (¬ r16 = 0 → ((¬ x1 = x2 → p_Ru_append x1 x2 ru (fun r41 ru41 => ((¬ r41 = (-1 : Int32) → Q r41 ru41) ∧
          (r41 = (-1 : Int32) → X xIS ru41)))) ∧
        (x1 = x2 → X xIA ru))))))))

abbrev rm_Gr_edge : Room := { frames := 6, cells := 1, slots := 6, locals := 81 }
def p_Gr_edge (x1 : Int32) (x2 : Int32) (x3 : Int32) (x4 : Int32) (te : Te) (au : Au) (Q : Int32 → Au → Prop) (X : String → Au → Prop) : Prop :=
  p_Au_canStand x1 x2 x3 x4 te (fun r9 => ((¬ r9 = 0 → p_Au_holds x1 x2 x3 x4 te au (fun r32 => ((r32 = 0 → p_Au_append x1 x2 x3 x4 te au (fun r49 au49 => ((¬ r49 = 0 → Q (1 : Int32) au49) ∧
        (r49 = 0 → X xIS au49)))) ∧
      (¬ r32 = 0 → Q (0 : Int32) au)))) ∧
    (r9 = 0 → X xIA au)))

abbrev rm_Gr_reaches : Room := { frames := 6, cells := 1, slots := 6, locals := 114 }
def p_Gr_reaches (x1 : Int32) (x2 : Int32) (te : Te) (ru : Ru) (re : Re) (Q : Int32 → Re → Prop) (X : String → Re → Prop) : Prop :=
  p_Te_isMade x1 te (fun r5 => ((r5 = 0 → X xIA re) ∧
    (¬ r5 = 0 → p_Te_isMade x2 te (fun r16 => ((¬ r16 = 0 → p_Re_renew te ru re (fun re34 => p_Re_leads x1 x2 re34 (fun r43 => (isB r43 ∧ Q r43 re34)))) ∧
      (r16 = 0 → X xIA re))))))

abbrev rm_Gr_meet : Room := { frames := 6, cells := 1, slots := 6, locals := 116 }
def p_Gr_meet (x1 : Int32) (x2 : Int32) (te : Te) (ru : Ru) (re : Re) (Q : Int32 → Re → Prop) (X : String → Re → Prop) : Prop :=
  p_Te_isMade x1 te (fun r5 => ((r5 = 0 → X xIA re) ∧
    (¬ r5 = 0 → p_Te_isMade x2 te (fun r16 => ((¬ r16 = 0 → p_Re_renew te ru re (fun re34 => p_Re_joins x1 x2 te re34 (fun r43 re43 => (isB r43 ∧ Q r43 re43)))) ∧
      (r16 = 0 → X xIA re))))))

abbrev rm_Gr_has : Room := { frames := 6, cells := 1, slots := 6, locals := 81 }
def p_Gr_has (x1 : Int32) (te : Te) (au : Au) (la : La) (Q : Int32 → La → Prop) (X : String → La → Prop) : Prop :=
  p_Te_isMade x1 te (fun r5 => ((¬ r5 = 0 → p_La_statesAt x1 te au la (fun r28 la28 => p_Au_anyFinal r28 au (fun r31 => (isB r31 ∧ Q r31 la28)))) ∧
    (r5 = 0 → X xIA la)))

abbrev rm_Gr_from : Room := { frames := 6, cells := 1, slots := 6, locals := 114 }
def p_Gr_from (x1 : Int32) (te : Te) (ru : Ru) (au : Au) (re : Re) (la : La) (Q : Int32 → Re → La → Prop) (X : String → Re → La → Prop) : Prop :=
  p_Te_isMade x1 te (fun r5 => ((¬ r5 = 0 → p_Re_renew te ru re (fun re23 => p_La_statesBefore x1 te au re23 la (fun r35 la35 => p_Au_anyFinal r35 au (fun r38 => (isB r38 ∧ Q r38 re23 la35))))) ∧
    (r5 = 0 → X xIA re la)))

abbrev rm_Gr_into : Room := { frames := 6, cells := 1, slots := 6, locals := 114 }
def p_Gr_into (x1 : Int32) (te : Te) (ru : Ru) (au : Au) (re : Re) (la : La) (Q : Int32 → Re → La → Prop) (X : String → Re → La → Prop) : Prop :=
  p_Te_isMade x1 te (fun r5 => ((¬ r5 = 0 → p_Re_renew te ru re (fun re23 => p_La_statesBehind x1 te au re23 la (fun r35 la35 => p_Au_anyFinal r35 au (fun r38 => (isB r38 ∧ Q r38 re23 la35))))) ∧
    (r5 = 0 → X xIA re la)))

abbrev rm_Gr_least : Room := { frames := 6, cells := 1, slots := 6, locals := 114 }
def p_Gr_least (x1 : Int32) (te : Te) (ru : Ru) (re : Re) (Q : Int32 → Re → Prop) (X : String → Re → Prop) : Prop :=
  p_Te_isMade x1 te (fun r5 => ((¬ r5 = 0 → p_Re_renew te ru re (fun re23 => p_Re_leastSize x1 te re23 (fun r31 re31 => Q r31 re31))) ∧
    (r5 = 0 → X xIA re)))

abbrev rm_Gr_lightest : Room := { frames := 6, cells := 1, slots := 6, locals := 81 }
def p_Gr_lightest (x1 : Int32) (te : Te) (au : Au) (Q : Int32 → Au → Prop) (X : String → Au → Prop) : Prop :=
  p_Gr_isState x1 (fun r1 => ((¬ r1 = 0 → p_Au_leastSize x1 te au (fun r20 au20 => Q r20 au20)) ∧
    (r1 = 0 → X xIA au)))

abbrev rm_Gr_step : Room := { frames := 6, cells := 1, slots := 6, locals := 149 }
def p_Gr_step (x1 : Int32) (x2 : Int32) (te : Te) (ru : Ru) (sp : Sp) (Q : Int32 → Te → Sp → Prop) (X : String → Te → Sp → Prop) : Prop :=
  p_Te_isMade x1 te (fun r5 => ((r5 = 0 → X xIB te sp) ∧
    (¬ r5 = 0 → ((x2 < 0 → X xIB te sp) ∧
      (¬ x2 < 0 → (((999 : Int32) < x2 → X xIB te sp) ∧
        (¬ (999 : Int32) < x2 → p_Sp_countOf x1 te ru sp (fun r28 sp28 => ((x2 < r28 → p_Sp_targetOf x1 x2 te ru sp28 (fun r48 te48 sp48 => ((¬ r48 = (-1 : Int32) → Q r48 te48 sp48) ∧
            (r48 = (-1 : Int32) → X xIS te48 sp48)))) ∧
          (¬ x2 < r28 → X xIB te sp28))))))))))

abbrev rm_Gr_distance : Room := { frames := 7, cells := 1, slots := 6, locals := 171 }
def p_Gr_distance (x1 : Int32) (x2 : Int32) (te : Te) (ru : Ru) (re : Re) (le : Le) (Q : Int32 → Te → Re → Le → Prop) (X : String → Te → Re → Le → Prop) : Prop :=
  p_Te_isMade x1 te (fun r5 => ((r5 = 0 → X xIA te re le) ∧
    (¬ r5 = 0 → p_Te_isMade x2 te (fun r16 => ((¬ r16 = 0 → p_Re_renew te ru re (fun re34 => p_Re_leads x1 x2 re34 (fun r43 => ((r43 = 0 → Q (-1 : Int32) te re34 le) ∧
        (¬ r43 = 0 → p_Le_levelOf x1 x2 te ru le (fun r55 te55 le55 => Q r55 te55 re34 le55)))))) ∧
      (r16 = 0 → X xIA te re le))))))
