abbrev rm_Te_isMade : Room := { frames := 0, cells := 0, slots := 0, locals := 0 }
def p_Te_isMade (x1 : Int32) (te : Te) (Q : Int32 → Prop) : Prop :=
  ((x1 < 0 → Q (0 : Int32)) ∧
    (¬ x1 < 0 → (((Te_count te) ≤ x1 → Q (0 : Int32)) ∧
      (¬ (Te_count te) ≤ x1 → Q (1 : Int32)))))

abbrev rm_Te_count : Room := { frames := 0, cells := 0, slots := 0, locals := 0 }
def p_Te_count  (te : Te) (Q : Int32 → Prop) : Prop :=
  Q (Te_count te)

abbrev rm_Ru_countAt : Room := { frames := 0, cells := 0, slots := 0, locals := 0 }
def p_Ru_countAt_4 (x1 : Int32) (ru : Ru) (Q : Int32 → Prop) : Nat → Int32 → Int32 → Prop
  | 0, _, _ => False
  | n + 1, x2, x3 => (((Ru_count ru) ≤ x3 → Q x2) ∧
    (¬ (Ru_count ru) ≤ x3 → (vp_in x3 8 ∧ ((¬ (Ru_left ru x3.toNatClampNeg) = x1 → p_Ru_countAt_4 x1 ru Q n x2 (x3 + (1 : Int32))) ∧
      ((Ru_left ru x3.toNatClampNeg) = x1 → p_Ru_countAt_4 x1 ru Q n (x2 + (1 : Int32)) (x3 + (1 : Int32)))))))
def p_Ru_countAt (x1 : Int32) (ru : Ru) (Q : Int32 → Prop) : Prop :=
  (∃ f, p_Ru_countAt_4 x1 ru Q f (0 : Int32) (0 : Int32))

abbrev rm_Te_firstOf : Room := { frames := 0, cells := 0, slots := 0, locals := 0 }
def p_Te_firstOf (x1 : Int32) (te : Te) (Q : Int32 → Prop) : Prop :=
  (vp_in x1 448 ∧ Q (Te_first te x1.toNatClampNeg))

abbrev rm_Sp_countIn : Room := { frames := 0, cells := 0, slots := 0, locals := 0 }
def p_Sp_countIn (x1 : Int32) (sp : Sp) (Q : Int64 → Prop) : Prop :=
  ((¬ x1 = (-1 : Int32) → (vp_in x1 48 ∧ Q (Sp_counts sp x1.toNatClampNeg))) ∧
    (x1 = (-1 : Int32) → Q (0 : Int64)))

abbrev rm_Te_secondOf : Room := { frames := 0, cells := 0, slots := 0, locals := 0 }
def p_Te_secondOf (x1 : Int32) (te : Te) (Q : Int32 → Prop) : Prop :=
  (vp_in x1 448 ∧ Q (Te_second te x1.toNatClampNeg))

abbrev rm_Sp_countAll : Room := { frames := 1, cells := 0, slots := 0, locals := 23 }
def p_Sp_countAll_2 (te : Te) (ru : Ru) (Q : Sp → Prop) : Nat → Int32 → Sp → Prop
  | 0, _, _ => False
  | n + 1, x1, sp => p_Te_count te (fun r7 => ((r7 ≤ x1 → Q sp) ∧
    (¬ r7 ≤ x1 → p_Ru_countAt x1 ru (fun r23 => p_Te_firstOf x1 te (fun r33 => p_Sp_countIn r33 sp (fun r36 => p_Te_secondOf x1 te (fun r46 => p_Sp_countIn r46 sp (fun r49 => (vp_in x1 48 ∧ ∀ sp53 : Sp, sp53 = Sp_counts_s sp (vp_updL (Sp_counts sp) x1.toNatClampNeg ((r23.toInt64 + r36) + r49)) → p_Sp_countAll_2 te ru Q n (x1 + (1 : Int32)) sp53)))))))))
def p_Sp_countAll  (te : Te) (ru : Ru) (sp : Sp) (Q : Sp → Prop) : Prop :=
  (∃ f, p_Sp_countAll_2 te ru Q f (0 : Int32) sp)

abbrev rm_Sp_countOf : Room := { frames := 2, cells := 0, slots := 0, locals := 44 }
def p_Sp_countOf (x1 : Int32) (te : Te) (ru : Ru) (sp : Sp) (Q : Int32 → Sp → Prop) : Prop :=
  p_Sp_countAll te ru sp (fun sp1 => (vp_in x1 48 ∧ Q ((if Sp_counts sp1 x1.toNatClampNeg < (1000000000 : Int64) then Sp_counts sp1 x1.toNatClampNeg else (1000000000 : Int64)).toInt32) sp1))

abbrev rm_Te_sizeOf : Room := { frames := 0, cells := 0, slots := 0, locals := 0 }
def p_Te_sizeOf (x1 : Int32) (te : Te) (Q : Int32 → Prop) : Prop :=
  (vp_in x1 448 ∧ Q (Te_size te x1.toNatClampNeg))

abbrev rm_Te_symbolOf : Room := { frames := 0, cells := 0, slots := 0, locals := 0 }
def p_Te_symbolOf (x1 : Int32) (te : Te) (Q : Int32 → Prop) : Prop :=
  (vp_in x1 448 ∧ Q (Te_symbol te x1.toNatClampNeg))

abbrev rm_Gr_of : Room := { frames := 3, cells := 0, slots := 0, locals := 65 }
def p_Gr_of (x1 : Int32) (x2 : Int32) (te : Te) (ru : Ru) (sp : Sp) (Q : Int32 → Sp → Prop) : Prop :=
  p_Te_isMade x1 te (fun r5 => ((¬ r5 = 0 → (((x2).toInt < 0 ∨ (4 : Int) < (x2).toInt → Q (-1 : Int32) sp) ∧
      (x2 = nI 0 → p_Te_symbolOf x1 te (fun r53 => Q r53 sp)) ∧
      (x2 = nI 1 → p_Te_firstOf x1 te (fun r62 => Q r62 sp)) ∧
      (x2 = nI 2 → p_Te_secondOf x1 te (fun r71 => Q r71 sp)) ∧
      (x2 = nI 3 → p_Te_sizeOf x1 te (fun r80 => Q r80 sp)) ∧
      (x2 = nI 4 → p_Sp_countOf x1 te ru sp (fun r89 sp89 => Q r89 sp89)))) ∧
    (r5 = 0 → Q (-1 : Int32) sp)))

abbrev rm_Ru_dropLast : Room := { frames := 0, cells := 0, slots := 0, locals := 0 }
def p_Ru_dropLast  (ru : Ru) (Q : Int32 → Ru → Prop) : Prop :=
  ((¬ (Ru_count ru) = 0 → (∀ ru16 : Ru, ru16 = Ru_count_s ru ((Ru_count ru) - (1 : Int32)) → (∀ ru26 : Ru, ru26 = Ru_changes_s ru16 ((Ru_changes ru16) + (1 : Int32)) → Q (1 : Int32) ru26))) ∧
    ((Ru_count ru) = 0 → Q (0 : Int32) ru))

abbrev rm_Gr_cut : Room := { frames := 1, cells := 0, slots := 0, locals := 20 }
def p_Gr_cut  (ru : Ru) (Q : Int32 → Ru → Prop) : Prop :=
  p_Ru_dropLast ru (fun r4 ru4 => (isB r4 ∧ Q r4 ru4))

abbrev rm_Gr_isState : Room := { frames := 0, cells := 0, slots := 0, locals := 0 }
def p_Gr_isState (x0 : Int32)  (Q : Int32 → Prop) : Prop :=
  ((x0 < 0 → Q (0 : Int32)) ∧
    (¬ x0 < 0 → (((6 : Int32) ≤ x0 → Q (0 : Int32)) ∧
      (¬ (6 : Int32) ≤ x0 → Q (1 : Int32)))))

abbrev rm_Au_setFinal : Room := { frames := 0, cells := 0, slots := 0, locals := 0 }
def p_Au_setFinal_25 (x1 : Int32) (x2 : Int32) (Q : Int32 → Au → Prop) (y0 : Int32) (au : Au) : Prop :=
  ((¬ y0 = (Au_finals au) → (∀ au38 : Au, au38 = Au_finals_s au y0 → Q (1 : Int32) au38)) ∧
    (y0 = (Au_finals au) → Q (0 : Int32) au))
def p_Au_setFinal (x1 : Int32) (x2 : Int32) (au : Au) (Q : Int32 → Au → Prop) : Prop :=
  ((x2 = 0 → p_Au_setFinal_25 x1 x2 Q ((Au_finals au) &&& (((1 : Int32) <<< (x1 &&& 31)) ^^^ (-1 : Int32))) au) ∧
    (¬ x2 = 0 → p_Au_setFinal_25 x1 x2 Q ((Au_finals au) ||| ((1 : Int32) <<< (x1 &&& 31))) au))

abbrev rm_Gr_mark : Room := { frames := 1, cells := 0, slots := 0, locals := 23 }
def p_Gr_mark (x1 : Int32) (x2 : Int32) (au : Au) (Q : Int32 → Au → Prop) : Prop :=
  p_Gr_isState x1 (fun r1 => ((r1 = 0 → Q (0 : Int32) au) ∧
    (¬ r1 = 0 → p_Au_setFinal x1 x2 au (fun r13 au13 => ((r13 = 0 → Q (0 : Int32) au13) ∧
      (¬ r13 = 0 → Q (1 : Int32) au13))))))

abbrev rm_Te_placesOf : Room := { frames := 0, cells := 0, slots := 0, locals := 0 }
def p_Te_placesOf (x1 : Int32) (te : Te) (Q : Int32 → Prop) : Prop :=
  (vp_in x1 6 ∧ Q (Te_places te x1.toNatClampNeg))

abbrev rm_Au_finals : Room := { frames := 0, cells := 0, slots := 0, locals := 0 }
def p_Au_finals  (au : Au) (Q : Int32 → Prop) : Prop :=
  Q (Au_finals au)

abbrev rm_Au_count : Room := { frames := 0, cells := 0, slots := 0, locals := 0 }
def p_Au_count  (au : Au) (Q : Int32 → Prop) : Prop :=
  Q (Au_count au)

abbrev rm_Ru_count : Room := { frames := 0, cells := 0, slots := 0, locals := 0 }
def p_Ru_count  (ru : Ru) (Q : Int32 → Prop) : Prop :=
  Q (Ru_count ru)

abbrev rm_Gr_look : Room := { frames := 1, cells := 0, slots := 0, locals := 21 }
def p_Gr_look (x1 : Int32) (te : Te) (ru : Ru) (au : Au) (Q : Int32 → Prop) : Prop :=
  (((x1).toInt < 0 ∨ (3 : Int) < (x1).toInt → ((x1 < (4 : Int32) → Q (-1 : Int32)) ∧
      (¬ x1 < (4 : Int32) → (((10 : Int32) ≤ x1 → Q (-1 : Int32)) ∧
        (¬ (10 : Int32) ≤ x1 → p_Te_placesOf (x1 - (4 : Int32)) te (fun r82 => Q r82)))))) ∧
    (x1 = nI 0 → p_Te_count te (fun r36 => Q r36)) ∧
    (x1 = nI 1 → p_Ru_count ru (fun r44 => Q r44)) ∧
    (x1 = nI 2 → p_Au_count au (fun r52 => Q r52)) ∧
    (x1 = nI 3 → p_Au_finals au (fun r60 => Q r60)))

abbrev rm_Te_isSymbol : Room := { frames := 0, cells := 0, slots := 0, locals := 0 }
def p_Te_isSymbol (x1 : Int32)  (Q : Int32 → Prop) : Prop :=
  ((x1 < 0 → Q (0 : Int32)) ∧
    (¬ x1 < 0 → (((6 : Int32) ≤ x1 → Q (0 : Int32)) ∧
      (¬ (6 : Int32) ≤ x1 → Q (1 : Int32)))))

abbrev rm_Te_canStand : Room := { frames := 1, cells := 0, slots := 0, locals := 21 }
def p_Te_canStand_44 (x1 : Int32) (x2 : Int32) (x3 : Int32) (te : Te) (Q : Int32 → Prop)  : Prop :=
  Q (1 : Int32)
def p_Te_canStand_26 (x1 : Int32) (x2 : Int32) (x3 : Int32) (te : Te) (Q : Int32 → Prop)  : Prop :=
  (vp_in x1 6 ∧ (((Te_places te x1.toNatClampNeg) < (2 : Int32) → p_Te_canStand_44 x1 x2 x3 te Q) ∧
    (¬ (Te_places te x1.toNatClampNeg) < (2 : Int32) → p_Te_isMade x3 te (fun r38 => ((r38 = 0 → Q (0 : Int32)) ∧
      (¬ r38 = 0 → p_Te_canStand_44 x1 x2 x3 te Q))))))
def p_Te_canStand (x1 : Int32) (x2 : Int32) (x3 : Int32) (te : Te) (Q : Int32 → Prop) : Prop :=
  p_Te_isSymbol x1 (fun r2 => ((r2 = 0 → Q (0 : Int32)) ∧
    (¬ r2 = 0 → (vp_in x1 6 ∧ (((Te_places te x1.toNatClampNeg) < (1 : Int32) → p_Te_canStand_26 x1 x2 x3 te Q) ∧
      (¬ (Te_places te x1.toNatClampNeg) < (1 : Int32) → p_Te_isMade x2 te (fun r20 => ((r20 = 0 → Q (0 : Int32)) ∧
        (¬ r20 = 0 → p_Te_canStand_26 x1 x2 x3 te Q)))))))))

abbrev rm_Te_bucketOf : Room := { frames := 0, cells := 0, slots := 0, locals := 0 }
def p_Te_bucketOf (x0 : Int32) (x1 : Int32) (x2 : Int32)  (Q : Int32 → Prop) : Prop :=
  Q ((((x0 * (961 : Int32)) + (x1 * (31 : Int32))) + x2) &&& (255 : Int32))

abbrev rm_Te_find : Room := { frames := 1, cells := 0, slots := 0, locals := 22 }
def p_Te_find_104 (x1 : Int32) (x2 : Int32) (x3 : Int32) (te : Te) (Q : Int32 → Prop) (k52 : Int32 → Int32 → Int32 → Int32 → Prop) (x4 : Int32) (x5 : Int32) (x6 : Int32) (x7 : Int32) : Prop :=
  (vp_in x6 448 ∧ k52 x4 x5 (Te_olderInBucket te x6.toNatClampNeg) (x7 + (1 : Int32)))
def p_Te_find_52 (x1 : Int32) (x2 : Int32) (x3 : Int32) (te : Te) (Q : Int32 → Prop) : Nat → Int32 → Int32 → Int32 → Int32 → Prop
  | 0, _, _, _, _ => False
  | n + 1, x4, x5, x6, x7 => (((448 : Int32) ≤ x7 → Q (-1 : Int32)) ∧
    (¬ (448 : Int32) ≤ x7 → ((x6 = (-1 : Int32) → Q (-1 : Int32)) ∧
      (¬ x6 = (-1 : Int32) → (vp_in x6 448 ∧ ((¬ (Te_symbol te x6.toNatClampNeg) = x1 → p_Te_find_104 x1 x2 x3 te Q (fun a0 a1 a2 a3 => p_Te_find_52 x1 x2 x3 te Q n a0 a1 a2 a3) x4 x5 x6 x7) ∧
        ((Te_symbol te x6.toNatClampNeg) = x1 → (vp_in x6 448 ∧ ((¬ (Te_first te x6.toNatClampNeg) = x4 → p_Te_find_104 x1 x2 x3 te Q (fun a0 a1 a2 a3 => p_Te_find_52 x1 x2 x3 te Q n a0 a1 a2 a3) x4 x5 x6 x7) ∧
          ((Te_first te x6.toNatClampNeg) = x4 → (vp_in x6 448 ∧ ((¬ (Te_second te x6.toNatClampNeg) = x5 → p_Te_find_104 x1 x2 x3 te Q (fun a0 a1 a2 a3 => p_Te_find_52 x1 x2 x3 te Q n a0 a1 a2 a3) x4 x5 x6 x7) ∧
            ((Te_second te x6.toNatClampNeg) = x5 → Q x6)))))))))))))
def p_Te_find_32 (x1 : Int32) (x2 : Int32) (x3 : Int32) (te : Te) (Q : Int32 → Prop) (x4 : Int32) (y0 : Int32) : Prop :=
  p_Te_bucketOf x1 x4 y0 (fun r43 => (vp_in r43 256 ∧ (∃ f, p_Te_find_52 x1 x2 x3 te Q f x4 y0 (Te_newestIn te r43.toNatClampNeg) (0 : Int32))))
def p_Te_find_15 (x1 : Int32) (x2 : Int32) (x3 : Int32) (te : Te) (Q : Int32 → Prop) (y0 : Int32) : Prop :=
  (vp_in x1 6 ∧ (((2 : Int32) ≤ (Te_places te x1.toNatClampNeg) → p_Te_find_32 x1 x2 x3 te Q y0 x3) ∧
    (¬ (2 : Int32) ≤ (Te_places te x1.toNatClampNeg) → p_Te_find_32 x1 x2 x3 te Q y0 (-1 : Int32))))
def p_Te_find (x1 : Int32) (x2 : Int32) (x3 : Int32) (te : Te) (Q : Int32 → Prop) : Prop :=
  (vp_in x1 6 ∧ (((1 : Int32) ≤ (Te_places te x1.toNatClampNeg) → p_Te_find_15 x1 x2 x3 te Q x2) ∧
    (¬ (1 : Int32) ≤ (Te_places te x1.toNatClampNeg) → p_Te_find_15 x1 x2 x3 te Q (-1 : Int32))))

abbrev rm_Te_joinedSize : Room := { frames := 1, cells := 0, slots := 0, locals := 21 }
def p_Te_joinedSize_40 (x1 : Int32) (x2 : Int32) (x3 : Int32) (te : Te) (Q : Int32 → Prop) (y0 : Int32) (y1 : Int32) : Prop :=
  Q (if (1 : Int32) + (y1 + y0) < (1000000000 : Int32) then (1 : Int32) + (y1 + y0) else (1000000000 : Int32))
def p_Te_joinedSize_20 (x1 : Int32) (x2 : Int32) (x3 : Int32) (te : Te) (Q : Int32 → Prop) (y0 : Int32) : Prop :=
  (vp_in x1 6 ∧ (((2 : Int32) ≤ (Te_places te x1.toNatClampNeg) → (vp_in x3 448 ∧ p_Te_joinedSize_40 x1 x2 x3 te Q (Te_size te x3.toNatClampNeg) y0)) ∧
    (¬ (2 : Int32) ≤ (Te_places te x1.toNatClampNeg) → p_Te_joinedSize_40 x1 x2 x3 te Q (0 : Int32) y0)))
def p_Te_joinedSize (x1 : Int32) (x2 : Int32) (x3 : Int32) (te : Te) (Q : Int32 → Prop) : Prop :=
  (vp_in x1 6 ∧ (((1 : Int32) ≤ (Te_places te x1.toNatClampNeg) → (vp_in x2 448 ∧ p_Te_joinedSize_20 x1 x2 x3 te Q (Te_size te x2.toNatClampNeg))) ∧
    (¬ (1 : Int32) ≤ (Te_places te x1.toNatClampNeg) → p_Te_joinedSize_20 x1 x2 x3 te Q (0 : Int32))))

abbrev rm_Te_append : Room := { frames := 2, cells := 0, slots := 0, locals := 45 }
def p_Te_append_76 (x1 : Int32) (x2 : Int32) (x3 : Int32) (Q : Int32 → Te → Prop) (x4 : Int32) (y0 : Int32) (y1 : Int32) (te : Te) : Prop :=
  (vp_in y1 448 ∧ ∀ te76 : Te, te76 = Te_second_s te (upd (Te_second te) y1.toNatClampNeg y0) → (vp_in x4 448 ∧ (vp_in x4 448 ∧ p_Te_joinedSize x1 (Te_first te76 x4.toNatClampNeg) (Te_second te76 x4.toNatClampNeg) te76 (fun r99 => (vp_in x4 448 ∧ ∀ te102 : Te, te102 = Te_size_s te76 (upd (Te_size te76) x4.toNatClampNeg r99) → (vp_in x4 448 ∧ (vp_in x4 448 ∧ p_Te_bucketOf x1 (Te_first te102 x4.toNatClampNeg) (Te_second te102 x4.toNatClampNeg) (fun r118 => (vp_in r118 256 ∧ (vp_in x4 448 ∧ ∀ te136 : Te, te136 = Te_olderInBucket_s te102 (upd (Te_olderInBucket te102) x4.toNatClampNeg (Te_newestIn te102 r118.toNatClampNeg)) → (vp_in r118 256 ∧ ∀ te145 : Te, te145 = Te_newestIn_s te136 (upd (Te_newestIn te136) r118.toNatClampNeg x4) → Q x4 te145)))))))))))
def p_Te_append_54 (x1 : Int32) (x2 : Int32) (x3 : Int32) (Q : Int32 → Te → Prop) (x4 : Int32) (y0 : Int32) (y1 : Int32) (te : Te) : Prop :=
  (vp_in y1 448 ∧ ∀ te54 : Te, te54 = Te_first_s te (upd (Te_first te) y1.toNatClampNeg y0) → (vp_in x1 6 ∧ (((2 : Int32) ≤ (Te_places te54 x1.toNatClampNeg) → p_Te_append_76 x1 x2 x3 Q x4 x3 x4 te54) ∧
    (¬ (2 : Int32) ≤ (Te_places te54 x1.toNatClampNeg) → p_Te_append_76 x1 x2 x3 Q x4 (-1 : Int32) x4 te54))))
def p_Te_append (x1 : Int32) (x2 : Int32) (x3 : Int32) (te : Te) (Q : Int32 → Te → Prop) : Prop :=
  (((Te_count te) < (448 : Int32) → (∀ te20 : Te, te20 = Te_count_s te ((Te_count te) + (1 : Int32)) → (vp_in (Te_count te) 448 ∧ ∀ te32 : Te, te32 = Te_symbol_s te20 (upd (Te_symbol te20) (Te_count te).toNatClampNeg x1) → (vp_in x1 6 ∧ (((1 : Int32) ≤ (Te_places te32 x1.toNatClampNeg) → p_Te_append_54 x1 x2 x3 Q (Te_count te) x2 (Te_count te) te32) ∧
      (¬ (1 : Int32) ≤ (Te_places te32 x1.toNatClampNeg) → p_Te_append_54 x1 x2 x3 Q (Te_count te) (-1 : Int32) (Te_count te) te32)))))) ∧
    (¬ (Te_count te) < (448 : Int32) → Q (-1 : Int32) te))

abbrev rm_Te_findOrAppend : Room := { frames := 3, cells := 0, slots := 0, locals := 70 }
def p_Te_findOrAppend_24 (x1 : Int32) (x2 : Int32) (x3 : Int32) (Q : Int32 → Te → Prop) (x4 : Int32) (te : Te) : Prop :=
  Q x4 te
def p_Te_findOrAppend (x1 : Int32) (x2 : Int32) (x3 : Int32) (te : Te) (Q : Int32 → Te → Prop) : Prop :=
  p_Te_find x1 x2 x3 te (fun r4 => ((¬ r4 = (-1 : Int32) → p_Te_findOrAppend_24 x1 x2 x3 Q r4 te) ∧
    (r4 = (-1 : Int32) → (((Te_count te) < (48 : Int32) → p_Te_append x1 x2 x3 te (fun r33 te33 => Q r33 te33)) ∧
      (¬ (Te_count te) < (48 : Int32) → p_Te_findOrAppend_24 x1 x2 x3 Q r4 te)))))

abbrev rm_Te_keepFirst : Room := { frames := 1, cells := 0, slots := 0, locals := 22 }
def p_Te_keepFirst_0 (x1 : Int32) (Q : Te → Prop) : Nat → Te → Prop
  | 0, _ => False
  | n + 1, te => (((Te_count te) ≤ x1 → Q te) ∧
    (¬ (Te_count te) ≤ x1 → (∀ te15 : Te, te15 = Te_count_s te ((Te_count te) - (1 : Int32)) → (vp_in (Te_count te15) 448 ∧ (vp_in (Te_count te15) 448 ∧ (vp_in (Te_count te15) 448 ∧ p_Te_bucketOf (Te_symbol te15 (Te_count te15).toNatClampNeg) (Te_first te15 (Te_count te15).toNatClampNeg) (Te_second te15 (Te_count te15).toNatClampNeg) (fun r49 => (vp_in (Te_count te15) 448 ∧ (vp_in r49 256 ∧ ∀ te61 : Te, te61 = Te_newestIn_s te15 (upd (Te_newestIn te15) r49.toNatClampNeg (Te_olderInBucket te15 (Te_count te15).toNatClampNeg)) → p_Te_keepFirst_0 x1 Q n te61)))))))))
def p_Te_keepFirst (x1 : Int32) (te : Te) (Q : Te → Prop) : Prop :=
  (∃ f, p_Te_keepFirst_0 x1 Q f te)

abbrev rm_Ru_changes : Room := { frames := 0, cells := 0, slots := 0, locals := 0 }
def p_Ru_changes  (ru : Ru) (Q : Int32 → Prop) : Prop :=
  Q (Ru_changes ru)

abbrev rm_Ru_leftOf : Room := { frames := 0, cells := 0, slots := 0, locals := 0 }
def p_Ru_leftOf (x1 : Int32) (ru : Ru) (Q : Int32 → Prop) : Prop :=
  (vp_in x1 8 ∧ Q (Ru_left ru x1.toNatClampNeg))

abbrev rm_Ru_rightOf : Room := { frames := 0, cells := 0, slots := 0, locals := 0 }
def p_Ru_rightOf (x1 : Int32) (ru : Ru) (Q : Int32 → Prop) : Prop :=
  (vp_in x1 8 ∧ Q (Ru_right ru x1.toNatClampNeg))

abbrev rm_Ru_append : Room := { frames := 0, cells := 0, slots := 0, locals := 0 }
def p_Ru_append (x1 : Int32) (x2 : Int32) (ru : Ru) (Q : Int32 → Ru → Prop) : Prop :=
  (((Ru_count ru) < (8 : Int32) → (vp_in (Ru_count ru) 8 ∧ ∀ ru20 : Ru, ru20 = Ru_left_s ru (upd (Ru_left ru) (Ru_count ru).toNatClampNeg x1) → (vp_in (Ru_count ru20) 8 ∧ ∀ ru30 : Ru, ru30 = Ru_right_s ru20 (upd (Ru_right ru20) (Ru_count ru20).toNatClampNeg x2) → (∀ ru38 : Ru, ru38 = Ru_changes_s ru30 ((Ru_changes ru30) + (1 : Int32)) → (∀ ru49 : Ru, ru49 = Ru_count_s ru38 ((Ru_count ru38) + (1 : Int32)) → Q (Ru_count ru38) ru49))))) ∧
    (¬ (Ru_count ru) < (8 : Int32) → Q (-1 : Int32) ru))

abbrev rm_Ru_rightAt : Room := { frames := 0, cells := 0, slots := 0, locals := 0 }
def p_Ru_rightAt_5 (x1 : Int32) (x2 : Int32) (ru : Ru) (Q : Int32 → Prop) : Nat → Int32 → Int32 → Prop
  | 0, _, _ => False
  | n + 1, x3, x4 => (((Ru_count ru) ≤ x4 → Q (-1 : Int32)) ∧
    (¬ (Ru_count ru) ≤ x4 → (vp_in x4 8 ∧ (((Ru_left ru x4.toNatClampNeg) = x1 → ((¬ x3 = x2 → p_Ru_rightAt_5 x1 x2 ru Q n (x3 + (1 : Int32)) (x4 + (1 : Int32))) ∧
        (x3 = x2 → (vp_in x4 8 ∧ Q (Ru_right ru x4.toNatClampNeg))))) ∧
      (¬ (Ru_left ru x4.toNatClampNeg) = x1 → p_Ru_rightAt_5 x1 x2 ru Q n x3 (x4 + (1 : Int32)))))))
def p_Ru_rightAt (x1 : Int32) (x2 : Int32) (ru : Ru) (Q : Int32 → Prop) : Prop :=
  (∃ f, p_Ru_rightAt_5 x1 x2 ru Q f (0 : Int32) (0 : Int32))

abbrev rm_Au_anyFinal : Room := { frames := 0, cells := 0, slots := 0, locals := 0 }
def p_Au_anyFinal (x1 : Int32) (au : Au) (Q : Int32 → Prop) : Prop :=
  (((x1 &&& (Au_finals au)) = 0 → Q (0 : Int32)) ∧
    (¬ (x1 &&& (Au_finals au)) = 0 → Q (1 : Int32)))

abbrev rm_Au_canStand : Room := { frames := 1, cells := 0, slots := 0, locals := 21 }
def p_Au_canStand_57 (x1 : Int32) (x2 : Int32) (x3 : Int32) (x4 : Int32) (te : Te) (Q : Int32 → Prop)  : Prop :=
  Q (1 : Int32)
def p_Au_canStand_38 (x1 : Int32) (x2 : Int32) (x3 : Int32) (x4 : Int32) (te : Te) (Q : Int32 → Prop)  : Prop :=
  p_Te_placesOf x1 te (fun r43 => ((r43 < (2 : Int32) → p_Au_canStand_57 x1 x2 x3 x4 te Q) ∧
    (¬ r43 < (2 : Int32) → p_Gr_isState x3 (fun r51 => ((r51 = 0 → Q (0 : Int32)) ∧
      (¬ r51 = 0 → p_Au_canStand_57 x1 x2 x3 x4 te Q))))))
def p_Au_canStand (x1 : Int32) (x2 : Int32) (x3 : Int32) (x4 : Int32) (te : Te) (Q : Int32 → Prop) : Prop :=
  p_Te_isSymbol x1 (fun r5 => ((r5 = 0 → Q (0 : Int32)) ∧
    (¬ r5 = 0 → p_Gr_isState x4 (fun r13 => ((r13 = 0 → Q (0 : Int32)) ∧
      (¬ r13 = 0 → p_Te_placesOf x1 te (fun r24 => ((r24 < (1 : Int32) → p_Au_canStand_38 x1 x2 x3 x4 te Q) ∧
        (¬ r24 < (1 : Int32) → p_Gr_isState x2 (fun r32 => ((r32 = 0 → Q (0 : Int32)) ∧
          (¬ r32 = 0 → p_Au_canStand_38 x1 x2 x3 x4 te Q))))))))))))

abbrev rm_Au_holds : Room := { frames := 1, cells := 0, slots := 0, locals := 21 }
def p_Au_holds_58 (x1 : Int32) (x2 : Int32) (x3 : Int32) (x4 : Int32) (te : Te) (au : Au) (Q : Int32 → Prop) (k3 : Int32 → Prop) (x5 : Int32) : Prop :=
  p_Te_placesOf x1 te (fun r63 => ((r63 < (2 : Int32) → Q (1 : Int32)) ∧
    (¬ r63 < (2 : Int32) → (vp_in x5 20 ∧ ((¬ (Au_second au x5.toNatClampNeg) = x3 → k3 (x5 + (1 : Int32))) ∧
      ((Au_second au x5.toNatClampNeg) = x3 → Q (1 : Int32)))))))
def p_Au_holds_3 (x1 : Int32) (x2 : Int32) (x3 : Int32) (x4 : Int32) (te : Te) (au : Au) (Q : Int32 → Prop) : Nat → Int32 → Prop
  | 0, _ => False
  | n + 1, x5 => (((Au_count au) ≤ x5 → Q (0 : Int32)) ∧
    (¬ (Au_count au) ≤ x5 → (vp_in x5 20 ∧ ((¬ (Au_symbol au x5.toNatClampNeg) = x1 → p_Au_holds_3 x1 x2 x3 x4 te au Q n (x5 + (1 : Int32))) ∧
      ((Au_symbol au x5.toNatClampNeg) = x1 → (vp_in x5 20 ∧ ((¬ (Au_target au x5.toNatClampNeg) = x4 → p_Au_holds_3 x1 x2 x3 x4 te au Q n (x5 + (1 : Int32))) ∧
        ((Au_target au x5.toNatClampNeg) = x4 → p_Te_placesOf x1 te (fun r40 => ((r40 < (1 : Int32) → p_Au_holds_58 x1 x2 x3 x4 te au Q (fun a0 => p_Au_holds_3 x1 x2 x3 x4 te au Q n a0) x5) ∧
          (¬ r40 < (1 : Int32) → (vp_in x5 20 ∧ ((¬ (Au_first au x5.toNatClampNeg) = x2 → p_Au_holds_3 x1 x2 x3 x4 te au Q n (x5 + (1 : Int32))) ∧
            ((Au_first au x5.toNatClampNeg) = x2 → p_Au_holds_58 x1 x2 x3 x4 te au Q (fun a0 => p_Au_holds_3 x1 x2 x3 x4 te au Q n a0) x5))))))))))))))
def p_Au_holds (x1 : Int32) (x2 : Int32) (x3 : Int32) (x4 : Int32) (te : Te) (au : Au) (Q : Int32 → Prop) : Prop :=
  (∃ f, p_Au_holds_3 x1 x2 x3 x4 te au Q f (0 : Int32))

abbrev rm_Au_append : Room := { frames := 1, cells := 0, slots := 0, locals := 21 }
def p_Au_append_72 (x1 : Int32) (x2 : Int32) (x3 : Int32) (x4 : Int32) (te : Te) (Q : Int32 → Au → Prop) (y0 : Int32) (y1 : Int32) (au : Au) : Prop :=
  (vp_in y1 20 ∧ ∀ au72 : Au, au72 = Au_second_s au (upd (Au_second au) y1.toNatClampNeg y0) → (vp_in (Au_count au72) 20 ∧ ∀ au83 : Au, au83 = Au_target_s au72 (upd (Au_target au72) (Au_count au72).toNatClampNeg x4) → (∀ au91 : Au, au91 = Au_count_s au83 ((Au_count au83) + (1 : Int32)) → Q (1 : Int32) au91)))
def p_Au_append_46 (x1 : Int32) (x2 : Int32) (x3 : Int32) (x4 : Int32) (te : Te) (Q : Int32 → Au → Prop) (y0 : Int32) (y1 : Int32) (au : Au) : Prop :=
  (vp_in y1 20 ∧ ∀ au46 : Au, au46 = Au_first_s au (upd (Au_first au) y1.toNatClampNeg y0) → p_Te_placesOf x1 te (fun r60 => (((2 : Int32) ≤ r60 → p_Au_append_72 x1 x2 x3 x4 te Q x3 (Au_count au46) au46) ∧
    (¬ (2 : Int32) ≤ r60 → p_Au_append_72 x1 x2 x3 x4 te Q (0 : Int32) (Au_count au46) au46))))
def p_Au_append (x1 : Int32) (x2 : Int32) (x3 : Int32) (x4 : Int32) (te : Te) (au : Au) (Q : Int32 → Au → Prop) : Prop :=
  (((Au_count au) < (20 : Int32) → (vp_in (Au_count au) 20 ∧ ∀ au20 : Au, au20 = Au_symbol_s au (upd (Au_symbol au) (Au_count au).toNatClampNeg x1) → p_Te_placesOf x1 te (fun r34 => (((1 : Int32) ≤ r34 → p_Au_append_46 x1 x2 x3 x4 te Q x2 (Au_count au20) au20) ∧
      (¬ (1 : Int32) ≤ r34 → p_Au_append_46 x1 x2 x3 x4 te Q (0 : Int32) (Au_count au20) au20))))) ∧
    (¬ (Au_count au) < (20 : Int32) → Q (0 : Int32) au))

abbrev rm_Au_targetsOf : Room := { frames := 0, cells := 0, slots := 0, locals := 0 }
def p_Au_targetsOf_6 (x1 : Int32) (x2 : Int32) (x3 : Int32) (au : Au) (Q : Int32 → Prop) : Nat → Int32 → Int32 → Prop
  | 0, _, _ => False
  | n + 1, x4, x5 => (((Au_count au) ≤ x5 → Q x4) ∧
    (¬ (Au_count au) ≤ x5 → (vp_in x5 20 ∧ ((¬ (Au_symbol au x5.toNatClampNeg) = x1 → p_Au_targetsOf_6 x1 x2 x3 au Q n x4 (x5 + (1 : Int32))) ∧
      ((Au_symbol au x5.toNatClampNeg) = x1 → (vp_in x5 20 ∧ ((((x2 >>> ((Au_first au x5.toNatClampNeg) &&& 31)) &&& (1 : Int32)) = 0 → p_Au_targetsOf_6 x1 x2 x3 au Q n x4 (x5 + (1 : Int32))) ∧
        (¬ ((x2 >>> ((Au_first au x5.toNatClampNeg) &&& 31)) &&& (1 : Int32)) = 0 → (vp_in x5 20 ∧ ((((x3 >>> ((Au_second au x5.toNatClampNeg) &&& 31)) &&& (1 : Int32)) = 0 → p_Au_targetsOf_6 x1 x2 x3 au Q n x4 (x5 + (1 : Int32))) ∧
          (¬ ((x3 >>> ((Au_second au x5.toNatClampNeg) &&& 31)) &&& (1 : Int32)) = 0 → (vp_in x5 20 ∧ p_Au_targetsOf_6 x1 x2 x3 au Q n (x4 ||| ((1 : Int32) <<< ((Au_target au x5.toNatClampNeg) &&& 31))) (x5 + (1 : Int32))))))))))))))
def p_Au_targetsOf (x1 : Int32) (x2 : Int32) (x3 : Int32) (au : Au) (Q : Int32 → Prop) : Prop :=
  (∃ f, p_Au_targetsOf_6 x1 x2 x3 au Q f (0 : Int32) (0 : Int32))

abbrev rm_Ar_fillI_weight : Room := { frames := 0, cells := 0, slots := 0, locals := 0 }
def p_Ar_fillI_weight_5 (x1 : Int32) (Q : Au → Prop) : Nat → Int32 → Int32 → Au → Prop
  | 0, _, _, _ => False
  | n + 1, x2, x3, au => ((x3 ≤ x2 → Q au) ∧
    (¬ x3 ≤ x2 → (vp_in x2 6 ∧ ∀ au13 : Au, au13 = Au_weight_s au (upd (Au_weight au) x2.toNatClampNeg x1) → p_Ar_fillI_weight_5 x1 Q n (x2 + (1 : Int32)) x3 au13)))
def p_Ar_fillI_weight (x1 : Int32) (au : Au) (Q : Au → Prop) : Prop :=
  (∃ f, p_Ar_fillI_weight_5 x1 Q f (0 : Int32) (6 : Int32) au)

abbrev rm_Au_lighten : Room := { frames := 1, cells := 0, slots := 0, locals := 21 }
def p_Au_lighten_106 (x1 : Int32) (te : Te) (Q : Au → Prop) (x2 : Int32) (x3 : Int32) (au : Au) : Prop :=
  (vp_in x1 20 ∧ (vp_in (Au_target au x1.toNatClampNeg) 6 ∧ ∀ au121 : Au, au121 = Au_weight_s au (upd (Au_weight au) (Au_target au x1.toNatClampNeg).toNatClampNeg (((1 : Int32) + x2) + x3)) → Q au121))
def p_Au_lighten_65 (x1 : Int32) (te : Te) (Q : Au → Prop) (x2 : Int32) (y0 : Int32) (au : Au) : Prop :=
  ((x2 = (-1 : Int32) → Q au) ∧
    (¬ x2 = (-1 : Int32) → ((¬ y0 = (-1 : Int32) → (vp_in x1 20 ∧ (vp_in (Au_target au x1.toNatClampNeg) 6 ∧ (((Au_weight au (Au_target au x1.toNatClampNeg).toNatClampNeg) = (-1 : Int32) → p_Au_lighten_106 x1 te Q x2 y0 au) ∧
        (¬ (Au_weight au (Au_target au x1.toNatClampNeg).toNatClampNeg) = (-1 : Int32) → (((Au_weight au (Au_target au x1.toNatClampNeg).toNatClampNeg) ≤ (((1 : Int32) + x2) + y0) → Q au) ∧
          (¬ (Au_weight au (Au_target au x1.toNatClampNeg).toNatClampNeg) ≤ (((1 : Int32) + x2) + y0) → p_Au_lighten_106 x1 te Q x2 y0 au))))))) ∧
      (y0 = (-1 : Int32) → Q au))))
def p_Au_lighten_32 (x1 : Int32) (te : Te) (Q : Au → Prop) (y0 : Int32) (au : Au) : Prop :=
  (vp_in x1 20 ∧ p_Te_placesOf (Au_symbol au x1.toNatClampNeg) te (fun r43 => (((2 : Int32) ≤ r43 → (vp_in x1 20 ∧ (vp_in (Au_second au x1.toNatClampNeg) 6 ∧ p_Au_lighten_65 x1 te Q y0 (Au_weight au (Au_second au x1.toNatClampNeg).toNatClampNeg) au))) ∧
    (¬ (2 : Int32) ≤ r43 → p_Au_lighten_65 x1 te Q y0 (0 : Int32) au))))
def p_Au_lighten (x1 : Int32) (te : Te) (au : Au) (Q : Au → Prop) : Prop :=
  (vp_in x1 20 ∧ p_Te_placesOf (Au_symbol au x1.toNatClampNeg) te (fun r10 => (((1 : Int32) ≤ r10 → (vp_in x1 20 ∧ (vp_in (Au_first au x1.toNatClampNeg) 6 ∧ p_Au_lighten_32 x1 te Q (Au_weight au (Au_first au x1.toNatClampNeg).toNatClampNeg) au))) ∧
    (¬ (1 : Int32) ≤ r10 → p_Au_lighten_32 x1 te Q (0 : Int32) au))))

abbrev rm_Au_leastSize : Room := { frames := 2, cells := 0, slots := 0, locals := 45 }
def p_Au_leastSize_18 (x1 : Int32) (te : Te) (Q : Int32 → Au → Prop) (k10 : Int32 → Au → Prop) : Nat → Int32 → Int32 → Au → Prop
  | 0, _, _, _ => False
  | n + 1, x2, x3, au => (((Au_count au) ≤ x3 → k10 (x2 + (1 : Int32)) au) ∧
    (¬ (Au_count au) ≤ x3 → p_Au_lighten x3 te au (fun au28 => p_Au_leastSize_18 x1 te Q k10 n x2 (x3 + (1 : Int32)) au28)))
def p_Au_leastSize_10 (x1 : Int32) (te : Te) (Q : Int32 → Au → Prop) : Nat → Int32 → Au → Prop
  | 0, _, _ => False
  | n + 1, x2, au => (((6 : Int32) ≤ x2 → (vp_in x1 6 ∧ Q (Au_weight au x1.toNatClampNeg) au)) ∧
    (¬ (6 : Int32) ≤ x2 → (∃ f, p_Au_leastSize_18 x1 te Q (fun a0 a1 => p_Au_leastSize_10 x1 te Q n a0 a1) f x2 (0 : Int32) au)))
def p_Au_leastSize (x1 : Int32) (te : Te) (au : Au) (Q : Int32 → Au → Prop) : Prop :=
  p_Ar_fillI_weight (-1 : Int32) au (fun au5 => (∃ f, p_Au_leastSize_10 x1 te Q f (0 : Int32) au5))

abbrev rm_Re_isIn_reached : Room := { frames := 0, cells := 0, slots := 0, locals := 0 }
def p_Re_isIn_reached (x1 : Int32) (x2 : Int32) (re : Re) (Q : Int32 → Prop) : Prop :=
  (vp_in x1 48 ∧ (((lg_cmp (((Re_reached re x1.toNatClampNeg) >>> (x2.toInt64 &&& 63)) &&& (1 : Int64)) (0 : Int64)) = 0 → Q (0 : Int32)) ∧
    (¬ (lg_cmp (((Re_reached re x1.toNatClampNeg) >>> (x2.toInt64 &&& 63)) &&& (1 : Int64)) (0 : Int64)) = 0 → Q (1 : Int32))))

abbrev rm_Re_chain : Room := { frames := 1, cells := 0, slots := 0, locals := 22 }
def p_Re_chain_9 (x1 : Int32) (Q : Re → Prop) (k2 : Int32 → Re → Prop) : Nat → Int32 → Int32 → Re → Prop
  | 0, _, _, _ => False
  | n + 1, x2, x3, re => ((x1 ≤ x3 → k2 (x2 + (1 : Int32)) re) ∧
    (¬ x1 ≤ x3 → p_Re_isIn_reached x3 x2 re (fun r20 => ((r20 = 0 → p_Re_chain_9 x1 Q k2 n x2 (x3 + (1 : Int32)) re) ∧
      (¬ r20 = 0 → (vp_in x3 48 ∧ (vp_in x2 48 ∧ (vp_in x3 48 ∧ ∀ re40 : Re, re40 = Re_reached_s re (vp_updL (Re_reached re) x3.toNatClampNeg ((Re_reached re x3.toNatClampNeg) ||| (Re_reached re x2.toNatClampNeg))) → p_Re_chain_9 x1 Q k2 n x2 (x3 + (1 : Int32)) re40))))))))
def p_Re_chain_2 (x1 : Int32) (Q : Re → Prop) : Nat → Int32 → Re → Prop
  | 0, _, _ => False
  | n + 1, x2, re => ((x1 ≤ x2 → Q re) ∧
    (¬ x1 ≤ x2 → (∃ f, p_Re_chain_9 x1 Q (fun a0 a1 => p_Re_chain_2 x1 Q n a0 a1) f x2 (0 : Int32) re)))
def p_Re_chain (x1 : Int32) (re : Re) (Q : Re → Prop) : Prop :=
  (∃ f, p_Re_chain_2 x1 Q f (0 : Int32) re)

abbrev rm_Re_partsRelated_reached : Room := { frames := 1, cells := 0, slots := 0, locals := 22 }
def p_Re_partsRelated_reached_96 (x2 : Int32) (x3 : Int32) (te : Te) (re : Re) (Q : Int32 → Prop)  : Prop :=
  Q (1 : Int32)
def p_Re_partsRelated_reached_67 (x2 : Int32) (x3 : Int32) (te : Te) (re : Re) (Q : Int32 → Prop) (x4 : Int32) : Prop :=
  ((x4 < (2 : Int32) → p_Re_partsRelated_reached_96 x2 x3 te re Q) ∧
    (¬ x4 < (2 : Int32) → p_Te_secondOf x2 te (fun r79 => p_Te_secondOf x3 te (fun r87 => p_Re_isIn_reached r79 r87 re (fun r90 => ((r90 = 0 → Q (0 : Int32)) ∧
      (¬ r90 = 0 → p_Re_partsRelated_reached_96 x2 x3 te re Q)))))))
def p_Re_partsRelated_reached (x2 : Int32) (x3 : Int32) (te : Te) (re : Re) (Q : Int32 → Prop) : Prop :=
  p_Te_symbolOf x2 te (fun r5 => p_Te_symbolOf x3 te (fun r13 => ((r5 = r13 → p_Te_symbolOf x2 te (fun r30 => p_Te_placesOf r30 te (fun r33 => ((r33 < (1 : Int32) → p_Re_partsRelated_reached_67 x2 x3 te re Q r33) ∧
      (¬ r33 < (1 : Int32) → p_Te_firstOf x2 te (fun r50 => p_Te_firstOf x3 te (fun r58 => p_Re_isIn_reached r50 r58 re (fun r61 => ((r61 = 0 → Q (0 : Int32)) ∧
        (¬ r61 = 0 → p_Re_partsRelated_reached_67 x2 x3 te re Q r33)))))))))) ∧
    (¬ r5 = r13 → Q (0 : Int32)))))

abbrev rm_Re_liftFromParts_reached : Room := { frames := 2, cells := 0, slots := 0, locals := 46 }
def p_Re_liftFromParts_reached_14 (x2 : Int32) (te : Te) (Q : Int32 → Re → Prop) (k5 : Int32 → Int32 → Re → Prop) : Nat → Int32 → Int32 → Int32 → Re → Prop
  | 0, _, _, _, _ => False
  | n + 1, x3, x4, x5, re => ((x2 ≤ x5 → k5 x3 (x4 + (1 : Int32)) re) ∧
    (¬ x2 ≤ x5 → p_Re_isIn_reached x4 x5 re (fun r25 => ((¬ r25 = 0 → p_Re_liftFromParts_reached_14 x2 te Q k5 n x3 x4 (x5 + (1 : Int32)) re) ∧
      (r25 = 0 → p_Re_partsRelated_reached x4 x5 te re (fun r37 => ((r37 = 0 → p_Re_liftFromParts_reached_14 x2 te Q k5 n x3 x4 (x5 + (1 : Int32)) re) ∧
        (¬ r37 = 0 → (vp_in x4 48 ∧ (vp_in x4 48 ∧ ∀ re53 : Re, re53 = Re_reached_s re (vp_updL (Re_reached re) x4.toNatClampNeg ((Re_reached re x4.toNatClampNeg) ||| ((1 : Int64) <<< (x5.toInt64 &&& 63)))) → p_Re_liftFromParts_reached_14 x2 te Q k5 n (1 : Int32) x4 (x5 + (1 : Int32)) re53))))))))))
def p_Re_liftFromParts_reached_5 (x2 : Int32) (te : Te) (Q : Int32 → Re → Prop) : Nat → Int32 → Int32 → Re → Prop
  | 0, _, _, _ => False
  | n + 1, x3, x4, re => ((x2 ≤ x4 → (isB x3 ∧ Q x3 re)) ∧
    (¬ x2 ≤ x4 → (∃ f, p_Re_liftFromParts_reached_14 x2 te Q (fun a0 a1 a2 => p_Re_liftFromParts_reached_5 x2 te Q n a0 a1 a2) f x3 x4 (0 : Int32) re)))
def p_Re_liftFromParts_reached (x2 : Int32) (te : Te) (re : Re) (Q : Int32 → Re → Prop) : Prop :=
  (∃ f, p_Re_liftFromParts_reached_5 x2 te Q f (0 : Int32) (0 : Int32) re)

abbrev rm_Re_findReached : Room := { frames := 3, cells := 0, slots := 0, locals := 71 }
def p_Re_findReached_79 (te : Te) (ru : Ru) (Q : Re → Prop) : Nat → Int32 → Int32 → Int32 → Re → Prop
  | 0, _, _, _, _ => False
  | n + 1, x1, x2, x3, re => (((2305 : Int32) ≤ x3 → Q re) ∧
    (¬ (2305 : Int32) ≤ x3 → ((x2 = 0 → Q re) ∧
      (¬ x2 = 0 → p_Re_chain x1 re (fun re92 => p_Re_liftFromParts_reached x1 te re92 (fun r101 re101 => p_Re_findReached_79 te ru Q n x1 r101 (x3 + (1 : Int32)) re101))))))
def p_Re_findReached_32 (te : Te) (ru : Ru) (Q : Re → Prop) : Nat → Int32 → Int32 → Re → Prop
  | 0, _, _, _ => False
  | n + 1, x1, x2, re => p_Ru_count ru (fun r37 => ((r37 ≤ x2 → (∃ f, p_Re_findReached_79 te ru Q f x1 (1 : Int32) (0 : Int32) re)) ∧
    (¬ r37 ≤ x2 → p_Ru_leftOf x2 ru (fun r52 => (vp_in r52 48 ∧ p_Ru_rightOf x2 ru (fun r63 => (vp_in r52 48 ∧ ∀ re68 : Re, re68 = Re_reached_s re (vp_updL (Re_reached re) r52.toNatClampNeg ((Re_reached re r52.toNatClampNeg) ||| ((1 : Int64) <<< (r63.toInt64 &&& 63)))) → p_Re_findReached_32 te ru Q n x1 (x2 + (1 : Int32)) re68)))))))
def p_Re_findReached_10 (te : Te) (ru : Ru) (Q : Re → Prop) : Nat → Int32 → Int32 → Re → Prop
  | 0, _, _, _ => False
  | n + 1, x1, x2, re => ((x1 ≤ x2 → (∃ f, p_Re_findReached_32 te ru Q f x1 (0 : Int32) re)) ∧
    (¬ x1 ≤ x2 → (vp_in x2 48 ∧ ∀ re23 : Re, re23 = Re_reached_s re (vp_updL (Re_reached re) x2.toNatClampNeg ((1 : Int64) <<< (x2.toInt64 &&& 63))) → p_Re_findReached_10 te ru Q n x1 (x2 + (1 : Int32)) re23)))
def p_Re_findReached  (te : Te) (ru : Ru) (re : Re) (Q : Re → Prop) : Prop :=
  p_Te_count te (fun r4 => (∃ f, p_Re_findReached_10 te ru Q f r4 (0 : Int32) re))

abbrev rm_Re_renew : Room := { frames := 4, cells := 0, slots := 0, locals := 94 }
def p_Re_renew_29 (te : Te) (ru : Ru) (Q : Re → Prop) (re : Re) : Prop :=
  p_Te_count te (fun r34 => (∀ re37 : Re, re37 = Re_termsThen_s re r34 → p_Ru_changes ru (fun r45 => (∀ re48 : Re, re48 = Re_changesThen_s re37 r45 → (∀ re53 : Re, re53 = Re_joinedKnown_s re48 (0 : Int32) → p_Re_findReached te ru re53 (fun re57 => Q re57))))))
def p_Re_renew  (te : Te) (ru : Ru) (re : Re) (Q : Re → Prop) : Prop :=
  p_Te_count te (fun r8 => ((¬ (Re_termsThen re) = r8 → p_Re_renew_29 te ru Q re) ∧
    ((Re_termsThen re) = r8 → p_Ru_changes ru (fun r22 => ((¬ (Re_changesThen re) = r22 → p_Re_renew_29 te ru Q re) ∧
      ((Re_changesThen re) = r22 → Q re))))))

abbrev rm_Re_leads : Room := { frames := 1, cells := 0, slots := 0, locals := 22 }
def p_Re_leads (x1 : Int32) (x2 : Int32) (re : Re) (Q : Int32 → Prop) : Prop :=
  p_Re_isIn_reached x1 x2 re (fun r6 => (isB r6 ∧ Q r6))

abbrev rm_Re_isIn_joined : Room := { frames := 0, cells := 0, slots := 0, locals := 0 }
def p_Re_isIn_joined (x1 : Int32) (x2 : Int32) (re : Re) (Q : Int32 → Prop) : Prop :=
  (vp_in x1 48 ∧ (((lg_cmp (((Re_joined re x1.toNatClampNeg) >>> (x2.toInt64 &&& 63)) &&& (1 : Int64)) (0 : Int64)) = 0 → Q (0 : Int32)) ∧
    (¬ (lg_cmp (((Re_joined re x1.toNatClampNeg) >>> (x2.toInt64 &&& 63)) &&& (1 : Int64)) (0 : Int64)) = 0 → Q (1 : Int32))))

abbrev rm_Re_inheritJoined : Room := { frames := 1, cells := 0, slots := 0, locals := 22 }
def p_Re_inheritJoined_97 (x1 : Int32) (Q : Int32 → Re → Prop) (k4 : Int32 → Int32 → Re → Prop) (x3 : Int32) (x4 : Int64) (y0 : Int32) (y1 : Int32) (re : Re) : Prop :=
  (vp_in x3 48 ∧ ∀ re106 : Re, re106 = Re_joined_s re (vp_updL (Re_joined re) x3.toNatClampNeg x4) → k4 (y1 ||| y0) (x3 + (1 : Int32)) re106)
def p_Re_inheritJoined_51 (x1 : Int32) (Q : Int32 → Re → Prop) (k4 : Int32 → Int32 → Re → Prop) (k20 : Int32 → Int32 → Int64 → Int32 → Re → Prop) (x2 : Int32) (x3 : Int32) (x4 : Int64) (x6 : Int32) (re : Re) : Prop :=
  p_Re_isIn_joined x6 x3 re (fun r58 => ((r58 = 0 → k20 x2 x3 x4 (x6 + (1 : Int32)) re) ∧
    (¬ r58 = 0 → k20 x2 x3 (x4 ||| ((1 : Int64) <<< (x6.toInt64 &&& 63))) (x6 + (1 : Int32)) re)))
def p_Re_inheritJoined_20 (x1 : Int32) (Q : Int32 → Re → Prop) (k4 : Int32 → Int32 → Re → Prop) : Nat → Int32 → Int32 → Int64 → Int32 → Re → Prop
  | 0, _, _, _, _, _ => False
  | n + 1, x2, x3, x4, x6, re => ((x1 ≤ x6 → (vp_in x3 48 ∧ (((lg_cmp x4 (Re_joined re x3.toNatClampNeg)) = 0 → p_Re_inheritJoined_97 x1 Q k4 x3 x4 (0 : Int32) x2 re) ∧
      (¬ (lg_cmp x4 (Re_joined re x3.toNatClampNeg)) = 0 → p_Re_inheritJoined_97 x1 Q k4 x3 x4 (1 : Int32) x2 re)))) ∧
    (¬ x1 ≤ x6 → p_Re_isIn_reached x3 x6 re (fun r33 => ((r33 = 0 → p_Re_inheritJoined_51 x1 Q k4 (fun a0 a1 a2 a3 a4 => p_Re_inheritJoined_20 x1 Q k4 n a0 a1 a2 a3 a4) x2 x3 x4 x6 re) ∧
      (¬ r33 = 0 → (vp_in x6 48 ∧ p_Re_inheritJoined_51 x1 Q k4 (fun a0 a1 a2 a3 a4 => p_Re_inheritJoined_20 x1 Q k4 n a0 a1 a2 a3 a4) x2 x3 (x4 ||| (Re_joined re x6.toNatClampNeg)) x6 re))))))
def p_Re_inheritJoined_4 (x1 : Int32) (Q : Int32 → Re → Prop) : Nat → Int32 → Int32 → Re → Prop
  | 0, _, _, _ => False
  | n + 1, x2, x3, re => ((x1 ≤ x3 → (isB x2 ∧ Q x2 re)) ∧
    (¬ x1 ≤ x3 → (vp_in x3 48 ∧ (∃ f, p_Re_inheritJoined_20 x1 Q (fun a0 a1 a2 => p_Re_inheritJoined_4 x1 Q n a0 a1 a2) f x2 x3 (Re_joined re x3.toNatClampNeg) (0 : Int32) re))))
def p_Re_inheritJoined (x1 : Int32) (re : Re) (Q : Int32 → Re → Prop) : Prop :=
  (∃ f, p_Re_inheritJoined_4 x1 Q f (0 : Int32) (0 : Int32) re)

abbrev rm_Re_partsRelated_joined : Room := { frames := 1, cells := 0, slots := 0, locals := 22 }
def p_Re_partsRelated_joined_96 (x2 : Int32) (x3 : Int32) (te : Te) (re : Re) (Q : Int32 → Prop)  : Prop :=
  Q (1 : Int32)
def p_Re_partsRelated_joined_67 (x2 : Int32) (x3 : Int32) (te : Te) (re : Re) (Q : Int32 → Prop) (x4 : Int32) : Prop :=
  ((x4 < (2 : Int32) → p_Re_partsRelated_joined_96 x2 x3 te re Q) ∧
    (¬ x4 < (2 : Int32) → p_Te_secondOf x2 te (fun r79 => p_Te_secondOf x3 te (fun r87 => p_Re_isIn_joined r79 r87 re (fun r90 => ((r90 = 0 → Q (0 : Int32)) ∧
      (¬ r90 = 0 → p_Re_partsRelated_joined_96 x2 x3 te re Q)))))))
def p_Re_partsRelated_joined (x2 : Int32) (x3 : Int32) (te : Te) (re : Re) (Q : Int32 → Prop) : Prop :=
  p_Te_symbolOf x2 te (fun r5 => p_Te_symbolOf x3 te (fun r13 => ((r5 = r13 → p_Te_symbolOf x2 te (fun r30 => p_Te_placesOf r30 te (fun r33 => ((r33 < (1 : Int32) → p_Re_partsRelated_joined_67 x2 x3 te re Q r33) ∧
      (¬ r33 < (1 : Int32) → p_Te_firstOf x2 te (fun r50 => p_Te_firstOf x3 te (fun r58 => p_Re_isIn_joined r50 r58 re (fun r61 => ((r61 = 0 → Q (0 : Int32)) ∧
        (¬ r61 = 0 → p_Re_partsRelated_joined_67 x2 x3 te re Q r33)))))))))) ∧
    (¬ r5 = r13 → Q (0 : Int32)))))

abbrev rm_Re_liftFromParts_joined : Room := { frames := 2, cells := 0, slots := 0, locals := 46 }
def p_Re_liftFromParts_joined_14 (x2 : Int32) (te : Te) (Q : Int32 → Re → Prop) (k5 : Int32 → Int32 → Re → Prop) : Nat → Int32 → Int32 → Int32 → Re → Prop
  | 0, _, _, _, _ => False
  | n + 1, x3, x4, x5, re => ((x2 ≤ x5 → k5 x3 (x4 + (1 : Int32)) re) ∧
    (¬ x2 ≤ x5 → p_Re_isIn_joined x4 x5 re (fun r25 => ((¬ r25 = 0 → p_Re_liftFromParts_joined_14 x2 te Q k5 n x3 x4 (x5 + (1 : Int32)) re) ∧
      (r25 = 0 → p_Re_partsRelated_joined x4 x5 te re (fun r37 => ((r37 = 0 → p_Re_liftFromParts_joined_14 x2 te Q k5 n x3 x4 (x5 + (1 : Int32)) re) ∧
        (¬ r37 = 0 → (vp_in x4 48 ∧ (vp_in x4 48 ∧ ∀ re53 : Re, re53 = Re_joined_s re (vp_updL (Re_joined re) x4.toNatClampNeg ((Re_joined re x4.toNatClampNeg) ||| ((1 : Int64) <<< (x5.toInt64 &&& 63)))) → p_Re_liftFromParts_joined_14 x2 te Q k5 n (1 : Int32) x4 (x5 + (1 : Int32)) re53))))))))))
def p_Re_liftFromParts_joined_5 (x2 : Int32) (te : Te) (Q : Int32 → Re → Prop) : Nat → Int32 → Int32 → Re → Prop
  | 0, _, _, _ => False
  | n + 1, x3, x4, re => ((x2 ≤ x4 → (isB x3 ∧ Q x3 re)) ∧
    (¬ x2 ≤ x4 → (∃ f, p_Re_liftFromParts_joined_14 x2 te Q (fun a0 a1 a2 => p_Re_liftFromParts_joined_5 x2 te Q n a0 a1 a2) f x3 x4 (0 : Int32) re)))
def p_Re_liftFromParts_joined (x2 : Int32) (te : Te) (re : Re) (Q : Int32 → Re → Prop) : Prop :=
  (∃ f, p_Re_liftFromParts_joined_5 x2 te Q f (0 : Int32) (0 : Int32) re)

abbrev rm_Re_findJoined : Room := { frames := 3, cells := 0, slots := 0, locals := 71 }
def p_Re_findJoined_34 (te : Te) (Q : Re → Prop) : Nat → Int32 → Int32 → Int32 → Re → Prop
  | 0, _, _, _, _ => False
  | n + 1, x1, x2, x3, re => (((2305 : Int32) ≤ x3 → Q re) ∧
    (¬ (2305 : Int32) ≤ x3 → ((x2 = 0 → Q re) ∧
      (¬ x2 = 0 → p_Re_inheritJoined x1 re (fun r47 re47 => p_Re_liftFromParts_joined x1 te re47 (fun r57 re57 => ((r57 = 0 → p_Re_findJoined_34 te Q n x1 r47 (x3 + (1 : Int32)) re57) ∧
        (¬ r57 = 0 → p_Re_findJoined_34 te Q n x1 (1 : Int32) (x3 + (1 : Int32)) re57))))))))
def p_Re_findJoined_10 (te : Te) (Q : Re → Prop) : Nat → Int32 → Int32 → Re → Prop
  | 0, _, _, _ => False
  | n + 1, x1, x2, re => ((x1 ≤ x2 → (∃ f, p_Re_findJoined_34 te Q f x1 (1 : Int32) (0 : Int32) re)) ∧
    (¬ x1 ≤ x2 → (vp_in x2 48 ∧ ∀ re23 : Re, re23 = Re_joined_s re (vp_updL (Re_joined re) x2.toNatClampNeg ((1 : Int64) <<< (x2.toInt64 &&& 63))) → p_Re_findJoined_10 te Q n x1 (x2 + (1 : Int32)) re23)))
def p_Re_findJoined  (te : Te) (re : Re) (Q : Re → Prop) : Prop :=
  p_Te_count te (fun r4 => (∃ f, p_Re_findJoined_10 te Q f r4 (0 : Int32) re))

abbrev rm_Re_joins : Room := { frames := 4, cells := 0, slots := 0, locals := 94 }
def p_Re_joins_16 (x1 : Int32) (x2 : Int32) (te : Te) (Q : Int32 → Re → Prop) (re : Re) : Prop :=
  p_Re_isIn_joined x1 x2 re (fun r22 => (isB r22 ∧ Q r22 re))
def p_Re_joins (x1 : Int32) (x2 : Int32) (te : Te) (re : Re) (Q : Int32 → Re → Prop) : Prop :=
  ((¬ (Re_joinedKnown re) = 0 → p_Re_joins_16 x1 x2 te Q re) ∧
    ((Re_joinedKnown re) = 0 → p_Re_findJoined te re (fun re8 => (∀ re13 : Re, re13 = Re_joinedKnown_s re8 (1 : Int32) → p_Re_joins_16 x1 x2 te Q re13))))

abbrev rm_Re_sizeWithLeastParts : Room := { frames := 1, cells := 0, slots := 0, locals := 21 }
def p_Re_sizeWithLeastParts_60 (x1 : Int32) (te : Te) (re : Re) (Q : Int32 → Prop) (y0 : Int32) (y1 : Int32) : Prop :=
  Q (if (1 : Int32) + (y1 + y0) < (1000000000 : Int32) then (1 : Int32) + (y1 + y0) else (1000000000 : Int32))
def p_Re_sizeWithLeastParts_38 (x1 : Int32) (te : Te) (re : Re) (Q : Int32 → Prop) (x2 : Int32) (y0 : Int32) : Prop :=
  (((2 : Int32) ≤ x2 → p_Te_secondOf x1 te (fun r56 => (vp_in r56 48 ∧ p_Re_sizeWithLeastParts_60 x1 te re Q (Re_least re r56.toNatClampNeg) y0))) ∧
    (¬ (2 : Int32) ≤ x2 → p_Re_sizeWithLeastParts_60 x1 te re Q (0 : Int32) y0))
def p_Re_sizeWithLeastParts (x1 : Int32) (te : Te) (re : Re) (Q : Int32 → Prop) : Prop :=
  p_Te_symbolOf x1 te (fun r9 => p_Te_placesOf r9 te (fun r12 => (((1 : Int32) ≤ r12 → p_Te_firstOf x1 te (fun r34 => (vp_in r34 48 ∧ p_Re_sizeWithLeastParts_38 x1 te re Q r12 (Re_least re r34.toNatClampNeg)))) ∧
    (¬ (1 : Int32) ≤ r12 → p_Re_sizeWithLeastParts_38 x1 te re Q r12 (0 : Int32)))))

abbrev rm_Re_shrink : Room := { frames := 2, cells := 0, slots := 0, locals := 44 }
def p_Re_shrink_19 (x1 : Int32) (te : Te) (Q : Int32 → Re → Prop) (k4 : Int32 → Int32 → Re → Prop) : Nat → Int32 → Int32 → Int32 → Int32 → Re → Prop
  | 0, _, _, _, _, _ => False
  | n + 1, x2, x3, x4, x5, re => ((x1 ≤ x5 → k4 x2 (x3 + (1 : Int32)) re) ∧
    (¬ x1 ≤ x5 → p_Re_isIn_reached x5 x3 re (fun r32 => ((r32 = 0 → p_Re_shrink_19 x1 te Q k4 n x2 x3 x4 (x5 + (1 : Int32)) re) ∧
      (¬ r32 = 0 → (vp_in x5 48 ∧ (((Re_least re x5.toNatClampNeg) ≤ x4 → p_Re_shrink_19 x1 te Q k4 n x2 x3 x4 (x5 + (1 : Int32)) re) ∧
        (¬ (Re_least re x5.toNatClampNeg) ≤ x4 → (vp_in x5 48 ∧ ∀ re58 : Re, re58 = Re_least_s re (upd (Re_least re) x5.toNatClampNeg x4) → p_Re_shrink_19 x1 te Q k4 n (1 : Int32) x3 x4 (x5 + (1 : Int32)) re58)))))))))
def p_Re_shrink_4 (x1 : Int32) (te : Te) (Q : Int32 → Re → Prop) : Nat → Int32 → Int32 → Re → Prop
  | 0, _, _, _ => False
  | n + 1, x2, x3, re => ((x1 ≤ x3 → (isB x2 ∧ Q x2 re)) ∧
    (¬ x1 ≤ x3 → p_Re_sizeWithLeastParts x3 te re (fun r11 => (∃ f, p_Re_shrink_19 x1 te Q (fun a0 a1 a2 => p_Re_shrink_4 x1 te Q n a0 a1 a2) f x2 x3 r11 (0 : Int32) re))))
def p_Re_shrink (x1 : Int32) (te : Te) (re : Re) (Q : Int32 → Re → Prop) : Prop :=
  (∃ f, p_Re_shrink_4 x1 te Q f (0 : Int32) (0 : Int32) re)

abbrev rm_Re_leastSize : Room := { frames := 3, cells := 0, slots := 0, locals := 69 }
def p_Re_leastSize_63 (x1 : Int32) (te : Te) (Q : Int32 → Re → Prop) (re : Re) : Prop :=
  (vp_in x1 48 ∧ Q (Re_least re x1.toNatClampNeg) re)
def p_Re_leastSize_40 (x1 : Int32) (te : Te) (Q : Int32 → Re → Prop) : Nat → Int32 → Int32 → Int32 → Re → Prop
  | 0, _, _, _, _ => False
  | n + 1, x2, x3, x4, re => (((48 : Int32) < x4 → p_Re_leastSize_63 x1 te Q re) ∧
    (¬ (48 : Int32) < x4 → ((x3 = 0 → p_Re_leastSize_63 x1 te Q re) ∧
      (¬ x3 = 0 → p_Re_shrink x2 te re (fun r53 re53 => p_Re_leastSize_40 x1 te Q n x2 r53 (x4 + (1 : Int32)) re53)))))
def p_Re_leastSize_10 (x1 : Int32) (te : Te) (Q : Int32 → Re → Prop) : Nat → Int32 → Int32 → Re → Prop
  | 0, _, _, _ => False
  | n + 1, x2, x3, re => ((x2 ≤ x3 → (∃ f, p_Re_leastSize_40 x1 te Q f x2 (1 : Int32) (0 : Int32) re)) ∧
    (¬ x2 ≤ x3 → p_Te_sizeOf x3 te (fun r25 => (vp_in x3 48 ∧ ∀ re28 : Re, re28 = Re_least_s re (upd (Re_least re) x3.toNatClampNeg r25) → p_Re_leastSize_10 x1 te Q n x2 (x3 + (1 : Int32)) re28))))
def p_Re_leastSize (x1 : Int32) (te : Te) (re : Re) (Q : Int32 → Re → Prop) : Prop :=
  p_Te_count te (fun r4 => (∃ f, p_Re_leastSize_10 x1 te Q f r4 (0 : Int32) re))

abbrev rm_Ar_fillI_states : Room := { frames := 0, cells := 0, slots := 0, locals := 0 }
def p_Ar_fillI_states_5 (x1 : Int32) (Q : La → Prop) : Nat → Int32 → Int32 → La → Prop
  | 0, _, _, _ => False
  | n + 1, x2, x3, la => ((x3 ≤ x2 → Q la) ∧
    (¬ x3 ≤ x2 → (vp_in x2 48 ∧ ∀ la13 : La, la13 = La_states_s la (upd (La_states la) x2.toNatClampNeg x1) → p_Ar_fillI_states_5 x1 Q n (x2 + (1 : Int32)) x3 la13)))
def p_Ar_fillI_states (x1 : Int32) (la : La) (Q : La → Prop) : Prop :=
  (∃ f, p_Ar_fillI_states_5 x1 Q f (0 : Int32) (48 : Int32) la)

abbrev rm_La_addStates : Room := { frames := 0, cells := 0, slots := 0, locals := 0 }
def p_La_addStates_24 (x1 : Int32) (x2 : Int32) (Q : Int32 → La → Prop) (x3 : Int32) (y0 : Int32) (la : La) : Prop :=
  (vp_in x1 48 ∧ ∀ la32 : La, la32 = La_states_s la (upd (La_states la) x1.toNatClampNeg x3) → (isB y0 ∧ Q y0 la32))
def p_La_addStates (x1 : Int32) (x2 : Int32) (la : La) (Q : Int32 → La → Prop) : Prop :=
  (vp_in x1 48 ∧ (vp_in x1 48 ∧ ((((La_states la x1.toNatClampNeg) ||| x2) = (La_states la x1.toNatClampNeg) → p_La_addStates_24 x1 x2 Q ((La_states la x1.toNatClampNeg) ||| x2) (0 : Int32) la) ∧
    (¬ ((La_states la x1.toNatClampNeg) ||| x2) = (La_states la x1.toNatClampNeg) → p_La_addStates_24 x1 x2 Q ((La_states la x1.toNatClampNeg) ||| x2) (1 : Int32) la))))

abbrev rm_La_runFromParts : Room := { frames := 1, cells := 0, slots := 0, locals := 25 }
def p_La_runFromParts_84 (te : Te) (au : Au) (Q : Int32 → La → Prop) (k4 : Int32 → Int32 → La → Prop) (x1 : Int32) (x2 : Int32) (x3 : Int32) (x5 : Int32) (y0 : Int32) (la : La) : Prop :=
  p_Au_targetsOf x3 x5 y0 au (fun r98 => p_La_addStates x2 r98 la (fun r101 la101 => k4 (x1 ||| r101) (x2 + (1 : Int32)) la101))
def p_La_runFromParts_58 (te : Te) (au : Au) (Q : Int32 → La → Prop) (k4 : Int32 → Int32 → La → Prop) (x1 : Int32) (x2 : Int32) (x3 : Int32) (x4 : Int32) (y0 : Int32) (la : La) : Prop :=
  (((2 : Int32) ≤ x4 → p_Te_secondOf x2 te (fun r80 => (vp_in r80 48 ∧ p_La_runFromParts_84 te au Q k4 x1 x2 x3 y0 (La_states la r80.toNatClampNeg) la))) ∧
    (¬ (2 : Int32) ≤ x4 → p_La_runFromParts_84 te au Q k4 x1 x2 x3 y0 (63 : Int32) la))
def p_La_runFromParts_4 (te : Te) (au : Au) (Q : Int32 → La → Prop) : Nat → Int32 → Int32 → La → Prop
  | 0, _, _, _ => False
  | n + 1, x1, x2, la => p_Te_count te (fun r9 => ((r9 ≤ x2 → (isB x1 ∧ Q x1 la)) ∧
    (¬ r9 ≤ x2 → p_Te_symbolOf x2 te (fun r20 => p_Te_placesOf r20 te (fun r29 => (((1 : Int32) ≤ r29 → p_Te_firstOf x2 te (fun r54 => (vp_in r54 48 ∧ p_La_runFromParts_58 te au Q (fun a0 a1 a2 => p_La_runFromParts_4 te au Q n a0 a1 a2) x1 x2 r20 r29 (La_states la r54.toNatClampNeg) la))) ∧
      (¬ (1 : Int32) ≤ r29 → p_La_runFromParts_58 te au Q (fun a0 a1 a2 => p_La_runFromParts_4 te au Q n a0 a1 a2) x1 x2 r20 r29 (63 : Int32) la)))))))
def p_La_runFromParts  (te : Te) (au : Au) (la : La) (Q : Int32 → La → Prop) : Prop :=
  (∃ f, p_La_runFromParts_4 te au Q f (0 : Int32) (0 : Int32) la)

abbrev rm_La_statesAt : Room := { frames := 2, cells := 0, slots := 0, locals := 51 }
def p_La_statesAt (x1 : Int32) (te : Te) (au : Au) (la : La) (Q : Int32 → La → Prop) : Prop :=
  p_Ar_fillI_states (0 : Int32) la (fun la5 => p_La_runFromParts te au la5 (fun r9 la9 => (vp_in x1 48 ∧ Q (La_states la9 x1.toNatClampNeg) la9)))

abbrev rm_La_passOn : Room := { frames := 2, cells := 0, slots := 0, locals := 44 }
def p_La_passOn_22 (x1 : Int32) (te : Te) (re : Re) (Q : Int32 → La → Prop) (k13 : Int32 → Int32 → Int32 → La → Prop) : Nat → Int32 → Int32 → Int32 → Int32 → La → Prop
  | 0, _, _, _, _, _ => False
  | n + 1, x2, x3, x4, x5, la => ((x3 ≤ x5 → k13 x2 x3 (x4 + (1 : Int32)) la) ∧
    (¬ x3 ≤ x5 → p_Re_leads x4 x5 re (fun r36 => ((r36 = 0 → p_La_passOn_22 x1 te re Q k13 n x2 x3 x4 (x5 + (1 : Int32)) la) ∧
      (¬ r36 = 0 → ((x1 = 0 → (vp_in x5 48 ∧ p_La_addStates x4 (La_states la x5.toNatClampNeg) la (fun r73 la73 => p_La_passOn_22 x1 te re Q k13 n (x2 ||| r73) x3 x4 (x5 + (1 : Int32)) la73))) ∧
        (¬ x1 = 0 → (vp_in x4 48 ∧ p_La_addStates x5 (La_states la x4.toNatClampNeg) la (fun r57 la57 => p_La_passOn_22 x1 te re Q k13 n (x2 ||| r57) x3 x4 (x5 + (1 : Int32)) la57)))))))))
def p_La_passOn_13 (x1 : Int32) (te : Te) (re : Re) (Q : Int32 → La → Prop) : Nat → Int32 → Int32 → Int32 → La → Prop
  | 0, _, _, _, _ => False
  | n + 1, x2, x3, x4, la => ((x3 ≤ x4 → (isB x2 ∧ Q x2 la)) ∧
    (¬ x3 ≤ x4 → (∃ f, p_La_passOn_22 x1 te re Q (fun a0 a1 a2 a3 => p_La_passOn_13 x1 te re Q n a0 a1 a2 a3) f x2 x3 x4 (0 : Int32) la)))
def p_La_passOn (x1 : Int32) (te : Te) (re : Re) (la : La) (Q : Int32 → La → Prop) : Prop :=
  p_Te_count te (fun r6 => (∃ f, p_La_passOn_13 x1 te re Q f (0 : Int32) r6 (0 : Int32) la))

abbrev rm_La_spread : Room := { frames := 3, cells := 0, slots := 0, locals := 69 }
def p_La_spread_12 (x1 : Int32) (te : Te) (au : Au) (re : Re) (Q : La → Prop) : Nat → Int32 → Int32 → La → Prop
  | 0, _, _, _ => False
  | n + 1, x2, x3, la => (((289 : Int32) ≤ x3 → Q la) ∧
    (¬ (289 : Int32) ≤ x3 → ((x2 = 0 → Q la) ∧
      (¬ x2 = 0 → p_La_runFromParts te au la (fun r24 la24 => p_La_passOn x1 te re la24 (fun r30 la30 => ((r30 = 0 → p_La_spread_12 x1 te au re Q n r24 (x3 + (1 : Int32)) la30) ∧
        (¬ r30 = 0 → p_La_spread_12 x1 te au re Q n (1 : Int32) (x3 + (1 : Int32)) la30))))))))
def p_La_spread (x1 : Int32) (te : Te) (au : Au) (re : Re) (la : La) (Q : La → Prop) : Prop :=
  p_Ar_fillI_states (0 : Int32) la (fun la5 => (∃ f, p_La_spread_12 x1 te au re Q f (1 : Int32) (0 : Int32) la5))

abbrev rm_La_statesBefore : Room := { frames := 4, cells := 0, slots := 0, locals := 92 }
def p_La_statesBefore (x1 : Int32) (te : Te) (au : Au) (re : Re) (la : La) (Q : Int32 → La → Prop) : Prop :=
  p_La_spread (1 : Int32) te au re la (fun la2 => (vp_in x1 48 ∧ Q (La_states la2 x1.toNatClampNeg) la2))

abbrev rm_La_statesBehind : Room := { frames := 4, cells := 0, slots := 0, locals := 92 }
def p_La_statesBehind (x1 : Int32) (te : Te) (au : Au) (re : Re) (la : La) (Q : Int32 → La → Prop) : Prop :=
  p_La_spread (0 : Int32) te au re la (fun la2 => (vp_in x1 48 ∧ Q (La_states la2 x1.toNatClampNeg) la2))

abbrev rm_Sp_rebuild : Room := { frames := 4, cells := 0, slots := 0, locals := 94 }
def p_Sp_rebuild_116 (x1 : Int32) (x2 : Int32) (sp : Sp) (Q : Int32 → Te → Prop) (x3 : Int32) (x4 : Int32) (te : Te) : Prop :=
  ((¬ x4 = (-1 : Int32) → Q x4 te) ∧
    (x4 = (-1 : Int32) → p_Te_keepFirst x3 te (fun te127 => Q x4 te127)))
def p_Sp_rebuild_86 (x1 : Int32) (x2 : Int32) (sp : Sp) (Q : Int32 → Te → Prop) (k16 : Int32 → Int32 → Int32 → Te → Prop) (x3 : Int32) (x5 : Int32) (x6 : Int32) (x7 : Int32) (y0 : Int32) (te : Te) : Prop :=
  p_Te_symbolOf x6 te (fun r98 => p_Te_findOrAppend r98 x7 y0 te (fun r105 te105 => k16 x3 r105 (x5 + (-1 : Int32)) te105))
def p_Sp_rebuild_60 (x1 : Int32) (x2 : Int32) (sp : Sp) (Q : Int32 → Te → Prop) (k16 : Int32 → Int32 → Int32 → Te → Prop) (x3 : Int32) (x4 : Int32) (x5 : Int32) (x6 : Int32) (y0 : Int32) (te : Te) : Prop :=
  (vp_in x5 48 ∧ (((Sp_wentFirst sp x5.toNatClampNeg) = 0 → p_Sp_rebuild_86 x1 x2 sp Q k16 x3 x5 x6 y0 x4 te) ∧
    (¬ (Sp_wentFirst sp x5.toNatClampNeg) = 0 → p_Te_secondOf x6 te (fun r78 => p_Sp_rebuild_86 x1 x2 sp Q k16 x3 x5 x6 y0 r78 te))))
def p_Sp_rebuild_16 (x1 : Int32) (x2 : Int32) (sp : Sp) (Q : Int32 → Te → Prop) : Nat → Int32 → Int32 → Int32 → Te → Prop
  | 0, _, _, _, _ => False
  | n + 1, x3, x4, x5, te => ((x5 < 0 → p_Sp_rebuild_116 x1 x2 sp Q x3 x4 te) ∧
    (¬ x5 < 0 → ((x4 = (-1 : Int32) → p_Sp_rebuild_116 x1 x2 sp Q x3 x4 te) ∧
      (¬ x4 = (-1 : Int32) → (vp_in x5 48 ∧ (vp_in x5 48 ∧ (((Sp_wentFirst sp x5.toNatClampNeg) = 0 → p_Te_firstOf (Sp_path sp x5.toNatClampNeg) te (fun r57 => p_Sp_rebuild_60 x1 x2 sp Q (fun a0 a1 a2 a3 => p_Sp_rebuild_16 x1 x2 sp Q n a0 a1 a2 a3) x3 x4 x5 (Sp_path sp x5.toNatClampNeg) r57 te)) ∧
        (¬ (Sp_wentFirst sp x5.toNatClampNeg) = 0 → p_Sp_rebuild_60 x1 x2 sp Q (fun a0 a1 a2 a3 => p_Sp_rebuild_16 x1 x2 sp Q n a0 a1 a2 a3) x3 x4 x5 (Sp_path sp x5.toNatClampNeg) x4 te))))))))
def p_Sp_rebuild (x1 : Int32) (x2 : Int32) (te : Te) (sp : Sp) (Q : Int32 → Te → Prop) : Prop :=
  p_Te_count te (fun r4 => (∃ f, p_Sp_rebuild_16 x1 x2 sp Q f r4 x2 (x1 - (1 : Int32)) te))

abbrev rm_Sp_targetOf : Room := { frames := 5, cells := 0, slots := 0, locals := 122 }
def p_Sp_targetOf_151 (x1 : Int32) (x2 : Int32) (ru : Ru) (Q : Int32 → Te → Sp → Prop) (x3 : Int32) (x4 : Int32) (x5 : Int64) (te : Te) (sp : Sp) : Prop :=
  p_Ru_rightAt x3 x5.toInt32 ru (fun r162 => p_Sp_rebuild x4 r162 te sp (fun r165 te165 => Q r165 te165 sp))
def p_Sp_targetOf_118 (x1 : Int32) (x2 : Int32) (ru : Ru) (Q : Int32 → Te → Sp → Prop) (k13 : Int32 → Int32 → Int64 → Te → Sp → Prop) (x3 : Int32) (x4 : Int32) (x7 : Int32) (y0 : Int64) (y1 : Int64) (te : Te) (sp : Sp) : Prop :=
  (vp_in x4 48 ∧ (((Sp_wentFirst sp x4.toNatClampNeg) = 0 → p_Te_secondOf x3 te (fun r141 => k13 r141 (x4 + (1 : Int32)) (y1 - y0) te sp)) ∧
    (¬ (Sp_wentFirst sp x4.toNatClampNeg) = 0 → k13 x7 (x4 + (1 : Int32)) (y1 - y0) te sp)))
def p_Sp_targetOf_95 (x1 : Int32) (x2 : Int32) (ru : Ru) (Q : Int32 → Te → Sp → Prop) (k13 : Int32 → Int32 → Int64 → Te → Sp → Prop) (x3 : Int32) (x4 : Int32) (x5 : Int64) (x7 : Int32) (y0 : Int32) (y1 : Int32) (te : Te) (sp : Sp) : Prop :=
  (vp_in y1 48 ∧ ∀ sp95 : Sp, sp95 = Sp_wentFirst_s sp (upd (Sp_wentFirst sp) y1.toNatClampNeg (vp_nar .boolean y0)) → (vp_in x4 48 ∧ (((Sp_wentFirst sp95 x4.toNatClampNeg) = 0 → p_Sp_countIn x7 sp95 (fun r115 => p_Sp_targetOf_118 x1 x2 ru Q k13 x3 x4 x7 r115 x5 te sp95)) ∧
    (¬ (Sp_wentFirst sp95 x4.toNatClampNeg) = 0 → p_Sp_targetOf_118 x1 x2 ru Q k13 x3 x4 x7 (0 : Int64) x5 te sp95))))
def p_Sp_targetOf_13 (x1 : Int32) (x2 : Int32) (ru : Ru) (Q : Int32 → Te → Sp → Prop) : Nat → Int32 → Int32 → Int64 → Te → Sp → Prop
  | 0, _, _, _, _, _ => False
  | n + 1, x3, x4, x5, te, sp => (((48 : Int32) ≤ x4 → p_Sp_targetOf_151 x1 x2 ru Q x3 x4 x5 te sp) ∧
    (¬ (48 : Int32) ≤ x4 → ((x3 = (-1 : Int32) → p_Sp_targetOf_151 x1 x2 ru Q x3 x4 x5 te sp) ∧
      (¬ x3 = (-1 : Int32) → p_Ru_countAt x3 ru (fun r32 => (((lg_cmp x5 r32.toInt64) < 0 → p_Sp_targetOf_151 x1 x2 ru Q x3 x4 x5 te sp) ∧
        (¬ (lg_cmp x5 r32.toInt64) < 0 → p_Ru_countAt x3 ru (fun r47 => p_Te_firstOf x3 te (fun r59 => (vp_in x4 48 ∧ ∀ sp71 : Sp, sp71 = Sp_path_s sp (upd (Sp_path sp) x4.toNatClampNeg x3) → p_Sp_countIn r59 sp71 (fun r83 => ((0 ≤ (lg_cmp (x5 - r47.toInt64) r83) → p_Sp_targetOf_95 x1 x2 ru Q (fun a0 a1 a2 a3 a4 => p_Sp_targetOf_13 x1 x2 ru Q n a0 a1 a2 a3 a4) x3 x4 (x5 - r47.toInt64) r59 (0 : Int32) x4 te sp71) ∧
          (¬ 0 ≤ (lg_cmp (x5 - r47.toInt64) r83) → p_Sp_targetOf_95 x1 x2 ru Q (fun a0 a1 a2 a3 a4 => p_Sp_targetOf_13 x1 x2 ru Q n a0 a1 a2 a3 a4) x3 x4 (x5 - r47.toInt64) r59 (1 : Int32) x4 te sp71)))))))))))))
def p_Sp_targetOf (x1 : Int32) (x2 : Int32) (te : Te) (ru : Ru) (sp : Sp) (Q : Int32 → Te → Sp → Prop) : Prop :=
  p_Sp_countAll te ru sp (fun sp1 => (∃ f, p_Sp_targetOf_13 x1 x2 ru Q f x1 (0 : Int32) x2.toInt64 te sp1))

abbrev rm_Ar_fillJ_after : Room := { frames := 0, cells := 0, slots := 0, locals := 0 }
def p_Ar_fillJ_after_6 (x1 : Int64) (Q : Le → Prop) : Nat → Int32 → Int32 → Le → Prop
  | 0, _, _, _ => False
  | n + 1, x3, x4, le => ((x4 ≤ x3 → Q le) ∧
    (¬ x4 ≤ x3 → (vp_in x3 3136 ∧ ∀ le15 : Le, le15 = Le_after_s le (vp_updL (Le_after le) x3.toNatClampNeg x1) → p_Ar_fillJ_after_6 x1 Q n (x3 + (1 : Int32)) x4 le15)))
def p_Ar_fillJ_after (x1 : Int64) (le : Le) (Q : Le → Prop) : Prop :=
  (∃ f, p_Ar_fillJ_after_6 x1 Q f (0 : Int32) (3136 : Int32) le)

abbrev rm_Ar_fillJ_inLevels : Room := { frames := 0, cells := 0, slots := 0, locals := 0 }
def p_Ar_fillJ_inLevels_6 (x1 : Int64) (Q : Le → Prop) : Nat → Int32 → Int32 → Le → Prop
  | 0, _, _, _ => False
  | n + 1, x3, x4, le => ((x4 ≤ x3 → Q le) ∧
    (¬ x4 ≤ x3 → (vp_in x3 7 ∧ ∀ le15 : Le, le15 = Le_inLevels_s le (vp_updL (Le_inLevels le) x3.toNatClampNeg x1) → p_Ar_fillJ_inLevels_6 x1 Q n (x3 + (1 : Int32)) x4 le15)))
def p_Ar_fillJ_inLevels (x1 : Int64) (le : Le) (Q : Le → Prop) : Prop :=
  (∃ f, p_Ar_fillJ_inLevels_6 x1 Q f (0 : Int32) (7 : Int32) le)

abbrev rm_Ar_fillJ_newest : Room := { frames := 0, cells := 0, slots := 0, locals := 0 }
def p_Ar_fillJ_newest_6 (x1 : Int64) (Q : Le → Prop) : Nat → Int32 → Int32 → Le → Prop
  | 0, _, _, _ => False
  | n + 1, x3, x4, le => ((x4 ≤ x3 → Q le) ∧
    (¬ x4 ≤ x3 → (vp_in x3 7 ∧ ∀ le15 : Le, le15 = Le_newest_s le (vp_updL (Le_newest le) x3.toNatClampNeg x1) → p_Ar_fillJ_newest_6 x1 Q n (x3 + (1 : Int32)) x4 le15)))
def p_Ar_fillJ_newest (x1 : Int64) (le : Le) (Q : Le → Prop) : Prop :=
  (∃ f, p_Ar_fillJ_newest_6 x1 Q f (0 : Int32) (7 : Int32) le)

abbrev rm_Le_countWithParts : Room := { frames := 1, cells := 0, slots := 0, locals := 21 }
def p_Le_countWithParts_104 (x1 : Int32) (te : Te) (Q : Le → Prop) (k17 : Int64 → Int32 → Le → Prop) (x4 : Int32) (x5 : Int32) (y0 : Int64) (y1 : Int64) (le : Le) : Prop :=
  (((2 : Int32) ≤ x5 → p_Te_secondOf x4 te (fun r124 => k17 ((y1 ||| y0) ||| ((1 : Int64) <<< (r124.toInt64 &&& 63))) (x4 + (-1 : Int32)) le)) ∧
    (¬ (2 : Int32) ≤ x5 → k17 ((y1 ||| y0) ||| (0 : Int64)) (x4 + (-1 : Int32)) le))
def p_Le_countWithParts_17 (x1 : Int32) (te : Te) (Q : Le → Prop) : Nat → Int64 → Int32 → Le → Prop
  | 0, _, _, _ => False
  | n + 1, x2, x4, le => ((x4 < 0 → Q le) ∧
    (¬ x4 < 0 → (((lg_cmp ((x2 >>> (x4.toInt64 &&& 63)) &&& (1 : Int64)) (0 : Int64)) = 0 → p_Le_countWithParts_17 x1 te Q n x2 (x4 + (-1 : Int32)) le) ∧
      (¬ (lg_cmp ((x2 >>> (x4.toInt64 &&& 63)) &&& (1 : Int64)) (0 : Int64)) = 0 → (vp_in x4 448 ∧ (((Le_counted le x4.toNatClampNeg) = 0 → (vp_in x4 448 ∧ ∀ le53 : Le, le53 = Le_counted_s le (upd (Le_counted le) x4.toNatClampNeg (vp_nar .boolean (1 : Int32))) → (∀ le61 : Le, le61 = Le_countedTerms_s le53 ((Le_countedTerms le53) + (1 : Int32)) → p_Te_symbolOf x4 te (fun r74 => p_Te_placesOf r74 te (fun r77 => (((1 : Int32) ≤ r77 → p_Te_firstOf x4 te (fun r100 => p_Le_countWithParts_104 x1 te Q (fun a0 a1 a2 => p_Le_countWithParts_17 x1 te Q n a0 a1 a2) x4 r77 ((1 : Int64) <<< (r100.toInt64 &&& 63)) x2 le61)) ∧
          (¬ (1 : Int32) ≤ r77 → p_Le_countWithParts_104 x1 te Q (fun a0 a1 a2 => p_Le_countWithParts_17 x1 te Q n a0 a1 a2) x4 r77 (0 : Int64) x2 le61))))))) ∧
        (¬ (Le_counted le x4.toNatClampNeg) = 0 → p_Le_countWithParts_17 x1 te Q n x2 (x4 + (-1 : Int32)) le)))))))
def p_Le_countWithParts (x1 : Int32) (te : Te) (le : Le) (Q : Le → Prop) : Prop :=
  (vp_in x1 448 ∧ (((Le_counted le x1.toNatClampNeg) = 0 → (∃ f, p_Le_countWithParts_17 x1 te Q f ((1 : Int64) <<< (x1.toInt64 &&& 63)) x1 le)) ∧
    (¬ (Le_counted le x1.toNatClampNeg) = 0 → Q le)))

abbrev rm_Le_include_inLevels : Room := { frames := 0, cells := 0, slots := 0, locals := 0 }
def p_Le_include_inLevels (x1 : Int32) (x2 : Int32) (le : Le) (Q : Le → Prop) : Prop :=
  ((x2 = (-1 : Int32) → Q le) ∧
    (¬ x2 = (-1 : Int32) → (vp_in (x1 + (x2 / (64 : Int32))) 7 ∧ (vp_in (x1 + (x2 / (64 : Int32))) 7 ∧ ∀ le21 : Le, le21 = Le_inLevels_s le (vp_updL (Le_inLevels le) (x1 + (x2 / (64 : Int32))).toNatClampNeg ((Le_inLevels le (x1 + (x2 / (64 : Int32))).toNatClampNeg) ||| ((1 : Int64) <<< ((x2 - x2 / (64 : Int32) * (64 : Int32)).toInt64 &&& 63)))) → Q le21))))

abbrev rm_Le_include_newest : Room := { frames := 0, cells := 0, slots := 0, locals := 0 }
def p_Le_include_newest (x1 : Int32) (x2 : Int32) (le : Le) (Q : Le → Prop) : Prop :=
  ((x2 = (-1 : Int32) → Q le) ∧
    (¬ x2 = (-1 : Int32) → (vp_in (x1 + (x2 / (64 : Int32))) 7 ∧ (vp_in (x1 + (x2 / (64 : Int32))) 7 ∧ ∀ le21 : Le, le21 = Le_newest_s le (vp_updL (Le_newest le) (x1 + (x2 / (64 : Int32))).toNatClampNeg ((Le_newest le (x1 + (x2 / (64 : Int32))).toNatClampNeg) ||| ((1 : Int64) <<< ((x2 - x2 / (64 : Int32) * (64 : Int32)).toInt64 &&& 63)))) → Q le21))))

abbrev rm_Le_start : Room := { frames := 2, cells := 0, slots := 0, locals := 46 }
def p_Le_start_26 (x1 : Int32) (te : Te) (Q : Le → Prop) : Nat → Int32 → Le → Prop
  | 0, _, _ => False
  | n + 1, x2, le => (((448 : Int32) ≤ x2 → (∀ le55 : Le, le55 = Le_countedTerms_s le (0 : Int32) → p_Le_countWithParts x1 te le55 (fun le60 => p_Le_include_inLevels (0 : Int32) x1 le60 (fun le69 => p_Le_include_newest (0 : Int32) x1 le69 (fun le78 => Q le78))))) ∧
    (¬ (448 : Int32) ≤ x2 → (vp_in x2 448 ∧ ∀ le39 : Le, le39 = Le_counted_s le (upd (Le_counted le) x2.toNatClampNeg (vp_nar .boolean (0 : Int32))) → (vp_in x2 448 ∧ ∀ le46 : Le, le46 = Le_expanded_s le39 (upd (Le_expanded le39) x2.toNatClampNeg (vp_nar .boolean (0 : Int32))) → p_Le_start_26 x1 te Q n (x2 + (1 : Int32)) le46))))
def p_Le_start (x1 : Int32) (te : Te) (le : Le) (Q : Le → Prop) : Prop :=
  p_Ar_fillJ_after (0 : Int64) le (fun le5 => p_Ar_fillJ_inLevels (0 : Int64) le5 (fun le13 => p_Ar_fillJ_newest (0 : Int64) le13 (fun le21 => (∃ f, p_Le_start_26 x1 te Q f (0 : Int32) le21))))

abbrev rm_Le_isIn_inLevels : Room := { frames := 0, cells := 0, slots := 0, locals := 0 }
def p_Le_isIn_inLevels (x1 : Int32) (le : Le) (Q : Int32 → Prop) : Prop :=
  (vp_in (x1 / (64 : Int32)) 7 ∧ (((lg_cmp (((Le_inLevels le (x1 / (64 : Int32)).toNatClampNeg) >>> ((x1 - x1 / (64 : Int32) * (64 : Int32)).toInt64 &&& 63)) &&& (1 : Int64)) (0 : Int64)) = 0 → Q (0 : Int32)) ∧
    (¬ (lg_cmp (((Le_inLevels le (x1 / (64 : Int32)).toNatClampNeg) >>> ((x1 - x1 / (64 : Int32) * (64 : Int32)).toInt64 &&& 63)) &&& (1 : Int64)) (0 : Int64)) = 0 → Q (1 : Int32))))

abbrev rm_Le_findWaiting : Room := { frames := 1, cells := 0, slots := 0, locals := 20 }
def p_Le_findWaiting_4 (te : Te) (Q : Int32 → Le → Prop) : Nat → Int32 → Int32 → Le → Prop
  | 0, _, _, _ => False
  | n + 1, x1, x2, le => p_Te_count te (fun r9 => ((r9 ≤ x2 → Q x1 le) ∧
    (¬ r9 ≤ x2 → (vp_in x2 448 ∧ (((Le_counted le x2.toNatClampNeg) = 0 → p_Le_findWaiting_4 te Q n x1 (x2 + (1 : Int32)) le) ∧
      (¬ (Le_counted le x2.toNatClampNeg) = 0 → (vp_in x2 448 ∧ ((¬ (Le_expanded le x2.toNatClampNeg) = 0 → p_Le_findWaiting_4 te Q n x1 (x2 + (1 : Int32)) le) ∧
        ((Le_expanded le x2.toNatClampNeg) = 0 → (vp_in x1 448 ∧ ∀ le42 : Le, le42 = Le_waiting_s le (upd (Le_waiting le) x1.toNatClampNeg x2) → p_Le_findWaiting_4 te Q n (x1 + (1 : Int32)) (x2 + (1 : Int32)) le42))))))))))
def p_Le_findWaiting  (te : Te) (le : Le) (Q : Int32 → Le → Prop) : Prop :=
  (∃ f, p_Le_findWaiting_4 te Q f (0 : Int32) (0 : Int32) le)

abbrev rm_Ar_fillJ_coming : Room := { frames := 0, cells := 0, slots := 0, locals := 0 }
def p_Ar_fillJ_coming_6 (x1 : Int64) (Q : Le → Prop) : Nat → Int32 → Int32 → Le → Prop
  | 0, _, _, _ => False
  | n + 1, x3, x4, le => ((x4 ≤ x3 → Q le) ∧
    (¬ x4 ≤ x3 → (vp_in x3 7 ∧ ∀ le15 : Le, le15 = Le_coming_s le (vp_updL (Le_coming le) x3.toNatClampNeg x1) → p_Ar_fillJ_coming_6 x1 Q n (x3 + (1 : Int32)) x4 le15)))
def p_Ar_fillJ_coming (x1 : Int64) (le : Le) (Q : Le → Prop) : Prop :=
  (∃ f, p_Ar_fillJ_coming_6 x1 Q f (0 : Int32) (7 : Int32) le)

abbrev rm_Le_isIn_newest : Room := { frames := 0, cells := 0, slots := 0, locals := 0 }
def p_Le_isIn_newest (x1 : Int32) (le : Le) (Q : Int32 → Prop) : Prop :=
  (vp_in (x1 / (64 : Int32)) 7 ∧ (((lg_cmp (((Le_newest le (x1 / (64 : Int32)).toNatClampNeg) >>> ((x1 - x1 / (64 : Int32) * (64 : Int32)).toInt64 &&& 63)) &&& (1 : Int64)) (0 : Int64)) = 0 → Q (0 : Int32)) ∧
    (¬ (lg_cmp (((Le_newest le (x1 / (64 : Int32)).toNatClampNeg) >>> ((x1 - x1 / (64 : Int32) * (64 : Int32)).toInt64 &&& 63)) &&& (1 : Int64)) (0 : Int64)) = 0 → Q (1 : Int32))))

abbrev rm_Le_goOn : Room := { frames := 1, cells := 0, slots := 0, locals := 24 }
def p_Le_goOn_74 (te : Te) (Q : Le → Prop) : Nat → Int32 → Le → Prop
  | 0, _, _ => False
  | n + 1, x1, le => (((7 : Int32) ≤ x1 → Q le) ∧
    (¬ (7 : Int32) ≤ x1 → (vp_in x1 7 ∧ (vp_in x1 7 ∧ (vp_in x1 7 ∧ ∀ le102 : Le, le102 = Le_newest_s le (vp_updL (Le_newest le) x1.toNatClampNeg ((Le_coming le x1.toNatClampNeg) &&& ((Le_inLevels le x1.toNatClampNeg) ^^^ (-1 : Int64)))) → (vp_in x1 7 ∧ (vp_in x1 7 ∧ (vp_in x1 7 ∧ ∀ le117 : Le, le117 = Le_inLevels_s le102 (vp_updL (Le_inLevels le102) x1.toNatClampNeg ((Le_inLevels le102 x1.toNatClampNeg) ||| (Le_newest le102 x1.toNatClampNeg))) → p_Le_goOn_74 te Q n (x1 + (1 : Int32)) le117))))))))
def p_Le_goOn_23 (te : Te) (Q : Le → Prop) (k10 : Int32 → Le → Prop) : Nat → Int32 → Int32 → Le → Prop
  | 0, _, _, _ => False
  | n + 1, x1, x2, le => (((7 : Int32) ≤ x2 → k10 (x1 + (1 : Int32)) le) ∧
    (¬ (7 : Int32) ≤ x2 → p_Le_isIn_newest x1 le (fun r34 => ((r34 = 0 → k10 (x1 + (1 : Int32)) le) ∧
      (¬ r34 = 0 → (vp_in x2 7 ∧ (vp_in ((x1 * (7 : Int32)) + x2) 3136 ∧ (vp_in x2 7 ∧ ∀ le59 : Le, le59 = Le_coming_s le (vp_updL (Le_coming le) x2.toNatClampNeg ((Le_coming le x2.toNatClampNeg) ||| (Le_after le ((x1 * (7 : Int32)) + x2).toNatClampNeg))) → p_Le_goOn_23 te Q k10 n x1 (x2 + (1 : Int32)) le59))))))))
def p_Le_goOn_10 (te : Te) (Q : Le → Prop) : Nat → Int32 → Le → Prop
  | 0, _, _ => False
  | n + 1, x1, le => p_Te_count te (fun r15 => ((r15 ≤ x1 → (∃ f, p_Le_goOn_74 te Q f (0 : Int32) le)) ∧
    (¬ r15 ≤ x1 → (∃ f, p_Le_goOn_23 te Q (fun a0 a1 => p_Le_goOn_10 te Q n a0 a1) f x1 (0 : Int32) le))))
def p_Le_goOn  (te : Te) (le : Le) (Q : Le → Prop) : Prop :=
  p_Ar_fillJ_coming (0 : Int64) le (fun le5 => (∃ f, p_Le_goOn_10 te Q f (0 : Int32) le5))

abbrev rm_Le_findCounted : Room := { frames := 3, cells := 0, slots := 0, locals := 70 }
def p_Le_findCounted (x1 : Int32) (x2 : Int32) (x3 : Int32) (te : Te) (le : Le) (Q : Int32 → Te → Le → Prop) : Prop :=
  p_Te_find x1 x2 x3 te (fun r7 => ((r7 = (-1 : Int32) → (∀ le34 : Le, le34 = Le_countedTerms_s le ((Le_countedTerms le) + (1 : Int32)) → (((Le_countedTerms le34) ≤ (400 : Int32) → p_Te_append x1 x2 x3 te (fun r56 te56 => ((r56 = (-1 : Int32) → Q r56 te56 le34) ∧
        (¬ r56 = (-1 : Int32) → (vp_in r56 448 ∧ ∀ le74 : Le, le74 = Le_counted_s le34 (upd (Le_counted le34) r56.toNatClampNeg (vp_nar .boolean (1 : Int32))) → Q r56 te56 le74))))) ∧
      (¬ (Le_countedTerms le34) ≤ (400 : Int32) → Q (-1 : Int32) te le34)))) ∧
    (¬ r7 = (-1 : Int32) → p_Le_countWithParts r7 te le (fun le21 => Q r7 te le21))))

abbrev rm_Le_include_after : Room := { frames := 0, cells := 0, slots := 0, locals := 0 }
def p_Le_include_after (x1 : Int32) (x2 : Int32) (le : Le) (Q : Le → Prop) : Prop :=
  ((x2 = (-1 : Int32) → Q le) ∧
    (¬ x2 = (-1 : Int32) → (vp_in (x1 + (x2 / (64 : Int32))) 3136 ∧ (vp_in (x1 + (x2 / (64 : Int32))) 3136 ∧ ∀ le21 : Le, le21 = Le_after_s le (vp_updL (Le_after le) (x1 + (x2 / (64 : Int32))).toNatClampNeg ((Le_after le (x1 + (x2 / (64 : Int32))).toNatClampNeg) ||| ((1 : Int64) <<< ((x2 - x2 / (64 : Int32) * (64 : Int32)).toInt64 &&& 63)))) → Q le21))))

abbrev rm_Le_stepInPart : Room := { frames := 4, cells := 0, slots := 0, locals := 95 }
def p_Le_stepInPart_122 (x1 : Int32) (x2 : Int32) (x3 : Int32) (Q : Te → Le → Prop) (k3 : Int32 → Te → Le → Prop) (k27 : Int32 → Int64 → Int32 → Te → Le → Prop) (x4 : Int32) (x5 : Int64) (x7 : Int32) (te : Te) (le : Le) : Prop :=
  k27 x4 ((x5.toUInt64 >>> ((1 : Int32).toInt64.toUInt64 &&& Int64.toUInt64 63)).toInt64) (x7 + (1 : Int32)) te le
def p_Le_stepInPart_119 (x1 : Int32) (x2 : Int32) (x3 : Int32) (Q : Te → Le → Prop) (k3 : Int32 → Te → Le → Prop) (k27 : Int32 → Int64 → Int32 → Te → Le → Prop) (x4 : Int32) (x5 : Int64) (x7 : Int32) (y0 : Int32) (y1 : Int32) (te : Te) (le : Le) : Prop :=
  p_Le_include_after y1 y0 le (fun le119 => p_Le_stepInPart_122 x1 x2 x3 Q k3 k27 x4 x5 x7 te le119)
def p_Le_stepInPart_27 (x1 : Int32) (x2 : Int32) (x3 : Int32) (Q : Te → Le → Prop) (k3 : Int32 → Te → Le → Prop) : Nat → Int32 → Int64 → Int32 → Te → Le → Prop
  | 0, _, _, _, _, _ => False
  | n + 1, x4, x5, x7, te, le => (((64 : Int32) ≤ x7 → k3 (x4 + (1 : Int32)) te le) ∧
    (¬ (64 : Int32) ≤ x7 → (((lg_cmp x5 (0 : Int64)) = 0 → k3 (x4 + (1 : Int32)) te le) ∧
      (¬ (lg_cmp x5 (0 : Int64)) = 0 → (((lg_cmp (x5 &&& (1 : Int64)) (0 : Int64)) = 0 → p_Le_stepInPart_122 x1 x2 x3 Q k3 (fun a0 a1 a2 a3 a4 => p_Le_stepInPart_27 x1 x2 x3 Q k3 n a0 a1 a2 a3 a4) x4 x5 x7 te le) ∧
        (¬ (lg_cmp (x5 &&& (1 : Int64)) (0 : Int64)) = 0 → ((x3 = 0 → p_Te_symbolOf x1 te (fun r103 => p_Te_firstOf x1 te (fun r111 => p_Le_findCounted r103 r111 ((x4 * (64 : Int32)) + x7) te le (fun r116 te116 le116 => p_Le_stepInPart_119 x1 x2 x3 Q k3 (fun a0 a1 a2 a3 a4 => p_Le_stepInPart_27 x1 x2 x3 Q k3 n a0 a1 a2 a3 a4) x4 x5 x7 r116 (x1 * (7 : Int32)) te116 le116)))) ∧
          (¬ x3 = 0 → p_Te_symbolOf x1 te (fun r78 => p_Te_secondOf x1 te (fun r88 => p_Le_findCounted r78 ((x4 * (64 : Int32)) + x7) r88 te le (fun r91 te91 le91 => p_Le_stepInPart_119 x1 x2 x3 Q k3 (fun a0 a1 a2 a3 a4 => p_Le_stepInPart_27 x1 x2 x3 Q k3 n a0 a1 a2 a3 a4) x4 x5 x7 r91 (x1 * (7 : Int32)) te91 le91)))))))))))
def p_Le_stepInPart_3 (x1 : Int32) (x2 : Int32) (x3 : Int32) (Q : Te → Le → Prop) : Nat → Int32 → Te → Le → Prop
  | 0, _, _, _ => False
  | n + 1, x4, te, le => (((7 : Int32) ≤ x4 → Q te le) ∧
    (¬ (7 : Int32) ≤ x4 → (vp_in ((x2 * (7 : Int32)) + x4) 3136 ∧ (∃ f, p_Le_stepInPart_27 x1 x2 x3 Q (fun a0 a1 a2 => p_Le_stepInPart_3 x1 x2 x3 Q n a0 a1 a2) f x4 (Le_after le ((x2 * (7 : Int32)) + x4).toNatClampNeg) (0 : Int32) te le))))
def p_Le_stepInPart (x1 : Int32) (x2 : Int32) (x3 : Int32) (te : Te) (le : Le) (Q : Te → Le → Prop) : Prop :=
  (∃ f, p_Le_stepInPart_3 x1 x2 x3 Q f (0 : Int32) te le)

abbrev rm_Le_expand : Room := { frames := 5, cells := 0, slots := 0, locals := 123 }
def p_Le_expand_96 (x1 : Int32) (ru : Ru) (Q : Te → Le → Prop) (x2 : Int32) (te : Te) (le : Le) : Prop :=
  ((x2 ≤ (1 : Int32) → Q te le) ∧
    (¬ x2 ≤ (1 : Int32) → p_Te_secondOf x1 te (fun r108 => p_Le_stepInPart x1 r108 (0 : Int32) te le (fun te112 le112 => Q te112 le112))))
def p_Le_expand_2 (x1 : Int32) (ru : Ru) (Q : Te → Le → Prop) : Nat → Int32 → Te → Le → Prop
  | 0, _, _, _ => False
  | n + 1, x2, te, le => p_Ru_count ru (fun r7 => ((r7 ≤ x2 → p_Te_symbolOf x1 te (fun r71 => p_Te_placesOf r71 te (fun r74 => ((r74 ≤ 0 → p_Le_expand_96 x1 ru Q r74 te le) ∧
      (¬ r74 ≤ 0 → p_Te_firstOf x1 te (fun r89 => p_Le_stepInPart x1 r89 (1 : Int32) te le (fun te93 le93 => p_Le_expand_96 x1 ru Q r74 te93 le93))))))) ∧
    (¬ r7 ≤ x2 → p_Ru_leftOf x2 ru (fun r18 => ((¬ r18 = x1 → p_Le_expand_2 x1 ru Q n (x2 + (1 : Int32)) te le) ∧
      (r18 = x1 → p_Ru_rightOf x2 ru (fun r31 => p_Le_countWithParts r31 te le (fun le34 => p_Ru_rightOf x2 ru (fun r50 => p_Le_include_after (x1 * (7 : Int32)) r50 le34 (fun le53 => p_Le_expand_2 x1 ru Q n (x2 + (1 : Int32)) te le53))))))))))
def p_Le_expand (x1 : Int32) (te : Te) (ru : Ru) (le : Le) (Q : Te → Le → Prop) : Prop :=
  (∃ f, p_Le_expand_2 x1 ru Q f (0 : Int32) te le)

abbrev rm_Le_levelOf : Room := { frames := 6, cells := 0, slots := 0, locals := 145 }
def p_Le_levelOf_111 (x1 : Int32) (x2 : Int32) (ru : Ru) (Q : Int32 → Te → Le → Prop) (x3 : Int32) (x4 : Int32) (te : Te) (le : Le) : Prop :=
  p_Te_keepFirst x3 te (fun te116 => (((400 : Int32) < (Le_countedTerms le) → Q (-2 : Int32) te116 le) ∧
    (¬ (400 : Int32) < (Le_countedTerms le) → p_Le_isIn_inLevels x2 le (fun r134 => ((r134 = 0 → Q (-2 : Int32) te116 le) ∧
      (¬ r134 = 0 → Q x4 te116 le))))))
def p_Le_levelOf_101 (x1 : Int32) (x2 : Int32) (ru : Ru) (Q : Int32 → Te → Le → Prop) (k16 : Int32 → Int32 → Te → Le → Prop) (x3 : Int32) (x4 : Int32) (te : Te) (le : Le) : Prop :=
  p_Le_goOn te le (fun le102 => k16 x3 (x4 + (1 : Int32)) te le102)
def p_Le_levelOf_54 (x1 : Int32) (x2 : Int32) (ru : Ru) (Q : Int32 → Te → Le → Prop) (k16 : Int32 → Int32 → Te → Le → Prop) : Nat → Int32 → Int32 → Int32 → Int32 → Te → Le → Prop
  | 0, _, _, _, _, _, _ => False
  | n + 1, x3, x4, x5, x6, te, le => ((x5 ≤ x6 → p_Le_levelOf_101 x1 x2 ru Q k16 x3 x4 te le) ∧
    (¬ x5 ≤ x6 → (((400 : Int32) < (Le_countedTerms le) → p_Le_levelOf_101 x1 x2 ru Q k16 x3 x4 te le) ∧
      (¬ (400 : Int32) < (Le_countedTerms le) → (vp_in x6 448 ∧ p_Le_expand (Le_waiting le x6.toNatClampNeg) te ru le (fun te79 le79 => (vp_in x6 448 ∧ (vp_in (Le_waiting le79 x6.toNatClampNeg) 448 ∧ ∀ le94 : Le, le94 = Le_expanded_s le79 (upd (Le_expanded le79) (Le_waiting le79 x6.toNatClampNeg).toNatClampNeg (vp_nar .boolean (1 : Int32))) → p_Le_levelOf_54 x1 x2 ru Q k16 n x3 x4 x5 (x6 + (1 : Int32)) te79 le94))))))))
def p_Le_levelOf_16 (x1 : Int32) (x2 : Int32) (ru : Ru) (Q : Int32 → Te → Le → Prop) : Nat → Int32 → Int32 → Te → Le → Prop
  | 0, _, _, _, _ => False
  | n + 1, x3, x4, te, le => (((400 : Int32) ≤ x4 → p_Le_levelOf_111 x1 x2 ru Q x3 x4 te le) ∧
    (¬ (400 : Int32) ≤ x4 → (((400 : Int32) < (Le_countedTerms le) → p_Le_levelOf_111 x1 x2 ru Q x3 x4 te le) ∧
      (¬ (400 : Int32) < (Le_countedTerms le) → p_Le_isIn_inLevels x2 le (fun r39 => ((¬ r39 = 0 → p_Le_levelOf_111 x1 x2 ru Q x3 x4 te le) ∧
        (r39 = 0 → p_Le_findWaiting te le (fun r46 le46 => (∃ f, p_Le_levelOf_54 x1 x2 ru Q (fun a0 a1 a2 a3 => p_Le_levelOf_16 x1 x2 ru Q n a0 a1 a2 a3) f x3 x4 r46 (0 : Int32) te le46)))))))))
def p_Le_levelOf (x1 : Int32) (x2 : Int32) (te : Te) (ru : Ru) (le : Le) (Q : Int32 → Te → Le → Prop) : Prop :=
  p_Te_count te (fun r4 => p_Le_start x1 te le (fun le10 => (∃ f, p_Le_levelOf_16 x1 x2 ru Q f r4 (0 : Int32) te le10)))
