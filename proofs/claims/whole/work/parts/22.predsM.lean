abbrev rm_Mo_thrown : Room := { frames := 0, cells := 0, slots := 0, locals := 0 }
def p_Mo_thrown  (mo : Mo) (Q : Int32 → Prop) : Prop :=
  Q (Mo_thrown mo)

abbrev rm_Mo_isTerm : Room := { frames := 0, cells := 0, slots := 0, locals := 0 }
def p_Mo_isTerm (x1 : Int32) (mo : Mo) (Q : Int32 → Prop) : Prop :=
  ((x1 < 0 → Q (0 : Int32)) ∧
    (¬ x1 < 0 → (((Mo_count mo) ≤ x1 → Q (0 : Int32)) ∧
      (¬ (Mo_count mo) ≤ x1 → Q (1 : Int32)))))

abbrev rm_Mo_isState : Room := { frames := 0, cells := 0, slots := 0, locals := 0 }
def p_Mo_isState (x0 : Int32)  (Q : Int32 → Prop) : Prop :=
  ((x0 < 0 → Q (0 : Int32)) ∧
    (¬ x0 < 0 → (((6 : Int32) ≤ x0 → Q (0 : Int32)) ∧
      (¬ (6 : Int32) ≤ x0 → Q (1 : Int32)))))

abbrev rm_Mo_known : Room := { frames := 0, cells := 0, slots := 0, locals := 0 }
def p_Mo_known_6 (x1 : Int32) (x2 : Int32) (x3 : Int32) (mo : Mo) (Q : Int32 → Prop) : Nat → Int32 → Int32 → Prop
  | 0, _, _ => False
  | n + 1, x4, x5 => (((Mo_count mo) ≤ x5 → Q x4) ∧
    (¬ (Mo_count mo) ≤ x5 → (vp_in x5 520 ∧ ((¬ (Mo_symbol mo x5.toNatClampNeg) = x1 → p_Mo_known_6 x1 x2 x3 mo Q n x4 (x5 + (1 : Int32))) ∧
      ((Mo_symbol mo x5.toNatClampNeg) = x1 → (vp_in x5 520 ∧ ((¬ (Mo_one mo x5.toNatClampNeg) = x2 → p_Mo_known_6 x1 x2 x3 mo Q n x4 (x5 + (1 : Int32))) ∧
        ((Mo_one mo x5.toNatClampNeg) = x2 → (vp_in x5 520 ∧ ((¬ (Mo_two mo x5.toNatClampNeg) = x3 → p_Mo_known_6 x1 x2 x3 mo Q n x4 (x5 + (1 : Int32))) ∧
          ((Mo_two mo x5.toNatClampNeg) = x3 → p_Mo_known_6 x1 x2 x3 mo Q n x5 (x5 + (1 : Int32)))))))))))))
def p_Mo_known (x1 : Int32) (x2 : Int32) (x3 : Int32) (mo : Mo) (Q : Int32 → Prop) : Prop :=
  (∃ f, p_Mo_known_6 x1 x2 x3 mo Q f (-1 : Int32) (0 : Int32))

abbrev rm_Mo_make : Room := { frames := 1, cells := 0, slots := 0, locals := 25 }
def p_Mo_make (x1 : Int32) (x2 : Int32) (x3 : Int32) (mo : Mo) (Q : Int32 → Mo → Prop) : Prop :=
  p_Mo_known x1 x2 x3 mo (fun r4 => ((r4 < 0 → (vp_in (Mo_count mo) 520 ∧ ∀ mo26 : Mo, mo26 = Mo_symbol_s mo (upd (Mo_symbol mo) (Mo_count mo).toNatClampNeg x1) → (vp_in (Mo_count mo26) 520 ∧ ∀ mo36 : Mo, mo36 = Mo_one_s mo26 (upd (Mo_one mo26) (Mo_count mo26).toNatClampNeg x2) → (vp_in (Mo_count mo36) 520 ∧ ∀ mo46 : Mo, mo46 = Mo_two_s mo36 (upd (Mo_two mo36) (Mo_count mo36).toNatClampNeg x3) → (∀ mo54 : Mo, mo54 = Mo_count_s mo46 ((Mo_count mo46) + (1 : Int32)) → Q ((Mo_count mo54) - (1 : Int32)) mo54))))) ∧
    (¬ r4 < 0 → Q r4 mo)))

abbrev rm_Mo_term : Room := { frames := 2, cells := 0, slots := 0, locals := 49 }
def p_Mo_term_140 (x1 : Int32) (x2 : Int32) (x3 : Int32) (Q : Int32 → Mo → Prop) (x4 : Int32) (x5 : Int32) (y0 : Int32) (mo : Mo) : Prop :=
  (∀ mo140 : Mo, mo140 = Mo_thrown_s mo y0 → (((Mo_thrown mo140) ≤ 0 → p_Mo_make x1 x4 x5 mo140 (fun r160 mo160 => Q r160 mo160)) ∧
    (¬ (Mo_thrown mo140) ≤ 0 → Q (0 : Int32) mo140)))
def p_Mo_term_139 (x1 : Int32) (x2 : Int32) (x3 : Int32) (Q : Int32 → Mo → Prop) (x4 : Int32) (x5 : Int32) (mo : Mo) : Prop :=
  p_Mo_term_140 x1 x2 x3 Q x4 x5 (0 : Int32) mo
def p_Mo_term_111 (x1 : Int32) (x2 : Int32) (x3 : Int32) (Q : Int32 → Mo → Prop) (x4 : Int32) (y0 : Int32) (mo : Mo) : Prop :=
  p_Mo_known x1 x4 y0 mo (fun r120 => ((0 ≤ r120 → p_Mo_term_139 x1 x2 x3 Q x4 y0 mo) ∧
    (¬ 0 ≤ r120 → ((¬ (Mo_count mo) = (48 : Int32) → p_Mo_term_139 x1 x2 x3 Q x4 y0 mo) ∧
      ((Mo_count mo) = (48 : Int32) → p_Mo_term_140 x1 x2 x3 Q x4 y0 (2 : Int32) mo)))))
def p_Mo_term_94 (x1 : Int32) (x2 : Int32) (x3 : Int32) (Q : Int32 → Mo → Prop) (y0 : Int32) (mo : Mo) : Prop :=
  (vp_in x1 6 ∧ (((Mo_places mo x1.toNatClampNeg) ≤ (1 : Int32) → p_Mo_term_111 x1 x2 x3 Q y0 (-1 : Int32) mo) ∧
    (¬ (Mo_places mo x1.toNatClampNeg) ≤ (1 : Int32) → p_Mo_term_111 x1 x2 x3 Q y0 x3 mo)))
def p_Mo_term_68 (x1 : Int32) (x2 : Int32) (x3 : Int32) (Q : Int32 → Mo → Prop) (y0 : Int32) (mo : Mo) : Prop :=
  (∀ mo68 : Mo, mo68 = Mo_thrown_s mo y0 → (((Mo_thrown mo68) ≤ 0 → (vp_in x1 6 ∧ (((Mo_places mo68 x1.toNatClampNeg) ≤ 0 → p_Mo_term_94 x1 x2 x3 Q (-1 : Int32) mo68) ∧
      (¬ (Mo_places mo68 x1.toNatClampNeg) ≤ 0 → p_Mo_term_94 x1 x2 x3 Q x2 mo68)))) ∧
    (¬ (Mo_thrown mo68) ≤ 0 → Q (0 : Int32) mo68)))
def p_Mo_term_67 (x1 : Int32) (x2 : Int32) (x3 : Int32) (Q : Int32 → Mo → Prop) (mo : Mo) : Prop :=
  p_Mo_term_68 x1 x2 x3 Q (0 : Int32) mo
def p_Mo_term_63 (x1 : Int32) (x2 : Int32) (x3 : Int32) (Q : Int32 → Mo → Prop) (mo : Mo) : Prop :=
  p_Mo_term_68 x1 x2 x3 Q (1 : Int32) mo
def p_Mo_term_45 (x1 : Int32) (x2 : Int32) (x3 : Int32) (Q : Int32 → Mo → Prop) (mo : Mo) : Prop :=
  (vp_in x1 6 ∧ (((Mo_places mo x1.toNatClampNeg) ≤ (1 : Int32) → p_Mo_term_67 x1 x2 x3 Q mo) ∧
    (¬ (Mo_places mo x1.toNatClampNeg) ≤ (1 : Int32) → p_Mo_isTerm x3 mo (fun r57 => ((¬ r57 = 0 → p_Mo_term_67 x1 x2 x3 Q mo) ∧
      (r57 = 0 → p_Mo_term_63 x1 x2 x3 Q mo))))))
def p_Mo_term_15 (x1 : Int32) (x2 : Int32) (x3 : Int32) (Q : Int32 → Mo → Prop) (y0 : Int32) (mo : Mo) : Prop :=
  (∀ mo15 : Mo, mo15 = Mo_thrown_s mo y0 → (((Mo_thrown mo15) ≤ 0 → (vp_in x1 6 ∧ (((Mo_places mo15 x1.toNatClampNeg) ≤ 0 → p_Mo_term_45 x1 x2 x3 Q mo15) ∧
      (¬ (Mo_places mo15 x1.toNatClampNeg) ≤ 0 → p_Mo_isTerm x2 mo15 (fun r39 => ((r39 = 0 → p_Mo_term_63 x1 x2 x3 Q mo15) ∧
        (¬ r39 = 0 → p_Mo_term_45 x1 x2 x3 Q mo15))))))) ∧
    (¬ (Mo_thrown mo15) ≤ 0 → Q (0 : Int32) mo15)))
def p_Mo_term_10 (x1 : Int32) (x2 : Int32) (x3 : Int32) (Q : Int32 → Mo → Prop) (mo : Mo) : Prop :=
  p_Mo_term_15 x1 x2 x3 Q (1 : Int32) mo
def p_Mo_term (x1 : Int32) (x2 : Int32) (x3 : Int32) (mo : Mo) (Q : Int32 → Mo → Prop) : Prop :=
  ((x1 < 0 → p_Mo_term_10 x1 x2 x3 Q mo) ∧
    (¬ x1 < 0 → ((x1 ≤ (5 : Int32) → p_Mo_term_15 x1 x2 x3 Q (0 : Int32) mo) ∧
      (¬ x1 ≤ (5 : Int32) → p_Mo_term_10 x1 x2 x3 Q mo))))

abbrev rm_Mo_capped : Room := { frames := 0, cells := 0, slots := 0, locals := 0 }
def p_Mo_capped (x0 : Int64)  (Q : Int32 → Prop) : Prop :=
  (((lg_cmp x0 (1000000000 : Int64)) ≤ 0 → Q x0.toInt32) ∧
    (¬ (lg_cmp x0 (1000000000 : Int64)) ≤ 0 → Q (1000000000 : Int32)))

abbrev rm_Mo_size : Room := { frames := 1, cells := 0, slots := 0, locals := 21 }
def p_Mo_size_58 (x1 : Int32) (Q : Int32 → Mo → Prop) (k2 : Int32 → Mo → Prop) (x2 : Int32) (y0 : Int32) (y1 : Int64) (mo : Mo) : Prop :=
  p_Mo_capped (y1 + y0.toInt64) (fun r67 => (vp_in x2 520 ∧ ∀ mo70 : Mo, mo70 = Mo_many_s mo (upd (Mo_many mo) x2.toNatClampNeg r67) → k2 (x2 + (1 : Int32)) mo70))
def p_Mo_size_32 (x1 : Int32) (Q : Int32 → Mo → Prop) (k2 : Int32 → Mo → Prop) (x2 : Int32) (y0 : Int32) (y1 : Int64) (mo : Mo) : Prop :=
  (vp_in x2 520 ∧ ((0 ≤ (Mo_two mo x2.toNatClampNeg) → (vp_in x2 520 ∧ (vp_in (Mo_two mo x2.toNatClampNeg) 520 ∧ p_Mo_size_58 x1 Q k2 x2 (Mo_many mo (Mo_two mo x2.toNatClampNeg).toNatClampNeg) (y1 + y0.toInt64) mo))) ∧
    (¬ 0 ≤ (Mo_two mo x2.toNatClampNeg) → p_Mo_size_58 x1 Q k2 x2 (0 : Int32) (y1 + y0.toInt64) mo)))
def p_Mo_size_2 (x1 : Int32) (Q : Int32 → Mo → Prop) : Nat → Int32 → Mo → Prop
  | 0, _, _ => False
  | n + 1, x2, mo => ((x1 < x2 → (vp_in x1 520 ∧ Q (Mo_many mo x1.toNatClampNeg) mo)) ∧
    (¬ x1 < x2 → (vp_in x2 520 ∧ ((0 ≤ (Mo_one mo x2.toNatClampNeg) → (vp_in x2 520 ∧ (vp_in (Mo_one mo x2.toNatClampNeg) 520 ∧ p_Mo_size_32 x1 Q (fun a0 a1 => p_Mo_size_2 x1 Q n a0 a1) x2 (Mo_many mo (Mo_one mo x2.toNatClampNeg).toNatClampNeg) (1 : Int64) mo))) ∧
      (¬ 0 ≤ (Mo_one mo x2.toNatClampNeg) → p_Mo_size_32 x1 Q (fun a0 a1 => p_Mo_size_2 x1 Q n a0 a1) x2 (0 : Int32) (1 : Int64) mo)))))
def p_Mo_size (x1 : Int32) (mo : Mo) (Q : Int32 → Mo → Prop) : Prop :=
  (∃ f, p_Mo_size_2 x1 Q f (0 : Int32) mo)

abbrev rm_Mo_lefts : Room := { frames := 0, cells := 0, slots := 0, locals := 0 }
def p_Mo_lefts_4 (x1 : Int32) (mo : Mo) (Q : Int32 → Prop) : Nat → Int32 → Int32 → Prop
  | 0, _, _ => False
  | n + 1, x2, x3 => (((Mo_rules mo) ≤ x3 → Q x2) ∧
    (¬ (Mo_rules mo) ≤ x3 → (vp_in x3 8 ∧ ((¬ (Mo_left mo x3.toNatClampNeg) = x1 → p_Mo_lefts_4 x1 mo Q n (x2 + (0 : Int32)) (x3 + (1 : Int32))) ∧
      ((Mo_left mo x3.toNatClampNeg) = x1 → p_Mo_lefts_4 x1 mo Q n (x2 + (1 : Int32)) (x3 + (1 : Int32)))))))
def p_Mo_lefts (x1 : Int32) (mo : Mo) (Q : Int32 → Prop) : Prop :=
  (∃ f, p_Mo_lefts_4 x1 mo Q f (0 : Int32) (0 : Int32))

abbrev rm_Mo_steps : Room := { frames := 1, cells := 0, slots := 0, locals := 23 }
def p_Mo_steps_63 (x1 : Int32) (Q : Int32 → Mo → Prop) (k2 : Int32 → Mo → Prop) (x2 : Int32) (y0 : Int32) (y1 : Int64) (mo : Mo) : Prop :=
  p_Mo_capped (y1 + y0.toInt64) (fun r72 => (vp_in x2 520 ∧ ∀ mo75 : Mo, mo75 = Mo_many_s mo (upd (Mo_many mo) x2.toNatClampNeg r72) → k2 (x2 + (1 : Int32)) mo75))
def p_Mo_steps_37 (x1 : Int32) (Q : Int32 → Mo → Prop) (k2 : Int32 → Mo → Prop) (x2 : Int32) (y0 : Int32) (y1 : Int64) (mo : Mo) : Prop :=
  (vp_in x2 520 ∧ ((0 ≤ (Mo_two mo x2.toNatClampNeg) → (vp_in x2 520 ∧ (vp_in (Mo_two mo x2.toNatClampNeg) 520 ∧ p_Mo_steps_63 x1 Q k2 x2 (Mo_many mo (Mo_two mo x2.toNatClampNeg).toNatClampNeg) (y1 + y0.toInt64) mo))) ∧
    (¬ 0 ≤ (Mo_two mo x2.toNatClampNeg) → p_Mo_steps_63 x1 Q k2 x2 (0 : Int32) (y1 + y0.toInt64) mo)))
def p_Mo_steps_2 (x1 : Int32) (Q : Int32 → Mo → Prop) : Nat → Int32 → Mo → Prop
  | 0, _, _ => False
  | n + 1, x2, mo => ((x1 < x2 → (vp_in x1 520 ∧ Q (Mo_many mo x1.toNatClampNeg) mo)) ∧
    (¬ x1 < x2 → p_Mo_lefts x2 mo (fun r9 => (vp_in x2 520 ∧ ((0 ≤ (Mo_one mo x2.toNatClampNeg) → (vp_in x2 520 ∧ (vp_in (Mo_one mo x2.toNatClampNeg) 520 ∧ p_Mo_steps_37 x1 Q (fun a0 a1 => p_Mo_steps_2 x1 Q n a0 a1) x2 (Mo_many mo (Mo_one mo x2.toNatClampNeg).toNatClampNeg) r9.toInt64 mo))) ∧
      (¬ 0 ≤ (Mo_one mo x2.toNatClampNeg) → p_Mo_steps_37 x1 Q (fun a0 a1 => p_Mo_steps_2 x1 Q n a0 a1) x2 (0 : Int32) r9.toInt64 mo))))))
def p_Mo_steps (x1 : Int32) (mo : Mo) (Q : Int32 → Mo → Prop) : Prop :=
  (∃ f, p_Mo_steps_2 x1 Q f (0 : Int32) mo)

abbrev rm_Mo_of : Room := { frames := 2, cells := 0, slots := 0, locals := 47 }
def p_Mo_of (x1 : Int32) (x2 : Int32) (mo : Mo) (Q : Int32 → Mo → Prop) : Prop :=
  (∀ mo2 : Mo, mo2 = Mo_thrown_s mo (0 : Int32) → p_Mo_isTerm x1 mo2 (fun r7 => ((r7 = 0 → Q (-1 : Int32) mo2) ∧
    (¬ r7 = 0 → ((x2 < 0 → Q (-1 : Int32) mo2) ∧
      (¬ x2 < 0 → ((x2 ≤ (4 : Int32) → ((¬ x2 = 0 → ((¬ x2 = (1 : Int32) → ((¬ x2 = (2 : Int32) → ((¬ x2 = (3 : Int32) → p_Mo_steps x1 mo2 (fun r80 mo80 => Q r80 mo80)) ∧
                (x2 = (3 : Int32) → p_Mo_size x1 mo2 (fun r72 mo72 => Q r72 mo72)))) ∧
              (x2 = (2 : Int32) → (vp_in x1 520 ∧ Q (Mo_two mo2 x1.toNatClampNeg) mo2)))) ∧
            (x2 = (1 : Int32) → (vp_in x1 520 ∧ Q (Mo_one mo2 x1.toNatClampNeg) mo2)))) ∧
          (x2 = 0 → (vp_in x1 520 ∧ Q (Mo_symbol mo2 x1.toNatClampNeg) mo2)))) ∧
        (¬ x2 ≤ (4 : Int32) → Q (-1 : Int32) mo2))))))))

abbrev rm_Mo_rule : Room := { frames := 1, cells := 0, slots := 0, locals := 21 }
def p_Mo_rule_40 (x1 : Int32) (x2 : Int32) (Q : Int32 → Mo → Prop) (y0 : Int32) (mo : Mo) : Prop :=
  (∀ mo40 : Mo, mo40 = Mo_thrown_s mo y0 → (((Mo_thrown mo40) ≤ 0 → (vp_in (Mo_rules mo40) 8 ∧ ∀ mo61 : Mo, mo61 = Mo_left_s mo40 (upd (Mo_left mo40) (Mo_rules mo40).toNatClampNeg x1) → (vp_in (Mo_rules mo61) 8 ∧ ∀ mo71 : Mo, mo71 = Mo_right_s mo61 (upd (Mo_right mo61) (Mo_rules mo61).toNatClampNeg x2) → (∀ mo79 : Mo, mo79 = Mo_rules_s mo71 ((Mo_rules mo71) + (1 : Int32)) → Q ((Mo_rules mo79) - (1 : Int32)) mo79)))) ∧
    (¬ (Mo_thrown mo40) ≤ 0 → Q (0 : Int32) mo40)))
def p_Mo_rule_22 (x1 : Int32) (x2 : Int32) (Q : Int32 → Mo → Prop) (mo : Mo) : Prop :=
  p_Mo_rule_40 x1 x2 Q (1 : Int32) mo
def p_Mo_rule (x1 : Int32) (x2 : Int32) (mo : Mo) (Q : Int32 → Mo → Prop) : Prop :=
  p_Mo_isTerm x1 mo (fun r3 => ((r3 = 0 → p_Mo_rule_22 x1 x2 Q mo) ∧
    (¬ r3 = 0 → p_Mo_isTerm x2 mo (fun r11 => ((r11 = 0 → p_Mo_rule_22 x1 x2 Q mo) ∧
      (¬ r11 = 0 → ((¬ x1 = x2 → ((¬ (Mo_rules mo) = (8 : Int32) → p_Mo_rule_40 x1 x2 Q (0 : Int32) mo) ∧
          ((Mo_rules mo) = (8 : Int32) → p_Mo_rule_40 x1 x2 Q (2 : Int32) mo))) ∧
        (x1 = x2 → p_Mo_rule_22 x1 x2 Q mo))))))))

abbrev rm_Mo_cut : Room := { frames := 0, cells := 0, slots := 0, locals := 0 }
def p_Mo_cut_32  (Q : Int32 → Mo → Prop) (x1 : Int32) (y0 : Int32) (y1 : Int32) (mo : Mo) : Prop :=
  (∀ mo33 : Mo, mo33 = Mo_rules_s mo (y1 - y0) → (isB x1 ∧ Q x1 mo33))
def p_Mo_cut_17  (Q : Int32 → Mo → Prop) (y0 : Int32) (mo : Mo) : Prop :=
  ((y0 = 0 → p_Mo_cut_32 Q y0 (0 : Int32) (Mo_rules mo) mo) ∧
    (¬ y0 = 0 → p_Mo_cut_32 Q y0 (1 : Int32) (Mo_rules mo) mo))
def p_Mo_cut  (mo : Mo) (Q : Int32 → Mo → Prop) : Prop :=
  (∀ mo2 : Mo, mo2 = Mo_thrown_s mo (0 : Int32) → (((Mo_rules mo2) ≤ 0 → p_Mo_cut_17 Q (0 : Int32) mo2) ∧
    (¬ (Mo_rules mo2) ≤ 0 → p_Mo_cut_17 Q (1 : Int32) mo2)))

abbrev rm_Mo_edge : Room := { frames := 1, cells := 0, slots := 0, locals := 20 }
def p_Mo_edge_215 (x1 : Int32) (x2 : Int32) (x3 : Int32) (x4 : Int32) (Q : Int32 → Mo → Prop) (x5 : Int32) (x6 : Int32) (y0 : Int32) (mo : Mo) : Prop :=
  (∀ mo215 : Mo, mo215 = Mo_thrown_s mo y0 → (((Mo_thrown mo215) ≤ 0 → (vp_in ((4 : Int32) * (Mo_edges mo215)) 80 ∧ ∀ mo238 : Mo, mo238 = Mo_edge_s mo215 (upd (Mo_edge mo215) ((4 : Int32) * (Mo_edges mo215)).toNatClampNeg x1) → (vp_in (((4 : Int32) * (Mo_edges mo238)) + (1 : Int32)) 80 ∧ ∀ mo253 : Mo, mo253 = Mo_edge_s mo238 (upd (Mo_edge mo238) (((4 : Int32) * (Mo_edges mo238)) + (1 : Int32)).toNatClampNeg x5) → (vp_in (((4 : Int32) * (Mo_edges mo253)) + (2 : Int32)) 80 ∧ ∀ mo268 : Mo, mo268 = Mo_edge_s mo253 (upd (Mo_edge mo253) (((4 : Int32) * (Mo_edges mo253)) + (2 : Int32)).toNatClampNeg x6) → (vp_in (((4 : Int32) * (Mo_edges mo268)) + (3 : Int32)) 80 ∧ ∀ mo283 : Mo, mo283 = Mo_edge_s mo268 (upd (Mo_edge mo268) (((4 : Int32) * (Mo_edges mo268)) + (3 : Int32)).toNatClampNeg x4) → (∀ mo291 : Mo, mo291 = Mo_edges_s mo283 ((Mo_edges mo283) + (1 : Int32)) → Q (1 : Int32) mo291)))))) ∧
    (¬ (Mo_thrown mo215) ≤ 0 → Q (0 : Int32) mo215)))
def p_Mo_edge_122 (x1 : Int32) (x2 : Int32) (x3 : Int32) (x4 : Int32) (Q : Int32 → Mo → Prop) : Nat → Int32 → Int32 → Int32 → Mo → Prop
  | 0, _, _, _, _ => False
  | n + 1, x5, x6, x7, mo => (((Mo_edges mo) ≤ x7 → ((¬ (Mo_edges mo) = (20 : Int32) → p_Mo_edge_215 x1 x2 x3 x4 Q x5 x6 (0 : Int32) mo) ∧
      ((Mo_edges mo) = (20 : Int32) → p_Mo_edge_215 x1 x2 x3 x4 Q x5 x6 (2 : Int32) mo))) ∧
    (¬ (Mo_edges mo) ≤ x7 → (vp_in ((4 : Int32) * x7) 80 ∧ ((¬ (Mo_edge mo ((4 : Int32) * x7).toNatClampNeg) = x1 → p_Mo_edge_122 x1 x2 x3 x4 Q n x5 x6 (x7 + (1 : Int32)) mo) ∧
      ((Mo_edge mo ((4 : Int32) * x7).toNatClampNeg) = x1 → (vp_in (((4 : Int32) * x7) + (1 : Int32)) 80 ∧ ((¬ (Mo_edge mo (((4 : Int32) * x7) + (1 : Int32)).toNatClampNeg) = x5 → p_Mo_edge_122 x1 x2 x3 x4 Q n x5 x6 (x7 + (1 : Int32)) mo) ∧
        ((Mo_edge mo (((4 : Int32) * x7) + (1 : Int32)).toNatClampNeg) = x5 → (vp_in (((4 : Int32) * x7) + (2 : Int32)) 80 ∧ ((¬ (Mo_edge mo (((4 : Int32) * x7) + (2 : Int32)).toNatClampNeg) = x6 → p_Mo_edge_122 x1 x2 x3 x4 Q n x5 x6 (x7 + (1 : Int32)) mo) ∧
          ((Mo_edge mo (((4 : Int32) * x7) + (2 : Int32)).toNatClampNeg) = x6 → (vp_in (((4 : Int32) * x7) + (3 : Int32)) 80 ∧ ((¬ (Mo_edge mo (((4 : Int32) * x7) + (3 : Int32)).toNatClampNeg) = x4 → p_Mo_edge_122 x1 x2 x3 x4 Q n x5 x6 (x7 + (1 : Int32)) mo) ∧
            ((Mo_edge mo (((4 : Int32) * x7) + (3 : Int32)).toNatClampNeg) = x4 → Q (0 : Int32) mo))))))))))))))
def p_Mo_edge_100 (x1 : Int32) (x2 : Int32) (x3 : Int32) (x4 : Int32) (Q : Int32 → Mo → Prop) (y0 : Int32) (mo : Mo) : Prop :=
  (vp_in x1 6 ∧ (((Mo_places mo x1.toNatClampNeg) ≤ (1 : Int32) → (∃ f, p_Mo_edge_122 x1 x2 x3 x4 Q f y0 (-1 : Int32) (0 : Int32) mo)) ∧
    (¬ (Mo_places mo x1.toNatClampNeg) ≤ (1 : Int32) → (∃ f, p_Mo_edge_122 x1 x2 x3 x4 Q f y0 x3 (0 : Int32) mo))))
def p_Mo_edge_74 (x1 : Int32) (x2 : Int32) (x3 : Int32) (x4 : Int32) (Q : Int32 → Mo → Prop) (y0 : Int32) (mo : Mo) : Prop :=
  (∀ mo74 : Mo, mo74 = Mo_thrown_s mo y0 → (((Mo_thrown mo74) ≤ 0 → (vp_in x1 6 ∧ (((Mo_places mo74 x1.toNatClampNeg) ≤ 0 → p_Mo_edge_100 x1 x2 x3 x4 Q (-1 : Int32) mo74) ∧
      (¬ (Mo_places mo74 x1.toNatClampNeg) ≤ 0 → p_Mo_edge_100 x1 x2 x3 x4 Q x2 mo74)))) ∧
    (¬ (Mo_thrown mo74) ≤ 0 → Q (0 : Int32) mo74)))
def p_Mo_edge_73 (x1 : Int32) (x2 : Int32) (x3 : Int32) (x4 : Int32) (Q : Int32 → Mo → Prop) (mo : Mo) : Prop :=
  p_Mo_edge_74 x1 x2 x3 x4 Q (0 : Int32) mo
def p_Mo_edge_69 (x1 : Int32) (x2 : Int32) (x3 : Int32) (x4 : Int32) (Q : Int32 → Mo → Prop) (mo : Mo) : Prop :=
  p_Mo_edge_74 x1 x2 x3 x4 Q (1 : Int32) mo
def p_Mo_edge_52 (x1 : Int32) (x2 : Int32) (x3 : Int32) (x4 : Int32) (Q : Int32 → Mo → Prop) (mo : Mo) : Prop :=
  (vp_in x1 6 ∧ (((Mo_places mo x1.toNatClampNeg) ≤ (1 : Int32) → p_Mo_edge_73 x1 x2 x3 x4 Q mo) ∧
    (¬ (Mo_places mo x1.toNatClampNeg) ≤ (1 : Int32) → p_Mo_isState x3 (fun r63 => ((¬ r63 = 0 → p_Mo_edge_73 x1 x2 x3 x4 Q mo) ∧
      (r63 = 0 → p_Mo_edge_69 x1 x2 x3 x4 Q mo))))))
def p_Mo_edge_23 (x1 : Int32) (x2 : Int32) (x3 : Int32) (x4 : Int32) (Q : Int32 → Mo → Prop) (y0 : Int32) (mo : Mo) : Prop :=
  (∀ mo23 : Mo, mo23 = Mo_thrown_s mo y0 → (((Mo_thrown mo23) ≤ 0 → (vp_in x1 6 ∧ (((Mo_places mo23 x1.toNatClampNeg) ≤ 0 → p_Mo_edge_52 x1 x2 x3 x4 Q mo23) ∧
      (¬ (Mo_places mo23 x1.toNatClampNeg) ≤ 0 → p_Mo_isState x2 (fun r46 => ((r46 = 0 → p_Mo_edge_69 x1 x2 x3 x4 Q mo23) ∧
        (¬ r46 = 0 → p_Mo_edge_52 x1 x2 x3 x4 Q mo23))))))) ∧
    (¬ (Mo_thrown mo23) ≤ 0 → Q (0 : Int32) mo23)))
def p_Mo_edge_18 (x1 : Int32) (x2 : Int32) (x3 : Int32) (x4 : Int32) (Q : Int32 → Mo → Prop) (mo : Mo) : Prop :=
  p_Mo_edge_23 x1 x2 x3 x4 Q (1 : Int32) mo
def p_Mo_edge (x1 : Int32) (x2 : Int32) (x3 : Int32) (x4 : Int32) (mo : Mo) (Q : Int32 → Mo → Prop) : Prop :=
  ((x1 < 0 → p_Mo_edge_18 x1 x2 x3 x4 Q mo) ∧
    (¬ x1 < 0 → (((5 : Int32) < x1 → p_Mo_edge_18 x1 x2 x3 x4 Q mo) ∧
      (¬ (5 : Int32) < x1 → p_Mo_isState x4 (fun r12 => ((¬ r12 = 0 → p_Mo_edge_23 x1 x2 x3 x4 Q (0 : Int32) mo) ∧
        (r12 = 0 → p_Mo_edge_18 x1 x2 x3 x4 Q mo)))))))

abbrev rm_Mo_mark : Room := { frames := 1, cells := 0, slots := 0, locals := 20 }
def p_Mo_mark_58 (x1 : Int32) (x2 : Int32) (Q : Int32 → Mo → Prop) (x3 : Int32) (y0 : Int32) (mo : Mo) : Prop :=
  (∀ mo58 : Mo, mo58 = Mo_finals_s mo y0 → ((x3 = x2 → Q (0 : Int32) mo58) ∧
    (¬ x3 = x2 → Q (1 : Int32) mo58)))
def p_Mo_mark_31 (x1 : Int32) (x2 : Int32) (Q : Int32 → Mo → Prop) (y0 : Int32) (mo : Mo) : Prop :=
  ((x2 = 0 → p_Mo_mark_58 x1 x2 Q y0 ((Mo_finals mo) &&& (((1 : Int32) <<< (x1 &&& 31)) ^^^ (-1 : Int32))) mo) ∧
    (¬ x2 = 0 → p_Mo_mark_58 x1 x2 Q y0 ((Mo_finals mo) ||| ((1 : Int32) <<< (x1 &&& 31))) mo))
def p_Mo_mark (x1 : Int32) (x2 : Int32) (mo : Mo) (Q : Int32 → Mo → Prop) : Prop :=
  (∀ mo2 : Mo, mo2 = Mo_thrown_s mo (0 : Int32) → p_Mo_isState x1 (fun r6 => ((¬ r6 = 0 → ((¬ (((Mo_finals mo2) >>> (x1 &&& 31)) &&& (1 : Int32)) = (1 : Int32) → p_Mo_mark_31 x1 x2 Q (0 : Int32) mo2) ∧
      ((((Mo_finals mo2) >>> (x1 &&& 31)) &&& (1 : Int32)) = (1 : Int32) → p_Mo_mark_31 x1 x2 Q (1 : Int32) mo2))) ∧
    (r6 = 0 → Q (0 : Int32) mo2))))

abbrev rm_Mo_parts_goes : Room := { frames := 0, cells := 0, slots := 0, locals := 0 }
def p_Mo_parts_goes_77 (x2 : Int32) (x3 : Int32) (mo : Mo) (Q : Int32 → Prop)  : Prop :=
  Q (1 : Int32)
def p_Mo_parts_goes_47 (x2 : Int32) (x3 : Int32) (mo : Mo) (Q : Int32 → Prop)  : Prop :=
  (vp_in x2 520 ∧ (((Mo_two mo x2.toNatClampNeg) < 0 → p_Mo_parts_goes_77 x2 x3 mo Q) ∧
    (¬ (Mo_two mo x2.toNatClampNeg) < 0 → (vp_in x2 520 ∧ (vp_in x3 520 ∧ (vp_in (((48 : Int32) * (Mo_two mo x2.toNatClampNeg)) + (Mo_two mo x3.toNatClampNeg)) 2304 ∧ (((Mo_goes mo (((48 : Int32) * (Mo_two mo x2.toNatClampNeg)) + (Mo_two mo x3.toNatClampNeg)).toNatClampNeg) = 0 → Q (0 : Int32)) ∧
      (¬ (Mo_goes mo (((48 : Int32) * (Mo_two mo x2.toNatClampNeg)) + (Mo_two mo x3.toNatClampNeg)).toNatClampNeg) = 0 → p_Mo_parts_goes_77 x2 x3 mo Q))))))))
def p_Mo_parts_goes (x2 : Int32) (x3 : Int32) (mo : Mo) (Q : Int32 → Prop) : Prop :=
  (vp_in x2 520 ∧ (vp_in x3 520 ∧ (((Mo_symbol mo x2.toNatClampNeg) = (Mo_symbol mo x3.toNatClampNeg) → (vp_in x2 520 ∧ (((Mo_one mo x2.toNatClampNeg) < 0 → p_Mo_parts_goes_47 x2 x3 mo Q) ∧
      (¬ (Mo_one mo x2.toNatClampNeg) < 0 → (vp_in x2 520 ∧ (vp_in x3 520 ∧ (vp_in (((48 : Int32) * (Mo_one mo x2.toNatClampNeg)) + (Mo_one mo x3.toNatClampNeg)) 2304 ∧ (((Mo_goes mo (((48 : Int32) * (Mo_one mo x2.toNatClampNeg)) + (Mo_one mo x3.toNatClampNeg)).toNatClampNeg) = 0 → Q (0 : Int32)) ∧
        (¬ (Mo_goes mo (((48 : Int32) * (Mo_one mo x2.toNatClampNeg)) + (Mo_one mo x3.toNatClampNeg)).toNatClampNeg) = 0 → p_Mo_parts_goes_47 x2 x3 mo Q))))))))) ∧
    (¬ (Mo_symbol mo x2.toNatClampNeg) = (Mo_symbol mo x3.toNatClampNeg) → Q (0 : Int32)))))

abbrev rm_Mo_byRule_goes : Room := { frames := 0, cells := 0, slots := 0, locals := 0 }
def p_Mo_byRule_goes_57 (x2 : Int32) (x3 : Int32) (mo : Mo) (Q : Int32 → Prop) (k6 : Int32 → Int32 → Prop) (x5 : Int32) : Prop :=
  k6 (1 : Int32) (x5 + (1 : Int32))
def p_Mo_byRule_goes_6 (x2 : Int32) (x3 : Int32) (mo : Mo) (Q : Int32 → Prop) : Nat → Int32 → Int32 → Prop
  | 0, _, _ => False
  | n + 1, x4, x5 => (((Mo_rules mo) ≤ x5 → (isB x4 ∧ Q x4)) ∧
    (¬ (Mo_rules mo) ≤ x5 → ((¬ x4 = 0 → p_Mo_byRule_goes_57 x2 x3 mo Q (fun a0 a1 => p_Mo_byRule_goes_6 x2 x3 mo Q n a0 a1) x5) ∧
      (x4 = 0 → (vp_in x5 8 ∧ (vp_in (((48 : Int32) * x2) + (Mo_left mo x5.toNatClampNeg)) 2304 ∧ (((Mo_goes mo (((48 : Int32) * x2) + (Mo_left mo x5.toNatClampNeg)).toNatClampNeg) = 0 → p_Mo_byRule_goes_6 x2 x3 mo Q n (0 : Int32) (x5 + (1 : Int32))) ∧
        (¬ (Mo_goes mo (((48 : Int32) * x2) + (Mo_left mo x5.toNatClampNeg)).toNatClampNeg) = 0 → (vp_in x5 8 ∧ (vp_in (((48 : Int32) * (Mo_right mo x5.toNatClampNeg)) + x3) 2304 ∧ (((Mo_goes mo (((48 : Int32) * (Mo_right mo x5.toNatClampNeg)) + x3).toNatClampNeg) = 0 → p_Mo_byRule_goes_6 x2 x3 mo Q n (0 : Int32) (x5 + (1 : Int32))) ∧
          (¬ (Mo_goes mo (((48 : Int32) * (Mo_right mo x5.toNatClampNeg)) + x3).toNatClampNeg) = 0 → p_Mo_byRule_goes_57 x2 x3 mo Q (fun a0 a1 => p_Mo_byRule_goes_6 x2 x3 mo Q n a0 a1) x5))))))))))))
def p_Mo_byRule_goes (x2 : Int32) (x3 : Int32) (mo : Mo) (Q : Int32 → Prop) : Prop :=
  (∃ f, p_Mo_byRule_goes_6 x2 x3 mo Q f (0 : Int32) (0 : Int32))

abbrev rm_Mo_reachAll : Room := { frames := 1, cells := 0, slots := 0, locals := 25 }
def p_Mo_reachAll_105  (Q : Mo → Prop) (k39 : Int32 → Mo → Prop) (k47 : Int32 → Int32 → Mo → Prop) (k57 : Int32 → Int32 → Int32 → Mo → Prop) (x2 : Int32) (x3 : Int32) (mo : Mo) : Prop :=
  (vp_in (((48 : Int32) * x2) + x3) 2304 ∧ ∀ mo116 : Mo, mo116 = Mo_goes_s mo (upd (Mo_goes mo) (((48 : Int32) * x2) + x3).toNatClampNeg (vp_nar .boolean (1 : Int32))) → k57 (1 : Int32) x2 (x3 + (1 : Int32)) mo116)
def p_Mo_reachAll_57  (Q : Mo → Prop) (k39 : Int32 → Mo → Prop) (k47 : Int32 → Int32 → Mo → Prop) : Nat → Int32 → Int32 → Int32 → Mo → Prop
  | 0, _, _, _, _ => False
  | n + 1, x1, x2, x3, mo => (((Mo_count mo) ≤ x3 → k47 x1 (x2 + (1 : Int32)) mo) ∧
    (¬ (Mo_count mo) ≤ x3 → (vp_in (((48 : Int32) * x2) + x3) 2304 ∧ ((¬ (Mo_goes mo (((48 : Int32) * x2) + x3).toNatClampNeg) = 0 → p_Mo_reachAll_57 Q k39 k47 n x1 x2 (x3 + (1 : Int32)) mo) ∧
      ((Mo_goes mo (((48 : Int32) * x2) + x3).toNatClampNeg) = 0 → p_Mo_parts_goes x2 x3 mo (fun r86 => ((¬ r86 = 0 → p_Mo_reachAll_105 Q k39 k47 (fun a0 a1 a2 a3 => p_Mo_reachAll_57 Q k39 k47 n a0 a1 a2 a3) x2 x3 mo) ∧
        (r86 = 0 → p_Mo_byRule_goes x2 x3 mo (fun r99 => ((r99 = 0 → p_Mo_reachAll_57 Q k39 k47 n x1 x2 (x3 + (1 : Int32)) mo) ∧
          (¬ r99 = 0 → p_Mo_reachAll_105 Q k39 k47 (fun a0 a1 a2 a3 => p_Mo_reachAll_57 Q k39 k47 n a0 a1 a2 a3) x2 x3 mo)))))))))))
def p_Mo_reachAll_47  (Q : Mo → Prop) (k39 : Int32 → Mo → Prop) : Nat → Int32 → Int32 → Mo → Prop
  | 0, _, _, _ => False
  | n + 1, x1, x2, mo => (((Mo_count mo) ≤ x2 → k39 x1 mo) ∧
    (¬ (Mo_count mo) ≤ x2 → (∃ f, p_Mo_reachAll_57 Q k39 (fun a0 a1 a2 => p_Mo_reachAll_47 Q k39 n a0 a1 a2) f x1 x2 (0 : Int32) mo)))
def p_Mo_reachAll_39  (Q : Mo → Prop) : Nat → Int32 → Mo → Prop
  | 0, _, _ => False
  | n + 1, x1, mo => ((x1 = 0 → Q mo) ∧
    (¬ x1 = 0 → (∃ f, p_Mo_reachAll_47 Q (fun a0 a1 => p_Mo_reachAll_39 Q n a0 a1) f (0 : Int32) (0 : Int32) mo)))
def p_Mo_reachAll_30  (Q : Mo → Prop) (k2 : Int32 → Mo → Prop) (x1 : Int32) (y0 : Int32) (y1 : Int32) (mo : Mo) : Prop :=
  (vp_in y1 2304 ∧ ∀ mo30 : Mo, mo30 = Mo_goes_s mo (upd (Mo_goes mo) y1.toNatClampNeg (vp_nar .boolean y0)) → k2 (x1 + (1 : Int32)) mo30)
def p_Mo_reachAll_2  (Q : Mo → Prop) : Nat → Int32 → Mo → Prop
  | 0, _, _ => False
  | n + 1, x1, mo => (((2304 : Int32) ≤ x1 → (∃ f, p_Mo_reachAll_39 Q f (1 : Int32) mo)) ∧
    (¬ (2304 : Int32) ≤ x1 → ((¬ (x1 / (48 : Int32)) = (x1 - x1 / (48 : Int32) * (48 : Int32)) → p_Mo_reachAll_30 Q (fun a0 a1 => p_Mo_reachAll_2 Q n a0 a1) x1 (0 : Int32) x1 mo) ∧
      ((x1 / (48 : Int32)) = (x1 - x1 / (48 : Int32) * (48 : Int32)) → p_Mo_reachAll_30 Q (fun a0 a1 => p_Mo_reachAll_2 Q n a0 a1) x1 (1 : Int32) x1 mo))))
def p_Mo_reachAll  (mo : Mo) (Q : Mo → Prop) : Prop :=
  (∃ f, p_Mo_reachAll_2 Q f (0 : Int32) mo)

abbrev rm_Mo_ask : Room := { frames := 2, cells := 0, slots := 0, locals := 48 }
def p_Mo_ask_36 (x1 : Int32) (x2 : Int32) (Q : Int32 → Mo → Prop) (mo : Mo) : Prop :=
  ((¬ (Mo_thrown mo) = 0 → Q (0 : Int32) mo) ∧
    ((Mo_thrown mo) = 0 → Q (1 : Int32) mo))
def p_Mo_ask_22 (x1 : Int32) (x2 : Int32) (Q : Int32 → Mo → Prop) (y0 : Int32) (mo : Mo) : Prop :=
  (∀ mo22 : Mo, mo22 = Mo_thrown_s mo y0 → ((¬ (Mo_thrown mo22) = 0 → p_Mo_ask_36 x1 x2 Q mo22) ∧
    ((Mo_thrown mo22) = 0 → p_Mo_reachAll mo22 (fun mo33 => p_Mo_ask_36 x1 x2 Q mo33))))
def p_Mo_ask_21 (x1 : Int32) (x2 : Int32) (Q : Int32 → Mo → Prop) (mo : Mo) : Prop :=
  p_Mo_ask_22 x1 x2 Q (1 : Int32) mo
def p_Mo_ask (x1 : Int32) (x2 : Int32) (mo : Mo) (Q : Int32 → Mo → Prop) : Prop :=
  p_Mo_isTerm x1 mo (fun r3 => ((r3 = 0 → p_Mo_ask_21 x1 x2 Q mo) ∧
    (¬ r3 = 0 → p_Mo_isTerm x2 mo (fun r11 => ((r11 = 0 → p_Mo_ask_21 x1 x2 Q mo) ∧
      (¬ r11 = 0 → p_Mo_ask_22 x1 x2 Q (0 : Int32) mo))))))

abbrev rm_Mo_reaches : Room := { frames := 3, cells := 0, slots := 0, locals := 70 }
def p_Mo_reaches (x1 : Int32) (x2 : Int32) (mo : Mo) (Q : Int32 → Mo → Prop) : Prop :=
  p_Mo_ask x1 x2 mo (fun r3 mo3 => ((r3 = 0 → Q (0 : Int32) mo3) ∧
    (¬ r3 = 0 → (vp_in (((48 : Int32) * x1) + x2) 2304 ∧ (((Mo_goes mo3 (((48 : Int32) * x1) + x2).toNatClampNeg) = 0 → Q (0 : Int32) mo3) ∧
      (¬ (Mo_goes mo3 (((48 : Int32) * x1) + x2).toNatClampNeg) = 0 → Q (1 : Int32) mo3))))))

abbrev rm_Mo_parts_joins : Room := { frames := 0, cells := 0, slots := 0, locals := 0 }
def p_Mo_parts_joins_77 (x2 : Int32) (x3 : Int32) (mo : Mo) (Q : Int32 → Prop)  : Prop :=
  Q (1 : Int32)
def p_Mo_parts_joins_47 (x2 : Int32) (x3 : Int32) (mo : Mo) (Q : Int32 → Prop)  : Prop :=
  (vp_in x2 520 ∧ (((Mo_two mo x2.toNatClampNeg) < 0 → p_Mo_parts_joins_77 x2 x3 mo Q) ∧
    (¬ (Mo_two mo x2.toNatClampNeg) < 0 → (vp_in x2 520 ∧ (vp_in x3 520 ∧ (vp_in (((48 : Int32) * (Mo_two mo x2.toNatClampNeg)) + (Mo_two mo x3.toNatClampNeg)) 2304 ∧ (((Mo_joins mo (((48 : Int32) * (Mo_two mo x2.toNatClampNeg)) + (Mo_two mo x3.toNatClampNeg)).toNatClampNeg) = 0 → Q (0 : Int32)) ∧
      (¬ (Mo_joins mo (((48 : Int32) * (Mo_two mo x2.toNatClampNeg)) + (Mo_two mo x3.toNatClampNeg)).toNatClampNeg) = 0 → p_Mo_parts_joins_77 x2 x3 mo Q))))))))
def p_Mo_parts_joins (x2 : Int32) (x3 : Int32) (mo : Mo) (Q : Int32 → Prop) : Prop :=
  (vp_in x2 520 ∧ (vp_in x3 520 ∧ (((Mo_symbol mo x2.toNatClampNeg) = (Mo_symbol mo x3.toNatClampNeg) → (vp_in x2 520 ∧ (((Mo_one mo x2.toNatClampNeg) < 0 → p_Mo_parts_joins_47 x2 x3 mo Q) ∧
      (¬ (Mo_one mo x2.toNatClampNeg) < 0 → (vp_in x2 520 ∧ (vp_in x3 520 ∧ (vp_in (((48 : Int32) * (Mo_one mo x2.toNatClampNeg)) + (Mo_one mo x3.toNatClampNeg)) 2304 ∧ (((Mo_joins mo (((48 : Int32) * (Mo_one mo x2.toNatClampNeg)) + (Mo_one mo x3.toNatClampNeg)).toNatClampNeg) = 0 → Q (0 : Int32)) ∧
        (¬ (Mo_joins mo (((48 : Int32) * (Mo_one mo x2.toNatClampNeg)) + (Mo_one mo x3.toNatClampNeg)).toNatClampNeg) = 0 → p_Mo_parts_joins_47 x2 x3 mo Q))))))))) ∧
    (¬ (Mo_symbol mo x2.toNatClampNeg) = (Mo_symbol mo x3.toNatClampNeg) → Q (0 : Int32)))))

abbrev rm_Mo_byRule_joins : Room := { frames := 0, cells := 0, slots := 0, locals := 0 }
def p_Mo_byRule_joins_57 (x2 : Int32) (x3 : Int32) (mo : Mo) (Q : Int32 → Prop) (k6 : Int32 → Int32 → Prop) (x5 : Int32) : Prop :=
  k6 (1 : Int32) (x5 + (1 : Int32))
def p_Mo_byRule_joins_6 (x2 : Int32) (x3 : Int32) (mo : Mo) (Q : Int32 → Prop) : Nat → Int32 → Int32 → Prop
  | 0, _, _ => False
  | n + 1, x4, x5 => (((Mo_rules mo) ≤ x5 → (isB x4 ∧ Q x4)) ∧
    (¬ (Mo_rules mo) ≤ x5 → ((¬ x4 = 0 → p_Mo_byRule_joins_57 x2 x3 mo Q (fun a0 a1 => p_Mo_byRule_joins_6 x2 x3 mo Q n a0 a1) x5) ∧
      (x4 = 0 → (vp_in x5 8 ∧ (vp_in (((48 : Int32) * x2) + (Mo_left mo x5.toNatClampNeg)) 2304 ∧ (((Mo_goes mo (((48 : Int32) * x2) + (Mo_left mo x5.toNatClampNeg)).toNatClampNeg) = 0 → p_Mo_byRule_joins_6 x2 x3 mo Q n (0 : Int32) (x5 + (1 : Int32))) ∧
        (¬ (Mo_goes mo (((48 : Int32) * x2) + (Mo_left mo x5.toNatClampNeg)).toNatClampNeg) = 0 → (vp_in x5 8 ∧ (vp_in (((48 : Int32) * (Mo_right mo x5.toNatClampNeg)) + x3) 2304 ∧ (((Mo_joins mo (((48 : Int32) * (Mo_right mo x5.toNatClampNeg)) + x3).toNatClampNeg) = 0 → p_Mo_byRule_joins_6 x2 x3 mo Q n (0 : Int32) (x5 + (1 : Int32))) ∧
          (¬ (Mo_joins mo (((48 : Int32) * (Mo_right mo x5.toNatClampNeg)) + x3).toNatClampNeg) = 0 → p_Mo_byRule_joins_57 x2 x3 mo Q (fun a0 a1 => p_Mo_byRule_joins_6 x2 x3 mo Q n a0 a1) x5))))))))))))
def p_Mo_byRule_joins (x2 : Int32) (x3 : Int32) (mo : Mo) (Q : Int32 → Prop) : Prop :=
  (∃ f, p_Mo_byRule_joins_6 x2 x3 mo Q f (0 : Int32) (0 : Int32))

abbrev rm_Mo_meet : Room := { frames := 3, cells := 0, slots := 0, locals := 70 }
def p_Mo_meet_121 (x1 : Int32) (x2 : Int32) (Q : Int32 → Mo → Prop) (k40 : Int32 → Mo → Prop) (k49 : Int32 → Int32 → Mo → Prop) (k61 : Int32 → Int32 → Int32 → Mo → Prop) (x3 : Int32) (x4 : Int32) (x5 : Int32) (y0 : Int32) (mo : Mo) : Prop :=
  (vp_in (((48 : Int32) * x4) + x5) 2304 ∧ ((¬ (Mo_joins mo (((48 : Int32) * x4) + x5).toNatClampNeg) = 0 → k61 x3 x4 (x5 + (1 : Int32)) mo) ∧
    ((Mo_joins mo (((48 : Int32) * x4) + x5).toNatClampNeg) = 0 → ((y0 = 0 → k61 x3 x4 (x5 + (1 : Int32)) mo) ∧
      (¬ y0 = 0 → (vp_in (((48 : Int32) * x4) + x5) 2304 ∧ ∀ mo157 : Mo, mo157 = Mo_joins_s mo (upd (Mo_joins mo) (((48 : Int32) * x4) + x5).toNatClampNeg (vp_nar .boolean (1 : Int32))) → k61 (1 : Int32) x4 (x5 + (1 : Int32)) mo157))))))
def p_Mo_meet_116 (x1 : Int32) (x2 : Int32) (Q : Int32 → Mo → Prop) (k40 : Int32 → Mo → Prop) (k49 : Int32 → Int32 → Mo → Prop) (k61 : Int32 → Int32 → Int32 → Mo → Prop) (x3 : Int32) (x4 : Int32) (x5 : Int32) (mo : Mo) : Prop :=
  p_Mo_meet_121 x1 x2 Q k40 k49 k61 x3 x4 x5 (1 : Int32) mo
def p_Mo_meet_61 (x1 : Int32) (x2 : Int32) (Q : Int32 → Mo → Prop) (k40 : Int32 → Mo → Prop) (k49 : Int32 → Int32 → Mo → Prop) : Nat → Int32 → Int32 → Int32 → Mo → Prop
  | 0, _, _, _, _ => False
  | n + 1, x3, x4, x5, mo => (((Mo_count mo) ≤ x5 → k49 x3 (x4 + (1 : Int32)) mo) ∧
    (¬ (Mo_count mo) ≤ x5 → (vp_in (((48 : Int32) * x5) + x4) 2304 ∧ ((¬ (Mo_joins mo (((48 : Int32) * x5) + x4).toNatClampNeg) = 0 → p_Mo_meet_116 x1 x2 Q k40 k49 (fun a0 a1 a2 a3 => p_Mo_meet_61 x1 x2 Q k40 k49 n a0 a1 a2 a3) x3 x4 x5 mo) ∧
      ((Mo_joins mo (((48 : Int32) * x5) + x4).toNatClampNeg) = 0 → p_Mo_parts_joins x4 x5 mo (fun r95 => ((¬ r95 = 0 → p_Mo_meet_116 x1 x2 Q k40 k49 (fun a0 a1 a2 a3 => p_Mo_meet_61 x1 x2 Q k40 k49 n a0 a1 a2 a3) x3 x4 x5 mo) ∧
        (r95 = 0 → p_Mo_byRule_joins x4 x5 mo (fun r110 => ((r110 = 0 → p_Mo_meet_121 x1 x2 Q k40 k49 (fun a0 a1 a2 a3 => p_Mo_meet_61 x1 x2 Q k40 k49 n a0 a1 a2 a3) x3 x4 x5 (0 : Int32) mo) ∧
          (¬ r110 = 0 → p_Mo_meet_116 x1 x2 Q k40 k49 (fun a0 a1 a2 a3 => p_Mo_meet_61 x1 x2 Q k40 k49 n a0 a1 a2 a3) x3 x4 x5 mo)))))))))))
def p_Mo_meet_49 (x1 : Int32) (x2 : Int32) (Q : Int32 → Mo → Prop) (k40 : Int32 → Mo → Prop) : Nat → Int32 → Int32 → Mo → Prop
  | 0, _, _, _ => False
  | n + 1, x3, x4, mo => (((Mo_count mo) ≤ x4 → k40 x3 mo) ∧
    (¬ (Mo_count mo) ≤ x4 → (∃ f, p_Mo_meet_61 x1 x2 Q k40 (fun a0 a1 a2 => p_Mo_meet_49 x1 x2 Q k40 n a0 a1 a2) f x3 x4 (0 : Int32) mo)))
def p_Mo_meet_40 (x1 : Int32) (x2 : Int32) (Q : Int32 → Mo → Prop) : Nat → Int32 → Mo → Prop
  | 0, _, _ => False
  | n + 1, x3, mo => ((x3 = 0 → (vp_in (((48 : Int32) * x1) + x2) 2304 ∧ (isB (Mo_joins mo (((48 : Int32) * x1) + x2).toNatClampNeg) ∧ Q (Mo_joins mo (((48 : Int32) * x1) + x2).toNatClampNeg) mo))) ∧
    (¬ x3 = 0 → (∃ f, p_Mo_meet_49 x1 x2 Q (fun a0 a1 => p_Mo_meet_40 x1 x2 Q n a0 a1) f (0 : Int32) (0 : Int32) mo)))
def p_Mo_meet_13 (x1 : Int32) (x2 : Int32) (Q : Int32 → Mo → Prop) : Nat → Int32 → Mo → Prop
  | 0, _, _ => False
  | n + 1, x3, mo => (((2304 : Int32) ≤ x3 → (∃ f, p_Mo_meet_40 x1 x2 Q f (1 : Int32) mo)) ∧
    (¬ (2304 : Int32) ≤ x3 → (vp_in x3 2304 ∧ (vp_in x3 2304 ∧ ∀ mo31 : Mo, mo31 = Mo_joins_s mo (upd (Mo_joins mo) x3.toNatClampNeg (vp_nar .boolean (Mo_goes mo x3.toNatClampNeg))) → p_Mo_meet_13 x1 x2 Q n (x3 + (1 : Int32)) mo31))))
def p_Mo_meet (x1 : Int32) (x2 : Int32) (mo : Mo) (Q : Int32 → Mo → Prop) : Prop :=
  p_Mo_ask x1 x2 mo (fun r3 mo3 => ((¬ r3 = 0 → (∃ f, p_Mo_meet_13 x1 x2 Q f (0 : Int32) mo3)) ∧
    (r3 = 0 → Q (0 : Int32) mo3)))

abbrev rm_Mo_byEdge : Room := { frames := 0, cells := 0, slots := 0, locals := 0 }
def p_Mo_byEdge_93 (x1 : Int32) (x2 : Int32) (mo : Mo) (Q : Int32 → Prop)  : Prop :=
  Q (1 : Int32)
def p_Mo_byEdge_56 (x1 : Int32) (x2 : Int32) (mo : Mo) (Q : Int32 → Prop)  : Prop :=
  (vp_in x1 520 ∧ (((Mo_two mo x1.toNatClampNeg) < 0 → p_Mo_byEdge_93 x1 x2 mo Q) ∧
    (¬ (Mo_two mo x1.toNatClampNeg) < 0 → (vp_in x1 520 ∧ (vp_in (((4 : Int32) * x2) + (2 : Int32)) 80 ∧ (vp_in (((6 : Int32) * (Mo_two mo x1.toNatClampNeg)) + (Mo_edge mo (((4 : Int32) * x2) + (2 : Int32)).toNatClampNeg)) 288 ∧ (((Mo_states mo (((6 : Int32) * (Mo_two mo x1.toNatClampNeg)) + (Mo_edge mo (((4 : Int32) * x2) + (2 : Int32)).toNatClampNeg)).toNatClampNeg) = 0 → Q (0 : Int32)) ∧
      (¬ (Mo_states mo (((6 : Int32) * (Mo_two mo x1.toNatClampNeg)) + (Mo_edge mo (((4 : Int32) * x2) + (2 : Int32)).toNatClampNeg)).toNatClampNeg) = 0 → p_Mo_byEdge_93 x1 x2 mo Q))))))))
def p_Mo_byEdge (x1 : Int32) (x2 : Int32) (mo : Mo) (Q : Int32 → Prop) : Prop :=
  (vp_in ((4 : Int32) * x2) 80 ∧ (vp_in x1 520 ∧ (((Mo_edge mo ((4 : Int32) * x2).toNatClampNeg) = (Mo_symbol mo x1.toNatClampNeg) → (vp_in x1 520 ∧ (((Mo_one mo x1.toNatClampNeg) < 0 → p_Mo_byEdge_56 x1 x2 mo Q) ∧
      (¬ (Mo_one mo x1.toNatClampNeg) < 0 → (vp_in x1 520 ∧ (vp_in (((4 : Int32) * x2) + (1 : Int32)) 80 ∧ (vp_in (((6 : Int32) * (Mo_one mo x1.toNatClampNeg)) + (Mo_edge mo (((4 : Int32) * x2) + (1 : Int32)).toNatClampNeg)) 288 ∧ (((Mo_states mo (((6 : Int32) * (Mo_one mo x1.toNatClampNeg)) + (Mo_edge mo (((4 : Int32) * x2) + (1 : Int32)).toNatClampNeg)).toNatClampNeg) = 0 → Q (0 : Int32)) ∧
        (¬ (Mo_states mo (((6 : Int32) * (Mo_one mo x1.toNatClampNeg)) + (Mo_edge mo (((4 : Int32) * x2) + (1 : Int32)).toNatClampNeg)).toNatClampNeg) = 0 → p_Mo_byEdge_56 x1 x2 mo Q))))))))) ∧
    (¬ (Mo_edge mo ((4 : Int32) * x2).toNatClampNeg) = (Mo_symbol mo x1.toNatClampNeg) → Q (0 : Int32)))))

abbrev rm_Mo_stands : Room := { frames := 1, cells := 0, slots := 0, locals := 22 }
def p_Mo_stands_177 (x1 : Int32) (x2 : Int32) (x3 : Int32) (mo : Mo) (Q : Int32 → Prop) (k61 : Int32 → Int32 → Prop) (x5 : Int32) : Prop :=
  k61 (1 : Int32) (x5 + (1 : Int32))
def p_Mo_stands_125 (x1 : Int32) (x2 : Int32) (x3 : Int32) (mo : Mo) (Q : Int32 → Prop) (k61 : Int32 → Int32 → Prop) (x5 : Int32) (y0 : Int32) : Prop :=
  ((¬ y0 = 0 → p_Mo_stands_177 x1 x2 x3 mo Q k61 x5) ∧
    (y0 = 0 → ((¬ x3 = (2 : Int32) → k61 (0 : Int32) (x5 + (1 : Int32))) ∧
      (x3 = (2 : Int32) → (vp_in x5 8 ∧ (vp_in (((48 : Int32) * x1) + (Mo_left mo x5.toNatClampNeg)) 2304 ∧ (((Mo_goes mo (((48 : Int32) * x1) + (Mo_left mo x5.toNatClampNeg)).toNatClampNeg) = 0 → k61 (0 : Int32) (x5 + (1 : Int32))) ∧
        (¬ (Mo_goes mo (((48 : Int32) * x1) + (Mo_left mo x5.toNatClampNeg)).toNatClampNeg) = 0 → (vp_in x5 8 ∧ (vp_in (((6 : Int32) * (Mo_right mo x5.toNatClampNeg)) + x2) 288 ∧ (((Mo_states mo (((6 : Int32) * (Mo_right mo x5.toNatClampNeg)) + x2).toNatClampNeg) = 0 → k61 (0 : Int32) (x5 + (1 : Int32))) ∧
          (¬ (Mo_states mo (((6 : Int32) * (Mo_right mo x5.toNatClampNeg)) + x2).toNatClampNeg) = 0 → p_Mo_stands_177 x1 x2 x3 mo Q k61 x5))))))))))))
def p_Mo_stands_124 (x1 : Int32) (x2 : Int32) (x3 : Int32) (mo : Mo) (Q : Int32 → Prop) (k61 : Int32 → Int32 → Prop) (x5 : Int32) : Prop :=
  p_Mo_stands_125 x1 x2 x3 mo Q k61 x5 (0 : Int32)
def p_Mo_stands_120 (x1 : Int32) (x2 : Int32) (x3 : Int32) (mo : Mo) (Q : Int32 → Prop) (k61 : Int32 → Int32 → Prop) (x5 : Int32) : Prop :=
  p_Mo_stands_125 x1 x2 x3 mo Q k61 x5 (1 : Int32)
def p_Mo_stands_61 (x1 : Int32) (x2 : Int32) (x3 : Int32) (mo : Mo) (Q : Int32 → Prop) : Nat → Int32 → Int32 → Prop
  | 0, _, _ => False
  | n + 1, x4, x5 => (((Mo_rules mo) ≤ x5 → (isB x4 ∧ Q x4)) ∧
    (¬ (Mo_rules mo) ≤ x5 → ((¬ x4 = 0 → p_Mo_stands_120 x1 x2 x3 mo Q (fun a0 a1 => p_Mo_stands_61 x1 x2 x3 mo Q n a0 a1) x5) ∧
      (x4 = 0 → ((¬ x3 = (1 : Int32) → p_Mo_stands_124 x1 x2 x3 mo Q (fun a0 a1 => p_Mo_stands_61 x1 x2 x3 mo Q n a0 a1) x5) ∧
        (x3 = (1 : Int32) → (vp_in x5 8 ∧ (vp_in (((6 : Int32) * (Mo_left mo x5.toNatClampNeg)) + x2) 288 ∧ (((Mo_states mo (((6 : Int32) * (Mo_left mo x5.toNatClampNeg)) + x2).toNatClampNeg) = 0 → p_Mo_stands_124 x1 x2 x3 mo Q (fun a0 a1 => p_Mo_stands_61 x1 x2 x3 mo Q n a0 a1) x5) ∧
          (¬ (Mo_states mo (((6 : Int32) * (Mo_left mo x5.toNatClampNeg)) + x2).toNatClampNeg) = 0 → (vp_in x5 8 ∧ (vp_in (((48 : Int32) * (Mo_right mo x5.toNatClampNeg)) + x1) 2304 ∧ (((Mo_goes mo (((48 : Int32) * (Mo_right mo x5.toNatClampNeg)) + x1).toNatClampNeg) = 0 → p_Mo_stands_124 x1 x2 x3 mo Q (fun a0 a1 => p_Mo_stands_61 x1 x2 x3 mo Q n a0 a1) x5) ∧
            (¬ (Mo_goes mo (((48 : Int32) * (Mo_right mo x5.toNatClampNeg)) + x1).toNatClampNeg) = 0 → p_Mo_stands_120 x1 x2 x3 mo Q (fun a0 a1 => p_Mo_stands_61 x1 x2 x3 mo Q n a0 a1) x5))))))))))))))
def p_Mo_stands_45 (x1 : Int32) (x2 : Int32) (x3 : Int32) (mo : Mo) (Q : Int32 → Prop) (k6 : Int32 → Int32 → Prop) (x5 : Int32) : Prop :=
  k6 (1 : Int32) (x5 + (1 : Int32))
def p_Mo_stands_6 (x1 : Int32) (x2 : Int32) (x3 : Int32) (mo : Mo) (Q : Int32 → Prop) : Nat → Int32 → Int32 → Prop
  | 0, _, _ => False
  | n + 1, x4, x5 => (((Mo_edges mo) ≤ x5 → (∃ f, p_Mo_stands_61 x1 x2 x3 mo Q f x4 (0 : Int32))) ∧
    (¬ (Mo_edges mo) ≤ x5 → ((¬ x4 = 0 → p_Mo_stands_45 x1 x2 x3 mo Q (fun a0 a1 => p_Mo_stands_6 x1 x2 x3 mo Q n a0 a1) x5) ∧
      (x4 = 0 → (vp_in (((4 : Int32) * x5) + (3 : Int32)) 80 ∧ ((¬ (Mo_edge mo (((4 : Int32) * x5) + (3 : Int32)).toNatClampNeg) = x2 → p_Mo_stands_6 x1 x2 x3 mo Q n (0 : Int32) (x5 + (1 : Int32))) ∧
        ((Mo_edge mo (((4 : Int32) * x5) + (3 : Int32)).toNatClampNeg) = x2 → p_Mo_byEdge x1 x5 mo (fun r39 => ((r39 = 0 → p_Mo_stands_6 x1 x2 x3 mo Q n (0 : Int32) (x5 + (1 : Int32))) ∧
          (¬ r39 = 0 → p_Mo_stands_45 x1 x2 x3 mo Q (fun a0 a1 => p_Mo_stands_6 x1 x2 x3 mo Q n a0 a1) x5))))))))))
def p_Mo_stands (x1 : Int32) (x2 : Int32) (x3 : Int32) (mo : Mo) (Q : Int32 → Prop) : Prop :=
  (∃ f, p_Mo_stands_6 x1 x2 x3 mo Q f (0 : Int32) (0 : Int32))

abbrev rm_Mo_stand : Room := { frames := 2, cells := 0, slots := 0, locals := 47 }
def p_Mo_stand_43 (x1 : Int32) (Q : Mo → Prop) (k24 : Int32 → Mo → Prop) (k32 : Int32 → Int32 → Mo → Prop) : Nat → Int32 → Int32 → Int32 → Mo → Prop
  | 0, _, _, _, _ => False
  | n + 1, x2, x3, x4, mo => (((6 : Int32) ≤ x4 → k32 x2 (x3 + (1 : Int32)) mo) ∧
    (¬ (6 : Int32) ≤ x4 → (vp_in (((6 : Int32) * x3) + x4) 288 ∧ ((¬ (Mo_states mo (((6 : Int32) * x3) + x4).toNatClampNeg) = 0 → p_Mo_stand_43 x1 Q k24 k32 n x2 x3 (x4 + (1 : Int32)) mo) ∧
      ((Mo_states mo (((6 : Int32) * x3) + x4).toNatClampNeg) = 0 → p_Mo_stands x3 x4 x1 mo (fun r70 => ((r70 = 0 → p_Mo_stand_43 x1 Q k24 k32 n x2 x3 (x4 + (1 : Int32)) mo) ∧
        (¬ r70 = 0 → (vp_in (((6 : Int32) * x3) + x4) 288 ∧ ∀ mo88 : Mo, mo88 = Mo_states_s mo (upd (Mo_states mo) (((6 : Int32) * x3) + x4).toNatClampNeg (vp_nar .boolean (1 : Int32))) → p_Mo_stand_43 x1 Q k24 k32 n (1 : Int32) x3 (x4 + (1 : Int32)) mo88)))))))))
def p_Mo_stand_32 (x1 : Int32) (Q : Mo → Prop) (k24 : Int32 → Mo → Prop) : Nat → Int32 → Int32 → Mo → Prop
  | 0, _, _, _ => False
  | n + 1, x2, x3, mo => (((Mo_count mo) ≤ x3 → k24 x2 mo) ∧
    (¬ (Mo_count mo) ≤ x3 → (∃ f, p_Mo_stand_43 x1 Q k24 (fun a0 a1 a2 => p_Mo_stand_32 x1 Q k24 n a0 a1 a2) f x2 x3 (0 : Int32) mo)))
def p_Mo_stand_24 (x1 : Int32) (Q : Mo → Prop) : Nat → Int32 → Mo → Prop
  | 0, _, _ => False
  | n + 1, x2, mo => ((x2 = 0 → Q mo) ∧
    (¬ x2 = 0 → (∃ f, p_Mo_stand_32 x1 Q (fun a0 a1 => p_Mo_stand_24 x1 Q n a0 a1) f (0 : Int32) (0 : Int32) mo)))
def p_Mo_stand_2 (x1 : Int32) (Q : Mo → Prop) : Nat → Int32 → Mo → Prop
  | 0, _, _ => False
  | n + 1, x2, mo => (((288 : Int32) ≤ x2 → (∃ f, p_Mo_stand_24 x1 Q f (1 : Int32) mo)) ∧
    (¬ (288 : Int32) ≤ x2 → (vp_in x2 288 ∧ ∀ mo15 : Mo, mo15 = Mo_states_s mo (upd (Mo_states mo) x2.toNatClampNeg (vp_nar .boolean (0 : Int32))) → p_Mo_stand_2 x1 Q n (x2 + (1 : Int32)) mo15)))
def p_Mo_stand (x1 : Int32) (mo : Mo) (Q : Mo → Prop) : Prop :=
  (∃ f, p_Mo_stand_2 x1 Q f (0 : Int32) mo)

abbrev rm_Mo_isFinal : Room := { frames := 3, cells := 0, slots := 0, locals := 71 }
def p_Mo_isFinal_60 (x1 : Int32) (x2 : Int32) (Q : Int32 → Mo → Prop) (k21 : Int32 → Int32 → Mo → Prop) (x4 : Int32) (mo : Mo) : Prop :=
  k21 (1 : Int32) (x4 + (1 : Int32)) mo
def p_Mo_isFinal_21 (x1 : Int32) (x2 : Int32) (Q : Int32 → Mo → Prop) : Nat → Int32 → Int32 → Mo → Prop
  | 0, _, _, _ => False
  | n + 1, x3, x4, mo => (((6 : Int32) ≤ x4 → (isB x3 ∧ Q x3 mo)) ∧
    (¬ (6 : Int32) ≤ x4 → ((¬ x3 = 0 → p_Mo_isFinal_60 x1 x2 Q (fun a0 a1 a2 => p_Mo_isFinal_21 x1 x2 Q n a0 a1 a2) x4 mo) ∧
      (x3 = 0 → ((¬ (((Mo_finals mo) >>> (x4 &&& 31)) &&& (1 : Int32)) = (1 : Int32) → p_Mo_isFinal_21 x1 x2 Q n (0 : Int32) (x4 + (1 : Int32)) mo) ∧
        ((((Mo_finals mo) >>> (x4 &&& 31)) &&& (1 : Int32)) = (1 : Int32) → (vp_in (((6 : Int32) * x1) + x4) 288 ∧ (((Mo_states mo (((6 : Int32) * x1) + x4).toNatClampNeg) = 0 → p_Mo_isFinal_21 x1 x2 Q n (0 : Int32) (x4 + (1 : Int32)) mo) ∧
          (¬ (Mo_states mo (((6 : Int32) * x1) + x4).toNatClampNeg) = 0 → p_Mo_isFinal_60 x1 x2 Q (fun a0 a1 a2 => p_Mo_isFinal_21 x1 x2 Q n a0 a1 a2) x4 mo)))))))))
def p_Mo_isFinal (x1 : Int32) (x2 : Int32) (mo : Mo) (Q : Int32 → Mo → Prop) : Prop :=
  p_Mo_ask x1 x1 mo (fun r3 mo3 => ((¬ r3 = 0 → p_Mo_stand x2 mo3 (fun mo13 => (∃ f, p_Mo_isFinal_21 x1 x2 Q f (0 : Int32) (0 : Int32) mo13))) ∧
    (r3 = 0 → Q (0 : Int32) mo3)))

abbrev rm_Mo_has : Room := { frames := 4, cells := 0, slots := 0, locals := 95 }
def p_Mo_has (x1 : Int32) (mo : Mo) (Q : Int32 → Mo → Prop) : Prop :=
  p_Mo_isFinal x1 (0 : Int32) mo (fun r3 mo3 => (isB r3 ∧ Q r3 mo3))

abbrev rm_Mo_from : Room := { frames := 4, cells := 0, slots := 0, locals := 95 }
def p_Mo_from (x1 : Int32) (mo : Mo) (Q : Int32 → Mo → Prop) : Prop :=
  p_Mo_isFinal x1 (1 : Int32) mo (fun r3 mo3 => (isB r3 ∧ Q r3 mo3))

abbrev rm_Mo_into : Room := { frames := 4, cells := 0, slots := 0, locals := 95 }
def p_Mo_into (x1 : Int32) (mo : Mo) (Q : Int32 → Mo → Prop) : Prop :=
  p_Mo_isFinal x1 (2 : Int32) mo (fun r3 mo3 => (isB r3 ∧ Q r3 mo3))

abbrev rm_Mo_least : Room := { frames := 3, cells := 0, slots := 0, locals := 70 }
def p_Mo_least_117 (x1 : Int32) (Q : Int32 → Mo → Prop) (k40 : Int32 → Mo → Prop) (k48 : Int32 → Int32 → Mo → Prop) : Nat → Int32 → Int32 → Int32 → Int32 → Mo → Prop
  | 0, _, _, _, _, _ => False
  | n + 1, x2, x3, x4, x5, mo => (((Mo_rules mo) ≤ x5 → (vp_in x3 48 ∧ (((Mo_light mo x3.toNatClampNeg) ≤ x4 → k48 x2 (x3 + (1 : Int32)) mo) ∧
      (¬ (Mo_light mo x3.toNatClampNeg) ≤ x4 → (vp_in x3 48 ∧ ∀ mo206 : Mo, mo206 = Mo_light_s mo (upd (Mo_light mo) x3.toNatClampNeg x4) → k48 (1 : Int32) (x3 + (1 : Int32)) mo206))))) ∧
    (¬ (Mo_rules mo) ≤ x5 → (vp_in x5 8 ∧ (vp_in (((48 : Int32) * x3) + (Mo_left mo x5.toNatClampNeg)) 2304 ∧ (((Mo_goes mo (((48 : Int32) * x3) + (Mo_left mo x5.toNatClampNeg)).toNatClampNeg) = 0 → p_Mo_least_117 x1 Q k40 k48 n x2 x3 x4 (x5 + (1 : Int32)) mo) ∧
      (¬ (Mo_goes mo (((48 : Int32) * x3) + (Mo_left mo x5.toNatClampNeg)).toNatClampNeg) = 0 → (vp_in x5 8 ∧ (vp_in (Mo_right mo x5.toNatClampNeg) 48 ∧ ((x4 ≤ (Mo_light mo (Mo_right mo x5.toNatClampNeg).toNatClampNeg) → p_Mo_least_117 x1 Q k40 k48 n x2 x3 x4 (x5 + (1 : Int32)) mo) ∧
        (¬ x4 ≤ (Mo_light mo (Mo_right mo x5.toNatClampNeg).toNatClampNeg) → (vp_in x5 8 ∧ (vp_in (Mo_right mo x5.toNatClampNeg) 48 ∧ p_Mo_least_117 x1 Q k40 k48 n x2 x3 (Mo_light mo (Mo_right mo x5.toNatClampNeg).toNatClampNeg) (x5 + (1 : Int32)) mo))))))))))))
def p_Mo_least_107 (x1 : Int32) (Q : Int32 → Mo → Prop) (k40 : Int32 → Mo → Prop) (k48 : Int32 → Int32 → Mo → Prop) (x2 : Int32) (x3 : Int32) (y0 : Int32) (y1 : Int64) (mo : Mo) : Prop :=
  p_Mo_capped (y1 + y0.toInt64) (fun r109 => (∃ f, p_Mo_least_117 x1 Q k40 k48 f x2 x3 r109 (0 : Int32) mo))
def p_Mo_least_81 (x1 : Int32) (Q : Int32 → Mo → Prop) (k40 : Int32 → Mo → Prop) (k48 : Int32 → Int32 → Mo → Prop) (x2 : Int32) (x3 : Int32) (y0 : Int32) (y1 : Int64) (mo : Mo) : Prop :=
  (vp_in x3 520 ∧ ((0 ≤ (Mo_two mo x3.toNatClampNeg) → (vp_in x3 520 ∧ (vp_in (Mo_two mo x3.toNatClampNeg) 48 ∧ p_Mo_least_107 x1 Q k40 k48 x2 x3 (Mo_light mo (Mo_two mo x3.toNatClampNeg).toNatClampNeg) (y1 + y0.toInt64) mo))) ∧
    (¬ 0 ≤ (Mo_two mo x3.toNatClampNeg) → p_Mo_least_107 x1 Q k40 k48 x2 x3 (0 : Int32) (y1 + y0.toInt64) mo)))
def p_Mo_least_48 (x1 : Int32) (Q : Int32 → Mo → Prop) (k40 : Int32 → Mo → Prop) : Nat → Int32 → Int32 → Mo → Prop
  | 0, _, _, _ => False
  | n + 1, x2, x3, mo => (((Mo_count mo) ≤ x3 → k40 x2 mo) ∧
    (¬ (Mo_count mo) ≤ x3 → (vp_in x3 520 ∧ ((0 ≤ (Mo_one mo x3.toNatClampNeg) → (vp_in x3 520 ∧ (vp_in (Mo_one mo x3.toNatClampNeg) 48 ∧ p_Mo_least_81 x1 Q k40 (fun a0 a1 a2 => p_Mo_least_48 x1 Q k40 n a0 a1 a2) x2 x3 (Mo_light mo (Mo_one mo x3.toNatClampNeg).toNatClampNeg) (1 : Int64) mo))) ∧
      (¬ 0 ≤ (Mo_one mo x3.toNatClampNeg) → p_Mo_least_81 x1 Q k40 (fun a0 a1 a2 => p_Mo_least_48 x1 Q k40 n a0 a1 a2) x2 x3 (0 : Int32) (1 : Int64) mo)))))
def p_Mo_least_40 (x1 : Int32) (Q : Int32 → Mo → Prop) : Nat → Int32 → Mo → Prop
  | 0, _, _ => False
  | n + 1, x2, mo => ((x2 = 0 → (vp_in x1 48 ∧ Q (Mo_light mo x1.toNatClampNeg) mo)) ∧
    (¬ x2 = 0 → (∃ f, p_Mo_least_48 x1 Q (fun a0 a1 => p_Mo_least_40 x1 Q n a0 a1) f (0 : Int32) (0 : Int32) mo)))
def p_Mo_least_13 (x1 : Int32) (Q : Int32 → Mo → Prop) : Nat → Int32 → Mo → Prop
  | 0, _, _ => False
  | n + 1, x2, mo => (((Mo_count mo) ≤ x2 → (∃ f, p_Mo_least_40 x1 Q f (1 : Int32) mo)) ∧
    (¬ (Mo_count mo) ≤ x2 → p_Mo_size x2 mo (fun r28 mo28 => (vp_in x2 48 ∧ ∀ mo31 : Mo, mo31 = Mo_light_s mo28 (upd (Mo_light mo28) x2.toNatClampNeg r28) → p_Mo_least_13 x1 Q n (x2 + (1 : Int32)) mo31))))
def p_Mo_least (x1 : Int32) (mo : Mo) (Q : Int32 → Mo → Prop) : Prop :=
  p_Mo_ask x1 x1 mo (fun r3 mo3 => ((¬ r3 = 0 → (∃ f, p_Mo_least_13 x1 Q f (0 : Int32) mo3)) ∧
    (r3 = 0 → Q (0 : Int32) mo3)))

abbrev rm_Mo_lightest : Room := { frames := 1, cells := 0, slots := 0, locals := 21 }
def p_Mo_lightest_199 (x1 : Int32) (Q : Int32 → Mo → Prop) (k48 : Int32 → Mo → Prop) (k56 : Int32 → Int32 → Mo → Prop) (x3 : Int32) (x6 : Int32) (x7 : Int32) (mo : Mo) : Prop :=
  (vp_in x6 6 ∧ ∀ mo207 : Mo, mo207 = Mo_stateLight_s mo (upd (Mo_stateLight mo) x6.toNatClampNeg x7) → k56 (1 : Int32) (x3 + (1 : Int32)) mo207)
def p_Mo_lightest_170 (x1 : Int32) (Q : Int32 → Mo → Prop) (k48 : Int32 → Mo → Prop) (k56 : Int32 → Int32 → Mo → Prop) (x2 : Int32) (x3 : Int32) (x6 : Int32) (y0 : Int32) (mo : Mo) : Prop :=
  ((y0 < 0 → k56 x2 (x3 + (1 : Int32)) mo) ∧
    (¬ y0 < 0 → (vp_in x6 6 ∧ (((Mo_stateLight mo x6.toNatClampNeg) < 0 → p_Mo_lightest_199 x1 Q k48 k56 x3 x6 y0 mo) ∧
      (¬ (Mo_stateLight mo x6.toNatClampNeg) < 0 → (vp_in x6 6 ∧ (((Mo_stateLight mo x6.toNatClampNeg) ≤ y0 → k56 x2 (x3 + (1 : Int32)) mo) ∧
        (¬ (Mo_stateLight mo x6.toNatClampNeg) ≤ y0 → p_Mo_lightest_199 x1 Q k48 k56 x3 x6 y0 mo))))))))
def p_Mo_lightest_154 (x1 : Int32) (Q : Int32 → Mo → Prop) (k48 : Int32 → Mo → Prop) (k56 : Int32 → Int32 → Mo → Prop) (x2 : Int32) (x3 : Int32) (x6 : Int32) (mo : Mo) : Prop :=
  p_Mo_lightest_170 x1 Q k48 k56 x2 x3 x6 (-1 : Int32) mo
def p_Mo_lightest_130 (x1 : Int32) (Q : Int32 → Mo → Prop) (k48 : Int32 → Mo → Prop) (k56 : Int32 → Int32 → Mo → Prop) (x2 : Int32) (x3 : Int32) (x4 : Int32) (y0 : Int32) (mo : Mo) : Prop :=
  (vp_in (((4 : Int32) * x3) + (3 : Int32)) 80 ∧ ((x4 < 0 → p_Mo_lightest_154 x1 Q k48 k56 x2 x3 (Mo_edge mo (((4 : Int32) * x3) + (3 : Int32)).toNatClampNeg) mo) ∧
    (¬ x4 < 0 → ((0 ≤ y0 → p_Mo_capped (((1 : Int64) + x4.toInt64) + y0.toInt64) (fun r167 => p_Mo_lightest_170 x1 Q k48 k56 x2 x3 (Mo_edge mo (((4 : Int32) * x3) + (3 : Int32)).toNatClampNeg) r167 mo)) ∧
      (¬ 0 ≤ y0 → p_Mo_lightest_154 x1 Q k48 k56 x2 x3 (Mo_edge mo (((4 : Int32) * x3) + (3 : Int32)).toNatClampNeg) mo)))))
def p_Mo_lightest_96 (x1 : Int32) (Q : Int32 → Mo → Prop) (k48 : Int32 → Mo → Prop) (k56 : Int32 → Int32 → Mo → Prop) (x2 : Int32) (x3 : Int32) (y0 : Int32) (mo : Mo) : Prop :=
  (vp_in (((4 : Int32) * x3) + (2 : Int32)) 80 ∧ ((0 ≤ (Mo_edge mo (((4 : Int32) * x3) + (2 : Int32)).toNatClampNeg) → (vp_in (((4 : Int32) * x3) + (2 : Int32)) 80 ∧ (vp_in (Mo_edge mo (((4 : Int32) * x3) + (2 : Int32)).toNatClampNeg) 6 ∧ p_Mo_lightest_130 x1 Q k48 k56 x2 x3 y0 (Mo_stateLight mo (Mo_edge mo (((4 : Int32) * x3) + (2 : Int32)).toNatClampNeg).toNatClampNeg) mo))) ∧
    (¬ 0 ≤ (Mo_edge mo (((4 : Int32) * x3) + (2 : Int32)).toNatClampNeg) → p_Mo_lightest_130 x1 Q k48 k56 x2 x3 y0 (0 : Int32) mo)))
def p_Mo_lightest_56 (x1 : Int32) (Q : Int32 → Mo → Prop) (k48 : Int32 → Mo → Prop) : Nat → Int32 → Int32 → Mo → Prop
  | 0, _, _, _ => False
  | n + 1, x2, x3, mo => (((Mo_edges mo) ≤ x3 → k48 x2 mo) ∧
    (¬ (Mo_edges mo) ≤ x3 → (vp_in (((4 : Int32) * x3) + (1 : Int32)) 80 ∧ ((0 ≤ (Mo_edge mo (((4 : Int32) * x3) + (1 : Int32)).toNatClampNeg) → (vp_in (((4 : Int32) * x3) + (1 : Int32)) 80 ∧ (vp_in (Mo_edge mo (((4 : Int32) * x3) + (1 : Int32)).toNatClampNeg) 6 ∧ p_Mo_lightest_96 x1 Q k48 (fun a0 a1 a2 => p_Mo_lightest_56 x1 Q k48 n a0 a1 a2) x2 x3 (Mo_stateLight mo (Mo_edge mo (((4 : Int32) * x3) + (1 : Int32)).toNatClampNeg).toNatClampNeg) mo))) ∧
      (¬ 0 ≤ (Mo_edge mo (((4 : Int32) * x3) + (1 : Int32)).toNatClampNeg) → p_Mo_lightest_96 x1 Q k48 (fun a0 a1 a2 => p_Mo_lightest_56 x1 Q k48 n a0 a1 a2) x2 x3 (0 : Int32) mo)))))
def p_Mo_lightest_48 (x1 : Int32) (Q : Int32 → Mo → Prop) : Nat → Int32 → Mo → Prop
  | 0, _, _ => False
  | n + 1, x2, mo => ((x2 = 0 → (vp_in x1 6 ∧ Q (Mo_stateLight mo x1.toNatClampNeg) mo)) ∧
    (¬ x2 = 0 → (∃ f, p_Mo_lightest_56 x1 Q (fun a0 a1 => p_Mo_lightest_48 x1 Q n a0 a1) f (0 : Int32) (0 : Int32) mo)))
def p_Mo_lightest_27 (x1 : Int32) (Q : Int32 → Mo → Prop) : Nat → Int32 → Mo → Prop
  | 0, _, _ => False
  | n + 1, x2, mo => (((6 : Int32) ≤ x2 → (∃ f, p_Mo_lightest_48 x1 Q f (1 : Int32) mo)) ∧
    (¬ (6 : Int32) ≤ x2 → (vp_in x2 6 ∧ ∀ mo39 : Mo, mo39 = Mo_stateLight_s mo (upd (Mo_stateLight mo) x2.toNatClampNeg (-1 : Int32)) → p_Mo_lightest_27 x1 Q n (x2 + (1 : Int32)) mo39)))
def p_Mo_lightest_13 (x1 : Int32) (Q : Int32 → Mo → Prop) (y0 : Int32) (mo : Mo) : Prop :=
  (∀ mo13 : Mo, mo13 = Mo_thrown_s mo y0 → (((Mo_thrown mo13) ≤ 0 → (∃ f, p_Mo_lightest_27 x1 Q f (0 : Int32) mo13)) ∧
    (¬ (Mo_thrown mo13) ≤ 0 → Q (0 : Int32) mo13)))
def p_Mo_lightest (x1 : Int32) (mo : Mo) (Q : Int32 → Mo → Prop) : Prop :=
  p_Mo_isState x1 (fun r2 => ((r2 = 0 → p_Mo_lightest_13 x1 Q (1 : Int32) mo) ∧
    (¬ r2 = 0 → p_Mo_lightest_13 x1 Q (0 : Int32) mo)))

abbrev rm_Mo_down : Room := { frames := 1, cells := 0, slots := 0, locals := 23 }
def p_Mo_down_179 (x1 : Int32) (x2 : Int32) (Q : Int32 → Mo → Prop) (k144 : Int32 → Int32 → Int32 → Int32 → Mo → Prop) (x3 : Int32) (x4 : Int32) (x6 : Int32) (x7 : Int32) (mo : Mo) : Prop :=
  k144 (x3 + (-1 : Int32)) x4 x6 (x7 + (1 : Int32)) mo
def p_Mo_down_144 (x1 : Int32) (x2 : Int32) (Q : Int32 → Mo → Prop) : Nat → Int32 → Int32 → Int32 → Int32 → Mo → Prop
  | 0, _, _, _, _, _ => False
  | n + 1, x3, x4, x6, x7, mo => (((Mo_rules mo) ≤ x7 → Q x6 mo) ∧
    (¬ (Mo_rules mo) ≤ x7 → (vp_in x7 8 ∧ ((¬ (Mo_left mo x7.toNatClampNeg) = x4 → p_Mo_down_144 x1 x2 Q n x3 x4 x6 (x7 + (1 : Int32)) mo) ∧
      ((Mo_left mo x7.toNatClampNeg) = x4 → ((¬ x3 = 0 → p_Mo_down_179 x1 x2 Q (fun a0 a1 a2 a3 a4 => p_Mo_down_144 x1 x2 Q n a0 a1 a2 a3 a4) x3 x4 x6 x7 mo) ∧
        (x3 = 0 → ((0 ≤ x6 → p_Mo_down_179 x1 x2 Q (fun a0 a1 a2 a3 a4 => p_Mo_down_144 x1 x2 Q n a0 a1 a2 a3 a4) x3 x4 x6 x7 mo) ∧
          (¬ 0 ≤ x6 → p_Mo_down_144 x1 x2 Q n (x3 + (-1 : Int32)) x4 x7 (x7 + (1 : Int32)) mo)))))))))
def p_Mo_down_98 (x1 : Int32) (x2 : Int32) (Q : Int32 → Mo → Prop) (k8 : Int32 → Int32 → Int32 → Mo → Prop) (x4 : Int32) (x5 : Int32) (x6 : Int32) (y0 : Int32) (y1 : Int32) (mo : Mo) : Prop :=
  ((x6 = 0 → (vp_in x4 520 ∧ k8 (y1 - y0) (Mo_two mo x4.toNatClampNeg) (x5 + (1 : Int32)) mo)) ∧
    (¬ x6 = 0 → (vp_in x4 520 ∧ k8 (y1 - y0) (Mo_one mo x4.toNatClampNeg) (x5 + (1 : Int32)) mo)))
def p_Mo_down_75 (x1 : Int32) (x2 : Int32) (Q : Int32 → Mo → Prop) (k8 : Int32 → Int32 → Int32 → Mo → Prop) (x3 : Int32) (x4 : Int32) (x5 : Int32) (x6 : Int32) (y0 : Int32) (y1 : Int32) (mo : Mo) : Prop :=
  (vp_in y1 520 ∧ ∀ mo75 : Mo, mo75 = Mo_side_s mo (upd (Mo_side mo) y1.toNatClampNeg y0) → ((x6 = 0 → (vp_in x4 520 ∧ (vp_in (Mo_one mo75 x4.toNatClampNeg) 520 ∧ p_Mo_down_98 x1 x2 Q k8 x4 x5 x6 (Mo_many mo75 (Mo_one mo75 x4.toNatClampNeg).toNatClampNeg) x3 mo75))) ∧
    (¬ x6 = 0 → p_Mo_down_98 x1 x2 Q k8 x4 x5 x6 (0 : Int32) x3 mo75)))
def p_Mo_down_57 (x1 : Int32) (x2 : Int32) (Q : Int32 → Mo → Prop) (k8 : Int32 → Int32 → Int32 → Mo → Prop) (x3 : Int32) (x4 : Int32) (x5 : Int32) (y0 : Int32) (mo : Mo) : Prop :=
  ((y0 = 0 → p_Mo_down_75 x1 x2 Q k8 x3 x4 x5 y0 (2 : Int32) x5 mo) ∧
    (¬ y0 = 0 → p_Mo_down_75 x1 x2 Q k8 x3 x4 x5 y0 (1 : Int32) x5 mo))
def p_Mo_down_8 (x1 : Int32) (x2 : Int32) (Q : Int32 → Mo → Prop) : Nat → Int32 → Int32 → Int32 → Mo → Prop
  | 0, _, _, _, _ => False
  | n + 1, x3, x4, x5, mo => p_Mo_lefts x4 mo (fun r12 => ((x3 < r12 → (vp_in x5 520 ∧ ∀ mo137 : Mo, mo137 = Mo_path_s mo (upd (Mo_path mo) x5.toNatClampNeg (-1 : Int32)) → (∃ f, p_Mo_down_144 x1 x2 Q f x3 x4 (-1 : Int32) (0 : Int32) mo137))) ∧
    (¬ x3 < r12 → p_Mo_lefts x4 mo (fun r22 => (vp_in x5 520 ∧ ∀ mo35 : Mo, mo35 = Mo_path_s mo (upd (Mo_path mo) x5.toNatClampNeg x4) → (vp_in x4 520 ∧ (vp_in (Mo_one mo35 x4.toNatClampNeg) 520 ∧ (((Mo_many mo35 (Mo_one mo35 x4.toNatClampNeg).toNatClampNeg) ≤ (x3 - r22) → p_Mo_down_57 x1 x2 Q (fun a0 a1 a2 a3 => p_Mo_down_8 x1 x2 Q n a0 a1 a2 a3) (x3 - r22) x4 x5 (0 : Int32) mo35) ∧
      (¬ (Mo_many mo35 (Mo_one mo35 x4.toNatClampNeg).toNatClampNeg) ≤ (x3 - r22) → p_Mo_down_57 x1 x2 Q (fun a0 a1 a2 a3 => p_Mo_down_8 x1 x2 Q n a0 a1 a2 a3) (x3 - r22) x4 x5 (1 : Int32) mo35)))))))))
def p_Mo_down (x1 : Int32) (x2 : Int32) (mo : Mo) (Q : Int32 → Mo → Prop) : Prop :=
  (∃ f, p_Mo_down_8 x1 x2 Q f x2 x1 (0 : Int32) mo)

abbrev rm_Mo_depth : Room := { frames := 0, cells := 0, slots := 0, locals := 0 }
def p_Mo_depth_2 (mo : Mo) (Q : Int32 → Prop) : Nat → Int32 → Prop
  | 0, _ => False
  | n + 1, x1 => (vp_in x1 520 ∧ (((Mo_path mo x1.toNatClampNeg) < 0 → Q x1) ∧
    (¬ (Mo_path mo x1.toNatClampNeg) < 0 → p_Mo_depth_2 mo Q n (x1 + (1 : Int32)))))
def p_Mo_depth  (mo : Mo) (Q : Int32 → Prop) : Prop :=
  (∃ f, p_Mo_depth_2 mo Q f (0 : Int32))

abbrev rm_Mo_step : Room := { frames := 2, cells := 0, slots := 0, locals := 50 }
def p_Mo_step_304 (x1 : Int32) (x2 : Int32) (Q : Int32 → Mo → Prop) (k236 : Int32 → Int32 → Mo → Prop) (x7 : Int32) (y0 : Int32) (y1 : Int32) (y2 : Int32) (mo : Mo) : Prop :=
  p_Mo_make y2 y1 y0 mo (fun r304 mo304 => k236 r304 (x7 + (-1 : Int32)) mo304)
def p_Mo_step_281 (x1 : Int32) (x2 : Int32) (Q : Int32 → Mo → Prop) (k236 : Int32 → Int32 → Mo → Prop) (x5 : Int32) (x7 : Int32) (x8 : Int32) (y0 : Int32) (y1 : Int32) (mo : Mo) : Prop :=
  (vp_in x7 520 ∧ ((¬ (Mo_side mo x7.toNatClampNeg) = (2 : Int32) → (vp_in x8 520 ∧ p_Mo_step_304 x1 x2 Q k236 x7 (Mo_two mo x8.toNatClampNeg) y0 y1 mo)) ∧
    ((Mo_side mo x7.toNatClampNeg) = (2 : Int32) → p_Mo_step_304 x1 x2 Q k236 x7 x5 y0 y1 mo)))
def p_Mo_step_236 (x1 : Int32) (x2 : Int32) (Q : Int32 → Mo → Prop) : Nat → Int32 → Int32 → Mo → Prop
  | 0, _, _, _ => False
  | n + 1, x5, x7, mo => ((x7 < 0 → Q x5 mo) ∧
    (¬ x7 < 0 → (vp_in x7 520 ∧ (vp_in (Mo_path mo x7.toNatClampNeg) 520 ∧ (vp_in x7 520 ∧ ((¬ (Mo_side mo x7.toNatClampNeg) = (1 : Int32) → (vp_in (Mo_path mo x7.toNatClampNeg) 520 ∧ p_Mo_step_281 x1 x2 Q (fun a0 a1 a2 => p_Mo_step_236 x1 x2 Q n a0 a1 a2) x5 x7 (Mo_path mo x7.toNatClampNeg) (Mo_one mo (Mo_path mo x7.toNatClampNeg).toNatClampNeg) (Mo_symbol mo (Mo_path mo x7.toNatClampNeg).toNatClampNeg) mo)) ∧
      ((Mo_side mo x7.toNatClampNeg) = (1 : Int32) → p_Mo_step_281 x1 x2 Q (fun a0 a1 a2 => p_Mo_step_236 x1 x2 Q n a0 a1 a2) x5 x7 (Mo_path mo x7.toNatClampNeg) x5 (Mo_symbol mo (Mo_path mo x7.toNatClampNeg).toNatClampNeg) mo)))))))
def p_Mo_step_215 (x1 : Int32) (x2 : Int32) (Q : Int32 → Mo → Prop) (x3 : Int32) (x4 : Int32) (y0 : Int32) (mo : Mo) : Prop :=
  (∀ mo215 : Mo, mo215 = Mo_thrown_s mo y0 → (((Mo_thrown mo215) ≤ 0 → (∃ f, p_Mo_step_236 x1 x2 Q f x3 (x4 - (1 : Int32)) mo215)) ∧
    (¬ (Mo_thrown mo215) ≤ 0 → Q (0 : Int32) mo215)))
def p_Mo_step_174 (x1 : Int32) (x2 : Int32) (Q : Int32 → Mo → Prop) (k94 : Int32 → Int32 → Int32 → Int32 → Int32 → Mo → Prop) (x3 : Int32) (x4 : Int32) (x6 : Int32) (x7 : Int32) (y0 : Int32) (mo : Mo) : Prop :=
  ((0 ≤ y0 → k94 x3 x4 y0 (x6 + (0 : Int32)) (x7 + (-1 : Int32)) mo) ∧
    (¬ 0 ≤ y0 → k94 x3 x4 y0 (x6 + (1 : Int32)) (x7 + (-1 : Int32)) mo))
def p_Mo_step_171 (x1 : Int32) (x2 : Int32) (Q : Int32 → Mo → Prop) (k94 : Int32 → Int32 → Int32 → Int32 → Int32 → Mo → Prop) (x3 : Int32) (x4 : Int32) (x6 : Int32) (x7 : Int32) (y0 : Int32) (y1 : Int32) (y2 : Int32) (mo : Mo) : Prop :=
  p_Mo_known y2 y1 y0 mo (fun r171 => p_Mo_step_174 x1 x2 Q k94 x3 x4 x6 x7 r171 mo)
def p_Mo_step_148 (x1 : Int32) (x2 : Int32) (Q : Int32 → Mo → Prop) (k94 : Int32 → Int32 → Int32 → Int32 → Int32 → Mo → Prop) (x3 : Int32) (x4 : Int32) (x5 : Int32) (x6 : Int32) (x7 : Int32) (x8 : Int32) (y0 : Int32) (y1 : Int32) (mo : Mo) : Prop :=
  (vp_in x7 520 ∧ ((¬ (Mo_side mo x7.toNatClampNeg) = (2 : Int32) → (vp_in x8 520 ∧ p_Mo_step_171 x1 x2 Q k94 x3 x4 x6 x7 (Mo_two mo x8.toNatClampNeg) y0 y1 mo)) ∧
    ((Mo_side mo x7.toNatClampNeg) = (2 : Int32) → p_Mo_step_171 x1 x2 Q k94 x3 x4 x6 x7 x5 y0 y1 mo)))
def p_Mo_step_94 (x1 : Int32) (x2 : Int32) (Q : Int32 → Mo → Prop) : Nat → Int32 → Int32 → Int32 → Int32 → Int32 → Mo → Prop
  | 0, _, _, _, _, _, _ => False
  | n + 1, x3, x4, x5, x6, x7, mo => ((x7 < 0 → ((((Mo_count mo) + x6) ≤ (48 : Int32) → p_Mo_step_215 x1 x2 Q x3 x4 (0 : Int32) mo) ∧
      (¬ ((Mo_count mo) + x6) ≤ (48 : Int32) → p_Mo_step_215 x1 x2 Q x3 x4 (2 : Int32) mo))) ∧
    (¬ x7 < 0 → (vp_in x7 520 ∧ ((x6 ≤ 0 → (vp_in (Mo_path mo x7.toNatClampNeg) 520 ∧ (vp_in x7 520 ∧ ((¬ (Mo_side mo x7.toNatClampNeg) = (1 : Int32) → (vp_in (Mo_path mo x7.toNatClampNeg) 520 ∧ p_Mo_step_148 x1 x2 Q (fun a0 a1 a2 a3 a4 a5 => p_Mo_step_94 x1 x2 Q n a0 a1 a2 a3 a4 a5) x3 x4 x5 x6 x7 (Mo_path mo x7.toNatClampNeg) (Mo_one mo (Mo_path mo x7.toNatClampNeg).toNatClampNeg) (Mo_symbol mo (Mo_path mo x7.toNatClampNeg).toNatClampNeg) mo)) ∧
        ((Mo_side mo x7.toNatClampNeg) = (1 : Int32) → p_Mo_step_148 x1 x2 Q (fun a0 a1 a2 a3 a4 a5 => p_Mo_step_94 x1 x2 Q n a0 a1 a2 a3 a4 a5) x3 x4 x5 x6 x7 (Mo_path mo x7.toNatClampNeg) x5 (Mo_symbol mo (Mo_path mo x7.toNatClampNeg).toNatClampNeg) mo))))) ∧
      (¬ x6 ≤ 0 → p_Mo_step_174 x1 x2 Q (fun a0 a1 a2 a3 a4 a5 => p_Mo_step_94 x1 x2 Q n a0 a1 a2 a3 a4 a5) x3 x4 x6 x7 (-1 : Int32) mo)))))
def p_Mo_step_52 (x1 : Int32) (x2 : Int32) (Q : Int32 → Mo → Prop) (y0 : Int32) (mo : Mo) : Prop :=
  (∀ mo52 : Mo, mo52 = Mo_thrown_s mo y0 → (((Mo_thrown mo52) ≤ 0 → p_Mo_down x1 x2 mo52 (fun r71 mo71 => (vp_in r71 8 ∧ p_Mo_depth mo71 (fun r77 => (∃ f, p_Mo_step_94 x1 x2 Q f (Mo_right mo71 r71.toNatClampNeg) r77 (Mo_right mo71 r71.toNatClampNeg) (0 : Int32) (r77 - (1 : Int32)) mo71))))) ∧
    (¬ (Mo_thrown mo52) ≤ 0 → Q (0 : Int32) mo52)))
def p_Mo_step_25 (x1 : Int32) (x2 : Int32) (Q : Int32 → Mo → Prop) (y0 : Int32) (mo : Mo) : Prop :=
  (∀ mo25 : Mo, mo25 = Mo_thrown_s mo y0 → (((Mo_thrown mo25) ≤ 0 → p_Mo_steps x1 mo25 (fun r41 mo41 => ((x2 < r41 → p_Mo_step_52 x1 x2 Q (0 : Int32) mo41) ∧
      (¬ x2 < r41 → p_Mo_step_52 x1 x2 Q (1 : Int32) mo41)))) ∧
    (¬ (Mo_thrown mo25) ≤ 0 → Q (0 : Int32) mo25)))
def p_Mo_step_20 (x1 : Int32) (x2 : Int32) (Q : Int32 → Mo → Prop) (mo : Mo) : Prop :=
  p_Mo_step_25 x1 x2 Q (1 : Int32) mo
def p_Mo_step (x1 : Int32) (x2 : Int32) (mo : Mo) (Q : Int32 → Mo → Prop) : Prop :=
  p_Mo_isTerm x1 mo (fun r3 => ((r3 = 0 → p_Mo_step_20 x1 x2 Q mo) ∧
    (¬ r3 = 0 → ((x2 < 0 → p_Mo_step_20 x1 x2 Q mo) ∧
      (¬ x2 < 0 → ((x2 ≤ (999 : Int32) → p_Mo_step_25 x1 x2 Q (0 : Int32) mo) ∧
        (¬ x2 ≤ (999 : Int32) → p_Mo_step_20 x1 x2 Q mo)))))))

abbrev rm_Mo_tally : Room := { frames := 1, cells := 0, slots := 0, locals := 23 }
def p_Mo_tally_61 (x1 : Int32) (Q : Mo → Prop) (y0 : Int32) (y1 : Int64) (y2 : Int32) (mo : Mo) : Prop :=
  p_Mo_capped (y1 + y0.toInt64) (fun r63 => (vp_in y2 520 ∧ ∀ mo66 : Mo, mo66 = Mo_many_s mo (upd (Mo_many mo) y2.toNatClampNeg r63) → Q mo66))
def p_Mo_tally_35 (x1 : Int32) (Q : Mo → Prop) (y0 : Int32) (y1 : Int64) (y2 : Int32) (mo : Mo) : Prop :=
  (vp_in x1 520 ∧ ((0 ≤ (Mo_two mo x1.toNatClampNeg) → (vp_in x1 520 ∧ (vp_in (Mo_two mo x1.toNatClampNeg) 520 ∧ p_Mo_tally_61 x1 Q (Mo_many mo (Mo_two mo x1.toNatClampNeg).toNatClampNeg) (y1 + y0.toInt64) y2 mo))) ∧
    (¬ 0 ≤ (Mo_two mo x1.toNatClampNeg) → p_Mo_tally_61 x1 Q (0 : Int32) (y1 + y0.toInt64) y2 mo)))
def p_Mo_tally (x1 : Int32) (mo : Mo) (Q : Mo → Prop) : Prop :=
  p_Mo_lefts x1 mo (fun r7 => (vp_in x1 520 ∧ ((0 ≤ (Mo_one mo x1.toNatClampNeg) → (vp_in x1 520 ∧ (vp_in (Mo_one mo x1.toNatClampNeg) 520 ∧ p_Mo_tally_35 x1 Q (Mo_many mo (Mo_one mo x1.toNatClampNeg).toNatClampNeg) r7.toInt64 x1 mo))) ∧
    (¬ 0 ≤ (Mo_one mo x1.toNatClampNeg) → p_Mo_tally_35 x1 Q (0 : Int32) r7.toInt64 x1 mo))))

abbrev rm_Mo_store : Room := { frames := 2, cells := 0, slots := 0, locals := 44 }
def p_Mo_store_13 (x1 : Int32) (x2 : Int32) (x3 : Int32) (Q : Int32 → Mo → Prop) : Nat → Int32 → Int32 → Mo → Prop
  | 0, _, _, _ => False
  | n + 1, x4, x5, mo => (((Mo_stored mo) ≤ x5 → ((x4 < 0 → ((¬ (Mo_stored mo) = (520 : Int32) → (vp_in (Mo_stored mo) 520 ∧ ∀ mo99 : Mo, mo99 = Mo_symbol_s mo (upd (Mo_symbol mo) (Mo_stored mo).toNatClampNeg x1) → (vp_in (Mo_stored mo99) 520 ∧ ∀ mo109 : Mo, mo109 = Mo_one_s mo99 (upd (Mo_one mo99) (Mo_stored mo99).toNatClampNeg x2) → (vp_in (Mo_stored mo109) 520 ∧ ∀ mo119 : Mo, mo119 = Mo_two_s mo109 (upd (Mo_two mo109) (Mo_stored mo109).toNatClampNeg x3) → p_Mo_tally (Mo_stored mo119) mo119 (fun mo125 => (vp_in (Mo_stored mo125) 520 ∧ ∀ mo137 : Mo, mo137 = Mo_came_s mo125 (upd (Mo_came mo125) (Mo_stored mo125).toNatClampNeg (vp_nar .boolean (0 : Int32))) → (vp_in (Mo_stored mo137) 520 ∧ ∀ mo147 : Mo, mo147 = Mo_marked_s mo137 (upd (Mo_marked mo137) (Mo_stored mo137).toNatClampNeg (vp_nar .boolean (0 : Int32))) → (∀ mo155 : Mo, mo155 = Mo_stored_s mo147 ((Mo_stored mo147) + (1 : Int32)) → Q ((Mo_stored mo155) - (1 : Int32)) mo155)))))))) ∧
        ((Mo_stored mo) = (520 : Int32) → Q (-1 : Int32) mo))) ∧
      (¬ x4 < 0 → Q x4 mo))) ∧
    (¬ (Mo_stored mo) ≤ x5 → (vp_in x5 520 ∧ ((¬ (Mo_symbol mo x5.toNatClampNeg) = x1 → p_Mo_store_13 x1 x2 x3 Q n x4 (x5 + (1 : Int32)) mo) ∧
      ((Mo_symbol mo x5.toNatClampNeg) = x1 → (vp_in x5 520 ∧ ((¬ (Mo_one mo x5.toNatClampNeg) = x2 → p_Mo_store_13 x1 x2 x3 Q n x4 (x5 + (1 : Int32)) mo) ∧
        ((Mo_one mo x5.toNatClampNeg) = x2 → (vp_in x5 520 ∧ ((¬ (Mo_two mo x5.toNatClampNeg) = x3 → p_Mo_store_13 x1 x2 x3 Q n x4 (x5 + (1 : Int32)) mo) ∧
          ((Mo_two mo x5.toNatClampNeg) = x3 → p_Mo_store_13 x1 x2 x3 Q n x5 (x5 + (1 : Int32)) mo)))))))))))
def p_Mo_store (x1 : Int32) (x2 : Int32) (x3 : Int32) (mo : Mo) (Q : Int32 → Mo → Prop) : Prop :=
  p_Mo_known x1 x2 x3 mo (fun r4 => (∃ f, p_Mo_store_13 x1 x2 x3 Q f r4 (48 : Int32) mo))

abbrev rm_Mo_take : Room := { frames := 0, cells := 0, slots := 0, locals := 0 }
def p_Mo_take_95 (x1 : Int32) (x2 : Int32) (Q : Mo → Prop) (k26 : Int32 → Mo → Prop) (x3 : Int32) (x4 : Int32) (mo : Mo) : Prop :=
  (vp_in x4 520 ∧ (((Mo_two mo x4.toNatClampNeg) < 0 → k26 x3 mo) ∧
    (¬ (Mo_two mo x4.toNatClampNeg) < 0 → (vp_in x4 520 ∧ (vp_in x3 1100 ∧ ∀ mo117 : Mo, mo117 = Mo_open_s mo (upd (Mo_open mo) x3.toNatClampNeg (Mo_two mo x4.toNatClampNeg)) → k26 (x3 + (1 : Int32)) mo117)))))
def p_Mo_take_26 (x1 : Int32) (x2 : Int32) (Q : Mo → Prop) : Nat → Int32 → Mo → Prop
  | 0, _, _ => False
  | n + 1, x3, mo => ((x3 ≤ 0 → Q mo) ∧
    (¬ x3 ≤ 0 → (vp_in (x3 + (-1 : Int32)) 1100 ∧ (vp_in (Mo_open mo (x3 + (-1 : Int32)).toNatClampNeg) 520 ∧ ((¬ (Mo_marked mo (Mo_open mo (x3 + (-1 : Int32)).toNatClampNeg).toNatClampNeg) = 0 → p_Mo_take_26 x1 x2 Q n (x3 + (-1 : Int32)) mo) ∧
      ((Mo_marked mo (Mo_open mo (x3 + (-1 : Int32)).toNatClampNeg).toNatClampNeg) = 0 → (vp_in (Mo_open mo (x3 + (-1 : Int32)).toNatClampNeg) 520 ∧ ∀ mo58 : Mo, mo58 = Mo_marked_s mo (upd (Mo_marked mo) (Mo_open mo (x3 + (-1 : Int32)).toNatClampNeg).toNatClampNeg (vp_nar .boolean (1 : Int32))) → (∀ mo66 : Mo, mo66 = Mo_different_s mo58 ((Mo_different mo58) + (1 : Int32)) → (vp_in (Mo_open mo (x3 + (-1 : Int32)).toNatClampNeg) 520 ∧ (((Mo_one mo66 (Mo_open mo (x3 + (-1 : Int32)).toNatClampNeg).toNatClampNeg) < 0 → p_Mo_take_95 x1 x2 Q (fun a0 a1 => p_Mo_take_26 x1 x2 Q n a0 a1) (x3 + (-1 : Int32)) (Mo_open mo (x3 + (-1 : Int32)).toNatClampNeg) mo66) ∧
        (¬ (Mo_one mo66 (Mo_open mo (x3 + (-1 : Int32)).toNatClampNeg).toNatClampNeg) < 0 → (vp_in (Mo_open mo (x3 + (-1 : Int32)).toNatClampNeg) 520 ∧ (vp_in (x3 + (-1 : Int32)) 1100 ∧ ∀ mo91 : Mo, mo91 = Mo_open_s mo66 (upd (Mo_open mo66) (x3 + (-1 : Int32)).toNatClampNeg (Mo_one mo66 (Mo_open mo (x3 + (-1 : Int32)).toNatClampNeg).toNatClampNeg)) → p_Mo_take_95 x1 x2 Q (fun a0 a1 => p_Mo_take_26 x1 x2 Q n a0 a1) ((x3 + (-1 : Int32)) + (1 : Int32)) (Mo_open mo (x3 + (-1 : Int32)).toNatClampNeg) mo91)))))))))))))
def p_Mo_take (x1 : Int32) (x2 : Int32) (mo : Mo) (Q : Mo → Prop) : Prop :=
  (vp_in x1 520 ∧ ∀ mo6 : Mo, mo6 = Mo_came_s mo (upd (Mo_came mo) x1.toNatClampNeg (vp_nar .boolean (1 : Int32))) → (vp_in x1 520 ∧ ∀ mo13 : Mo, mo13 = Mo_level_s mo6 (upd (Mo_level mo6) x1.toNatClampNeg x2) → (vp_in (0 : Int32) 1100 ∧ ∀ mo22 : Mo, mo22 = Mo_open_s mo13 (upd (Mo_open mo13) (0 : Int32).toNatClampNeg x1) → (∃ f, p_Mo_take_26 x1 x2 Q f ((0 : Int32) + (1 : Int32)) mo22))))

abbrev rm_Mo_result : Room := { frames := 3, cells := 0, slots := 0, locals := 69 }
def p_Mo_result_90 (x1 : Int32) (x2 : Int32) (Q : Int32 → Mo → Prop) (k20 : Int32 → Int32 → Mo → Prop) (x4 : Int32) (y0 : Int32) (y1 : Int32) (y2 : Int32) (mo : Mo) : Prop :=
  p_Mo_store y2 y1 y0 mo (fun r90 mo90 => k20 r90 (x4 + (-1 : Int32)) mo90)
def p_Mo_result_68 (x1 : Int32) (x2 : Int32) (Q : Int32 → Mo → Prop) (k20 : Int32 → Int32 → Mo → Prop) (x3 : Int32) (x4 : Int32) (x5 : Int32) (y0 : Int32) (y1 : Int32) (mo : Mo) : Prop :=
  (vp_in x4 520 ∧ ((¬ (Mo_side mo x4.toNatClampNeg) = (2 : Int32) → (vp_in x5 520 ∧ p_Mo_result_90 x1 x2 Q k20 x4 (Mo_two mo x5.toNatClampNeg) y0 y1 mo)) ∧
    ((Mo_side mo x4.toNatClampNeg) = (2 : Int32) → p_Mo_result_90 x1 x2 Q k20 x4 x3 y0 y1 mo)))
def p_Mo_result_20 (x1 : Int32) (x2 : Int32) (Q : Int32 → Mo → Prop) : Nat → Int32 → Int32 → Mo → Prop
  | 0, _, _, _ => False
  | n + 1, x3, x4, mo => ((x4 < 0 → Q x3 mo) ∧
    (¬ x4 < 0 → ((x3 < 0 → Q x3 mo) ∧
      (¬ x3 < 0 → (vp_in x4 520 ∧ (vp_in (Mo_path mo x4.toNatClampNeg) 520 ∧ (vp_in x4 520 ∧ ((¬ (Mo_side mo x4.toNatClampNeg) = (1 : Int32) → (vp_in (Mo_path mo x4.toNatClampNeg) 520 ∧ p_Mo_result_68 x1 x2 Q (fun a0 a1 a2 => p_Mo_result_20 x1 x2 Q n a0 a1 a2) x3 x4 (Mo_path mo x4.toNatClampNeg) (Mo_one mo (Mo_path mo x4.toNatClampNeg).toNatClampNeg) (Mo_symbol mo (Mo_path mo x4.toNatClampNeg).toNatClampNeg) mo)) ∧
        ((Mo_side mo x4.toNatClampNeg) = (1 : Int32) → p_Mo_result_68 x1 x2 Q (fun a0 a1 a2 => p_Mo_result_20 x1 x2 Q n a0 a1 a2) x3 x4 (Mo_path mo x4.toNatClampNeg) x3 (Mo_symbol mo (Mo_path mo x4.toNatClampNeg).toNatClampNeg) mo)))))))))
def p_Mo_result (x1 : Int32) (x2 : Int32) (mo : Mo) (Q : Int32 → Mo → Prop) : Prop :=
  p_Mo_down x1 x2 mo (fun r7 mo7 => (vp_in r7 8 ∧ p_Mo_depth mo7 (fun r13 => (∃ f, p_Mo_result_20 x1 x2 Q f (Mo_right mo7 r7.toNatClampNeg) (r13 - (1 : Int32)) mo7))))

abbrev rm_Mo_further : Room := { frames := 4, cells := 0, slots := 0, locals := 94 }
def p_Mo_further_102 (x1 : Int32) (Q : Int32 → Mo → Prop) (k2 : Int32 → Mo → Prop) (k52 : Int32 → Int32 → Int32 → Mo → Prop) (x2 : Int32) (x3 : Int32) (x4 : Int32) (mo : Mo) : Prop :=
  (((Mo_different mo) ≤ (400 : Int32) → k52 x2 x3 (x4 + (1 : Int32)) mo) ∧
    (¬ (Mo_different mo) ≤ (400 : Int32) → Q (0 : Int32) mo))
def p_Mo_further_52 (x1 : Int32) (Q : Int32 → Mo → Prop) (k2 : Int32 → Mo → Prop) : Nat → Int32 → Int32 → Int32 → Mo → Prop
  | 0, _, _, _, _ => False
  | n + 1, x2, x3, x4, mo => ((x3 = 0 → k2 (x2 + (1 : Int32)) mo) ∧
    (¬ x3 = 0 → (vp_in x2 520 ∧ (((Mo_many mo x2.toNatClampNeg) ≤ x4 → k2 (x2 + (1 : Int32)) mo) ∧
      (¬ (Mo_many mo x2.toNatClampNeg) ≤ x4 → p_Mo_result x2 x4 mo (fun r71 mo71 => ((0 ≤ r71 → (vp_in r71 520 ∧ ((¬ (Mo_came mo71 r71.toNatClampNeg) = 0 → p_Mo_further_102 x1 Q k2 (fun a0 a1 a2 a3 => p_Mo_further_52 x1 Q k2 n a0 a1 a2 a3) x2 x3 x4 mo71) ∧
          ((Mo_came mo71 r71.toNatClampNeg) = 0 → p_Mo_take r71 (x1 + (1 : Int32)) mo71 (fun mo99 => p_Mo_further_102 x1 Q k2 (fun a0 a1 a2 a3 => p_Mo_further_52 x1 Q k2 n a0 a1 a2 a3) x2 x3 x4 mo99))))) ∧
        (¬ 0 ≤ r71 → Q (0 : Int32) mo71))))))))
def p_Mo_further_24 (x1 : Int32) (Q : Int32 → Mo → Prop) (k2 : Int32 → Mo → Prop) (x2 : Int32) (mo : Mo) : Prop :=
  (vp_in x2 520 ∧ (((Mo_came mo x2.toNatClampNeg) = 0 → (∃ f, p_Mo_further_52 x1 Q k2 f x2 (0 : Int32) (0 : Int32) mo)) ∧
    (¬ (Mo_came mo x2.toNatClampNeg) = 0 → (vp_in x2 520 ∧ ((¬ (Mo_level mo x2.toNatClampNeg) = x1 → (∃ f, p_Mo_further_52 x1 Q k2 f x2 (0 : Int32) (0 : Int32) mo)) ∧
      ((Mo_level mo x2.toNatClampNeg) = x1 → (∃ f, p_Mo_further_52 x1 Q k2 f x2 (1 : Int32) (0 : Int32) mo)))))))
def p_Mo_further_2 (x1 : Int32) (Q : Int32 → Mo → Prop) : Nat → Int32 → Mo → Prop
  | 0, _, _ => False
  | n + 1, x2, mo => (((Mo_stored mo) ≤ x2 → Q (1 : Int32) mo) ∧
    (¬ (Mo_stored mo) ≤ x2 → ((x2 < (Mo_count mo) → p_Mo_further_24 x1 Q (fun a0 a1 => p_Mo_further_2 x1 Q n a0 a1) x2 mo) ∧
      (¬ x2 < (Mo_count mo) → ((x2 < (48 : Int32) → (∃ f, p_Mo_further_52 x1 Q (fun a0 a1 => p_Mo_further_2 x1 Q n a0 a1) f x2 (0 : Int32) (0 : Int32) mo)) ∧
        (¬ x2 < (48 : Int32) → p_Mo_further_24 x1 Q (fun a0 a1 => p_Mo_further_2 x1 Q n a0 a1) x2 mo))))))
def p_Mo_further (x1 : Int32) (mo : Mo) (Q : Int32 → Mo → Prop) : Prop :=
  (∃ f, p_Mo_further_2 x1 Q f (0 : Int32) mo)

abbrev rm_Mo_distance : Room := { frames := 5, cells := 0, slots := 0, locals := 119 }
def p_Mo_distance_91 (x1 : Int32) (x2 : Int32) (Q : Int32 → Mo → Prop) : Nat → Int32 → Mo → Prop
  | 0, _, _ => False
  | n + 1, x4, mo => (vp_in x2 520 ∧ ((¬ (Mo_came mo x2.toNatClampNeg) = 0 → (vp_in x2 520 ∧ Q (Mo_level mo x2.toNatClampNeg) mo)) ∧
    ((Mo_came mo x2.toNatClampNeg) = 0 → p_Mo_further x4 mo (fun r103 mo103 => ((¬ r103 = 0 → p_Mo_distance_91 x1 x2 Q n (x4 + (1 : Int32)) mo103) ∧
      (r103 = 0 → Q (-2 : Int32) mo103))))))
def p_Mo_distance_52 (x1 : Int32) (x2 : Int32) (Q : Int32 → Mo → Prop) : Nat → Int32 → Mo → Prop
  | 0, _, _ => False
  | n + 1, x4, mo => (((520 : Int32) ≤ x4 → p_Mo_take x1 (0 : Int32) mo (fun mo85 => (∃ f, p_Mo_distance_91 x1 x2 Q f (0 : Int32) mo85))) ∧
    (¬ (520 : Int32) ≤ x4 → (vp_in x4 520 ∧ ∀ mo67 : Mo, mo67 = Mo_came_s mo (upd (Mo_came mo) x4.toNatClampNeg (vp_nar .boolean (0 : Int32))) → (vp_in x4 520 ∧ ∀ mo75 : Mo, mo75 = Mo_marked_s mo67 (upd (Mo_marked mo67) x4.toNatClampNeg (vp_nar .boolean (0 : Int32))) → p_Mo_distance_52 x1 x2 Q n (x4 + (1 : Int32)) mo75))))
def p_Mo_distance (x1 : Int32) (x2 : Int32) (mo : Mo) (Q : Int32 → Mo → Prop) : Prop :=
  p_Mo_ask x1 x2 mo (fun r3 mo3 => ((¬ r3 = 0 → (vp_in (((48 : Int32) * x1) + x2) 2304 ∧ ((¬ (Mo_goes mo3 (((48 : Int32) * x1) + x2).toNatClampNeg) = 0 → p_Mo_steps ((Mo_count mo3) - (1 : Int32)) mo3 (fun r34 mo34 => (∀ mo41 : Mo, mo41 = Mo_stored_s mo34 (48 : Int32) → (∀ mo46 : Mo, mo46 = Mo_different_s mo41 (0 : Int32) → (∃ f, p_Mo_distance_52 x1 x2 Q f (0 : Int32) mo46))))) ∧
      ((Mo_goes mo3 (((48 : Int32) * x1) + x2).toNatClampNeg) = 0 → Q (-1 : Int32) mo3)))) ∧
    (r3 = 0 → Q (0 : Int32) mo3)))

abbrev rm_Mo_look : Room := { frames := 0, cells := 0, slots := 0, locals := 0 }
def p_Mo_look (x1 : Int32) (mo : Mo) (Q : Int32 → Mo → Prop) : Prop :=
  (∀ mo2 : Mo, mo2 = Mo_thrown_s mo (0 : Int32) → ((¬ x1 = 0 → ((¬ x1 = (1 : Int32) → ((¬ x1 = (2 : Int32) → ((¬ x1 = (3 : Int32) → ((x1 ≤ (3 : Int32) → Q (-1 : Int32) mo2) ∧
            (¬ x1 ≤ (3 : Int32) → (((10 : Int32) ≤ x1 → Q (-1 : Int32) mo2) ∧
              (¬ (10 : Int32) ≤ x1 → (vp_in (x1 - (4 : Int32)) 6 ∧ Q (Mo_places mo2 (x1 - (4 : Int32)).toNatClampNeg) mo2)))))) ∧
          (x1 = (3 : Int32) → Q (Mo_finals mo2) mo2))) ∧
        (x1 = (2 : Int32) → Q (Mo_edges mo2) mo2))) ∧
      (x1 = (1 : Int32) → Q (Mo_rules mo2) mo2))) ∧
    (x1 = 0 → Q (Mo_count mo2) mo2)))
