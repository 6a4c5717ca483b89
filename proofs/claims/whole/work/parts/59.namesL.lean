abbrev b_Lw_cell : ByteArray := method_2_code
def y_Lw_cell : MethodName := ⟨R_Lw, "cell", "([II)I"⟩
theorem k_Lw_cell : kS y_Lw_cell b_Lw_cell 2 (some .int) 2 := ⟨gmem (List.mem_append_right _ (List.mem_of_getElem? (i := 338) (by decide +kernel))) (by decide +kernel), in_Lw, gmem (List.mem_append_right _ (List.mem_of_getElem? (i := 339) (by decide +kernel))) (by decide +kernel), by decide, by decide, by decide +kernel⟩
theorem d_Lw_cell_0 : decode b_Lw_cell 0 = .ok (.iload_n 1, 1) := by decide +kernel
theorem d_Lw_cell_1 : decode b_Lw_cell 1 = .ok (.aload_n 0, 1) := by decide +kernel
theorem d_Lw_cell_2 : decode b_Lw_cell 2 = .ok (.arraylength, 1) := by decide +kernel
theorem d_Lw_cell_3 : decode b_Lw_cell 3 = .ok (.if_icmp .ge 9, 3) := by decide +kernel
theorem d_Lw_cell_6 : decode b_Lw_cell 6 = .ok (.aload_n 0, 1) := by decide +kernel
theorem d_Lw_cell_7 : decode b_Lw_cell 7 = .ok (.iload_n 1, 1) := by decide +kernel
theorem d_Lw_cell_8 : decode b_Lw_cell 8 = .ok (.iaload, 1) := by decide +kernel
theorem d_Lw_cell_9 : decode b_Lw_cell 9 = .ok (.goto 4, 3) := by decide +kernel
theorem d_Lw_cell_12 : decode b_Lw_cell 12 = .ok (.iconst 0, 1) := by decide +kernel
theorem d_Lw_cell_13 : decode b_Lw_cell 13 = .ok (.ireturn, 1) := by decide +kernel
theorem cn_Lw_8 : Cond.classLink R_Lw 8 R_Gr ∈ gtbl := gmem (List.mem_append_right _ (List.mem_of_getElem? (i := 18) (by decide +kernel))) (by decide +kernel)
theorem ml_Lw_57 : Cond.methodLink R_Lw 57 y_Lw_cell ∈ gtbl := gmem (List.mem_append_right _ (List.mem_of_getElem? (i := 337) (by decide +kernel))) (by decide +kernel)
theorem ml_Lw_63 : Cond.methodLink R_Lw 63 y_Gr_init ∈ gtbl := gmem (List.mem_append_right _ (List.mem_of_getElem? (i := 20) (by decide +kernel))) (by decide +kernel)
theorem cn_Lw_66 : Cond.classLink R_Lw 66 R_Mo ∈ gtbl := gmem (List.mem_append_right _ (List.mem_of_getElem? (i := 763) (by decide +kernel))) (by decide +kernel)
theorem ml_Lw_68 : Cond.methodLink R_Lw 68 y_Mo_init ∈ gtbl := gmem (List.mem_append_right _ (List.mem_of_getElem? (i := 765) (by decide +kernel))) (by decide +kernel)
theorem ml_Lw_69 : Cond.methodLink R_Lw 69 y_Lw_term ∈ gtbl := gmem (List.mem_append_right _ (List.mem_of_getElem? (i := 340) (by decide +kernel))) (by decide +kernel)
theorem ml_Lw_72 : Cond.methodLink R_Lw 72 y_Mo_term ∈ gtbl := gmem (List.mem_append_right _ (List.mem_of_getElem? (i := 852) (by decide +kernel))) (by decide +kernel)
theorem ml_Lw_73 : Cond.methodLink R_Lw 73 y_Mo_thrown ∈ gtbl := gmem (List.mem_append_right _ (List.mem_of_getElem? (i := 848) (by decide +kernel))) (by decide +kernel)
theorem ml_Lw_77 : Cond.methodLink R_Lw 77 y_Gr_of ∈ gtbl := gmem (List.mem_append_right _ (List.mem_of_getElem? (i := 247) (by decide +kernel))) (by decide +kernel)
theorem ml_Lw_80 : Cond.methodLink R_Lw 80 y_Mo_of ∈ gtbl := gmem (List.mem_append_right _ (List.mem_of_getElem? (i := 868) (by decide +kernel))) (by decide +kernel)
theorem ml_Lw_81 : Cond.methodLink R_Lw 81 y_Lw_rule ∈ gtbl := gmem (List.mem_append_right _ (List.mem_of_getElem? (i := 456) (by decide +kernel))) (by decide +kernel)
theorem ml_Lw_84 : Cond.methodLink R_Lw 84 y_Mo_rule ∈ gtbl := gmem (List.mem_append_right _ (List.mem_of_getElem? (i := 889) (by decide +kernel))) (by decide +kernel)
theorem ml_Lw_85 : Cond.methodLink R_Lw 85 y_Gr_cut ∈ gtbl := gmem (List.mem_append_right _ (List.mem_of_getElem? (i := 297) (by decide +kernel))) (by decide +kernel)
theorem ml_Lw_89 : Cond.methodLink R_Lw 89 y_Mo_cut ∈ gtbl := gmem (List.mem_append_right _ (List.mem_of_getElem? (i := 893) (by decide +kernel))) (by decide +kernel)
theorem ml_Lw_90 : Cond.methodLink R_Lw 90 y_Lw_edge ∈ gtbl := gmem (List.mem_append_right _ (List.mem_of_getElem? (i := 467) (by decide +kernel))) (by decide +kernel)
theorem ml_Lw_93 : Cond.methodLink R_Lw 93 y_Mo_edge ∈ gtbl := gmem (List.mem_append_right _ (List.mem_of_getElem? (i := 897) (by decide +kernel))) (by decide +kernel)
theorem ml_Lw_94 : Cond.methodLink R_Lw 94 y_Gr_mark ∈ gtbl := gmem (List.mem_append_right _ (List.mem_of_getElem? (i := 305) (by decide +kernel))) (by decide +kernel)
theorem ml_Lw_98 : Cond.methodLink R_Lw 98 y_Mo_mark ∈ gtbl := gmem (List.mem_append_right _ (List.mem_of_getElem? (i := 904) (by decide +kernel))) (by decide +kernel)
theorem ml_Lw_99 : Cond.methodLink R_Lw 99 y_Lw_reaches ∈ gtbl := gmem (List.mem_append_right _ (List.mem_of_getElem? (i := 489) (by decide +kernel))) (by decide +kernel)
theorem ml_Lw_101 : Cond.methodLink R_Lw 101 y_Mo_reaches ∈ gtbl := gmem (List.mem_append_right _ (List.mem_of_getElem? (i := 908) (by decide +kernel))) (by decide +kernel)
theorem ml_Lw_102 : Cond.methodLink R_Lw 102 y_Lw_meet ∈ gtbl := gmem (List.mem_append_right _ (List.mem_of_getElem? (i := 541) (by decide +kernel))) (by decide +kernel)
theorem ml_Lw_104 : Cond.methodLink R_Lw 104 y_Mo_meet ∈ gtbl := gmem (List.mem_append_right _ (List.mem_of_getElem? (i := 928) (by decide +kernel))) (by decide +kernel)
theorem ml_Lw_105 : Cond.methodLink R_Lw 105 y_Lw_has ∈ gtbl := gmem (List.mem_append_right _ (List.mem_of_getElem? (i := 560) (by decide +kernel))) (by decide +kernel)
theorem ml_Lw_108 : Cond.methodLink R_Lw 108 y_Mo_has ∈ gtbl := gmem (List.mem_append_right _ (List.mem_of_getElem? (i := 932) (by decide +kernel))) (by decide +kernel)
theorem ml_Lw_109 : Cond.methodLink R_Lw 109 y_Lw_from ∈ gtbl := gmem (List.mem_append_right _ (List.mem_of_getElem? (i := 593) (by decide +kernel))) (by decide +kernel)
theorem ml_Lw_111 : Cond.methodLink R_Lw 111 y_Mo_from ∈ gtbl := gmem (List.mem_append_right _ (List.mem_of_getElem? (i := 952) (by decide +kernel))) (by decide +kernel)
theorem ml_Lw_112 : Cond.methodLink R_Lw 112 y_Lw_into ∈ gtbl := gmem (List.mem_append_right _ (List.mem_of_getElem? (i := 613) (by decide +kernel))) (by decide +kernel)
theorem ml_Lw_114 : Cond.methodLink R_Lw 114 y_Mo_into ∈ gtbl := gmem (List.mem_append_right _ (List.mem_of_getElem? (i := 956) (by decide +kernel))) (by decide +kernel)
theorem ml_Lw_115 : Cond.methodLink R_Lw 115 y_Lw_least ∈ gtbl := gmem (List.mem_append_right _ (List.mem_of_getElem? (i := 624) (by decide +kernel))) (by decide +kernel)
theorem ml_Lw_117 : Cond.methodLink R_Lw 117 y_Mo_least ∈ gtbl := gmem (List.mem_append_right _ (List.mem_of_getElem? (i := 960) (by decide +kernel))) (by decide +kernel)
theorem ml_Lw_118 : Cond.methodLink R_Lw 118 y_Lw_lightest ∈ gtbl := gmem (List.mem_append_right _ (List.mem_of_getElem? (i := 646) (by decide +kernel))) (by decide +kernel)
theorem ml_Lw_120 : Cond.methodLink R_Lw 120 y_Mo_lightest ∈ gtbl := gmem (List.mem_append_right _ (List.mem_of_getElem? (i := 964) (by decide +kernel))) (by decide +kernel)
theorem ml_Lw_121 : Cond.methodLink R_Lw 121 y_Lw_step ∈ gtbl := gmem (List.mem_append_right _ (List.mem_of_getElem? (i := 662) (by decide +kernel))) (by decide +kernel)
theorem ml_Lw_123 : Cond.methodLink R_Lw 123 y_Mo_step ∈ gtbl := gmem (List.mem_append_right _ (List.mem_of_getElem? (i := 968) (by decide +kernel))) (by decide +kernel)
theorem ml_Lw_124 : Cond.methodLink R_Lw 124 y_Lw_distance ∈ gtbl := gmem (List.mem_append_right _ (List.mem_of_getElem? (i := 703) (by decide +kernel))) (by decide +kernel)
theorem ml_Lw_126 : Cond.methodLink R_Lw 126 y_Mo_distance ∈ gtbl := gmem (List.mem_append_right _ (List.mem_of_getElem? (i := 980) (by decide +kernel))) (by decide +kernel)
theorem ml_Lw_127 : Cond.methodLink R_Lw 127 y_Gr_look ∈ gtbl := gmem (List.mem_append_right _ (List.mem_of_getElem? (i := 316) (by decide +kernel))) (by decide +kernel)
theorem ml_Lw_130 : Cond.methodLink R_Lw 130 y_Mo_look ∈ gtbl := gmem (List.mem_append_right _ (List.mem_of_getElem? (i := 1004) (by decide +kernel))) (by decide +kernel)
abbrev rm_Lw_cell : Room := { frames := 0, cells := 0, slots := 0, locals := 0 }
theorem c_Lw_cell (l : Launch) (b L : Nat) (xs : Nat → Int32) (hL : L ≤ 2561) : Met l y_Lw_cell (wsOf y_Lw_cell b_Lw_cell 2 (some .int)) rm_Lw_cell (scPre b L xs) (vp_Si (fun r => r = cell0 L xs)) 0 0 (fun _ => False) := by
  refine Met.ofW (cc := b_Lw_cell) (maxL := 2) (ret := some .int) (by decide) rfl ?_
  intro p e s m args below meth c s₁ B hml hv
  obtain ⟨rfl, hX⟩ := hv
  have hl := lv_entry [.ref b, .int 0] (n := 2) (Nat.le_of_ble_eq_true rfl)
  rw [lg_entry_eq]
  generalize (lg_sl [.ref b, .int 0] ++ List.replicate (2 - (lg_sl [.ref b, .int 0]).length) Slot.unset).toArray = ls at hl ⊢
  have hl : lv_has ls 2 [(0, .ref b), (1, .int 0)] := hl
  have hx := B.exec
  have hb := B.bytes
  have hlk := B.notSynchronized
  have hr := B.returns
  have hbl : b < s.heap.size := by
    obtain ⟨scr, h1, -⟩ := hX
    exact (Array.getElem?_eq_some_iff.mp h1).1
  refine lv_iload_n hx hb d_Lw_cell_0 rfl (lv_at hl 1 rfl) ?_
  refine lv_aload_n hx hb d_Lw_cell_1 rfl (lv_at hl 0 rfl) ?_
  refine va_slen (A := fun _ => False) hx hb hX hbl (fun h => h) va_S.rf d_Lw_cell_2 ?_
  refine lv_icmp_ge (tgt := 12) hx hb d_Lw_cell_3 (by decide) (fun hc => ?_) (fun hc => ?_)
  · refine lv_iconst (v := (0 : Int32)) hx hb d_Lw_cell_12 rfl ?_
    exact W.iret hx hb hr (fun t ht hW => ⟨0, rfl, (show (0 : Int32) = cell0 L xs from (if_pos hc).symm), ht⟩) (fun _ h => by cases h) d_Lw_cell_13 hlk
  · refine lv_aload_n hx hb d_Lw_cell_6 rfl (lv_at hl 0 rfl) ?_
    refine lv_iload_n hx hb d_Lw_cell_7 rfl (lv_at hl 1 rfl) ?_
    have hL0 : 0 < L := by
      rcases Nat.eq_zero_or_pos L with h | h
      · subst h; exact (hc (by decide)).elim
      · exact h
    refine va_sld (A := fun _ => False) hx hb hX hbl (fun h => h) va_S.rf (vp_in_nI (n := 0) hL0 (by omega)) d_Lw_cell_8 ?_
    refine lv_goto (tgt := 13) hx hb d_Lw_cell_9 (by decide) ?_
    exact W.iret hx hb hr (fun t ht hW => ⟨xs 0, rfl, (show xs 0 = cell0 L xs from (if_neg hc).symm), ht⟩) (fun _ h => by cases h) d_Lw_cell_13 hlk
