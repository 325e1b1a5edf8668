abbrev rmX10_isStraight : Room := { frames := 1, cells := 0, slots := 0, locals := 26 }
theorem hd_X10_isStraight : (yX10_isStraight.cls = RX10 ∧ yX10_isStraight.cls ≠ "java/lang/invoke/MethodHandle" ∧ yX10_isStraight.cls ≠ "java/lang/invoke/VarHandle" ∧ (parseMethodDescriptor yX10_isStraight.desc).map (fun d => d.parameters.length) = some 2) := by decide +kernel
set_option maxRecDepth 100000 in
set_option maxHeartbeats 4000000 in
theorem c_X10_isStraight (l : Launch) (D : va_G) (aa : Nat → Nat) (cI cZ cJ : ClassId) (tR tU : Nat) (a1 : Int) (a2 : Int) (σ : xSt) (Post : Int → xSt → Prop) (h : wp_X10_isStraight a1 a2 σ Post) : MI l D (tyL cI cZ cJ) (cM aa cI cZ cJ) tR tU yX10_isStraight wsX10_isStraight rmX10_isStraight [.ref (aa 0), .int (xI a1), .int (xI a2)] σ Post := by
  refine mi_of (cc := cX10_isStraight) (maxL := 3) (ret := (some .boolean)) (by decide) rfl (Nat.le_of_ble_eq_true rfl) ?_
  intro p e s m args below meth c A hF
  obtain ⟨hx, hb, hr, hml, hown, hts, hlk, hK, hZ, hA⟩ := hF
  have hown : s.vm.findClass RX10 = some m.cls := hown
  delta wp_X10_isStraight at h
  refine gg_lv (lv' := [(0, .ref (aa 0)), (1, .int (xI a1)), (2, .int (xI a2))]) [0, 1, 2] rfl ?_
  refine gg_aload_n hx hb 0 rfl rfl dX10_isStraight_0 ?_
  refine gg_iload_n hx hb 1 rfl rfl dX10_isStraight_1 ?_
  refine gg_iload_n hx hb 2 rfl rfl dX10_isStraight_2 ?_
  refine gg_callVip (As := [.int (xI a1), .int (xI a2)]) (rest := []) hx hb hml hown hts hK hZ hA (c_X10_isSo l D aa cI cZ cJ tR tU a1 a2 σ _ h) (cwV 2 hts gX10_isStraight_X10_isSo rfl rfl rfl hd_X10_isSo ⟨Nat.le_of_ble_eq_true rfl, Nat.le_of_ble_eq_true rfl⟩) 0 rfl rfl rfl rfl (Nat.le_of_ble_eq_true rfl) dX10_isStraight_3 (fun r3 h => ?_)
  refine gg_if_eq (tgt := 22) hx hb h.1 dX10_isStraight_6 rfl (fun c6 => ?_) (fun c6 => ?_)
  · have h := h.2.1 c6
    refine gg_iconst hx hb dX10_isStraight_22 ?_
    exact gg_zret hx hb hr hlk (Or.inl rfl) h dX10_isStraight_23
  · have h := h.2.2 c6
    refine gg_aload_n hx hb 0 rfl rfl dX10_isStraight_9 ?_
    refine gg_iload_n hx hb 1 rfl rfl dX10_isStraight_10 ?_
    refine gg_iload_n hx hb 2 rfl rfl dX10_isStraight_11 ?_
    refine gg_callVi (As := [.int (xI a1), .int (xI a2)]) (rest := []) hx hb hml hown hts hK hZ hA (c_X10_spans l D aa cI cZ cJ tR tU a1 a2 σ _ h) (cwV 2 hts gX10_isStraight_X10_spans rfl rfl rfl hd_X10_spans ⟨Nat.le_of_ble_eq_true rfl, Nat.le_of_ble_eq_true rfl⟩) 0 rfl rfl rfl rfl (Nat.le_of_ble_eq_true rfl) dX10_isStraight_12 (fun r12 t12 h => ?_)
    refine gg_if_eq (tgt := 22) hx hb h.1 dX10_isStraight_15 rfl (fun c15 => ?_) (fun c15 => ?_)
    · have h := h.2.1 c15
      refine gg_iconst hx hb dX10_isStraight_22 ?_
      exact gg_zret hx hb hr hlk (Or.inl rfl) h dX10_isStraight_23
    · have h := h.2.2 c15
      refine gg_iconst hx hb dX10_isStraight_18 ?_
      refine gg_goto (tgt := 23) hx hb dX10_isStraight_19 rfl ?_
      exact gg_zret hx hb hr hlk (Or.inr rfl) h dX10_isStraight_23
abbrev rmX10_noPiece : Room := { frames := 2, cells := 0, slots := 0, locals := 46 }
theorem hd_X10_noPiece : (yX10_noPiece.cls = RX10 ∧ yX10_noPiece.cls ≠ "java/lang/invoke/MethodHandle" ∧ yX10_noPiece.cls ≠ "java/lang/invoke/VarHandle" ∧ (parseMethodDescriptor yX10_noPiece.desc).map (fun d => d.parameters.length) = some 2) := by decide +kernel
set_option maxRecDepth 100000 in
set_option maxHeartbeats 4000000 in
theorem c_X10_noPiece (l : Launch) (D : va_G) (aa : Nat → Nat) (cI cZ cJ : ClassId) (tR tU : Nat) (a1 : Int) (a2 : Int) (σ : xSt) (Post : Int → Prop) (h : wp_X10_noPiece a1 a2 σ Post) : MI l D (tyL cI cZ cJ) (cM aa cI cZ cJ) tR tU yX10_noPiece wsX10_noPiece rmX10_noPiece [.ref (aa 0), .int (xI a1), .int (xI a2)] σ (fun r9 σ9 => σ9 = σ ∧ Post r9) := by
  refine mi_of (cc := cX10_noPiece) (maxL := 3) (ret := (some .int)) (by decide) rfl (Nat.le_of_ble_eq_true rfl) ?_
  intro p e s m args below meth c A hF
  obtain ⟨hx, hb, hr, hml, hown, hts, hlk, hK, hZ, hA⟩ := hF
  have hown : s.vm.findClass RX10 = some m.cls := hown
  delta wp_X10_noPiece at h
  refine gg_lv (lv' := [(0, .ref (aa 0)), (1, .int (xI a1)), (2, .int (xI a2))]) [0, 1, 2] rfl ?_
  refine gg_aload_n hx hb 0 rfl rfl dX10_noPiece_0 ?_
  refine gg_iload_n hx hb 1 rfl rfl dX10_noPiece_1 ?_
  refine gg_callVip (As := [.int (xI a1)]) (rest := []) hx hb hml hown hts hK hZ hA (c_X10_noPlace l D aa cI cZ cJ tR tU a1 σ _ h) (cwV 1 hts gX10_noPiece_X10_noPlace rfl rfl rfl hd_X10_noPlace ⟨Nat.le_of_ble_eq_true rfl, Nat.le_of_ble_eq_true rfl⟩) 0 rfl rfl rfl rfl (Nat.le_of_ble_eq_true rfl) dX10_noPiece_2 (fun r2 h => ?_)
  refine gg_if_ne (tgt := 16) hx hb h.1 dX10_noPiece_5 rfl (fun c5 => ?_) (fun c5 => ?_)
  · have h := h.2.1 c5
    refine gg_sipush hx hb dX10_noPiece_16 rfl ?_
    refine gg_goto (tgt := 34) hx hb dX10_noPiece_19 rfl ?_
    exact gg_iret hx hb hr hlk ⟨rfl, h⟩ dX10_noPiece_34
  · have h := h.2.2 c5
    refine gg_aload_n hx hb 0 rfl rfl dX10_noPiece_8 ?_
    refine gg_iload_n hx hb 2 rfl rfl dX10_noPiece_9 ?_
    refine gg_callVip (As := [.int (xI a2)]) (rest := []) hx hb hml hown hts hK hZ hA (c_X10_noPlace l D aa cI cZ cJ tR tU a2 σ _ h) (cwV 1 hts gX10_noPiece_X10_noPlace rfl rfl rfl hd_X10_noPlace ⟨Nat.le_of_ble_eq_true rfl, Nat.le_of_ble_eq_true rfl⟩) 0 rfl rfl rfl rfl (Nat.le_of_ble_eq_true rfl) dX10_noPiece_10 (fun r10 h => ?_)
    refine gg_if_eq (tgt := 22) hx hb h.1 dX10_noPiece_13 rfl (fun c13 => ?_) (fun c13 => ?_)
    · have h := h.2.1 c13
      refine gg_iload_n hx hb 2 rfl rfl dX10_noPiece_22 ?_
      refine gg_iload_n hx hb 1 rfl rfl dX10_noPiece_23 ?_
      refine gg_icmp_ge (tgt := 33) hx hb h.1 h.2.1 dX10_noPiece_24 rfl (fun c24 => ?_) (fun c24 => ?_)
      · have h := h.2.2.1 c24
        refine gg_iconst hx hb dX10_noPiece_33 ?_
        exact gg_iret hx hb hr hlk ⟨rfl, h⟩ dX10_noPiece_34
      · have h := h.2.2.2 c24
        refine gg_sipush hx hb dX10_noPiece_27 rfl ?_
        refine gg_goto (tgt := 34) hx hb dX10_noPiece_30 rfl ?_
        exact gg_iret hx hb hr hlk ⟨rfl, h⟩ dX10_noPiece_34
    · have h := h.2.2 c13
      refine gg_sipush hx hb dX10_noPiece_16 rfl ?_
      refine gg_goto (tgt := 34) hx hb dX10_noPiece_19 rfl ?_
      exact gg_iret hx hb hr hlk ⟨rfl, h⟩ dX10_noPiece_34
abbrev rmX10_straight : Room := { frames := 3, cells := 0, slots := 0, locals := 68 }
theorem iX10_straight_X10 : ∀ w ∈ u_ws RX10 TX10 18, w ∈ wsX10_straight := (fun _ h => List.mem_cons_of_mem _ (List.mem_append_right _ h))
theorem hd_X10_straight : (yX10_straight.cls = RX10 ∧ yX10_straight.cls ≠ "java/lang/invoke/MethodHandle" ∧ yX10_straight.cls ≠ "java/lang/invoke/VarHandle" ∧ (parseMethodDescriptor yX10_straight.desc).map (fun d => d.parameters.length) = some 2) := by decide +kernel
set_option maxRecDepth 100000 in
set_option maxHeartbeats 4000000 in
theorem c_X10_straight (l : Launch) (D : va_G) (aa : Nat → Nat) (cI cZ cJ : ClassId) (tR tU : Nat) (a1 : Int) (a2 : Int) (σ : xSt) (Post : Int → xSt → Prop) (h : wp_X10_straight a1 a2 σ Post) : MI l D (tyL cI cZ cJ) (cM aa cI cZ cJ) tR tU yX10_straight wsX10_straight rmX10_straight [.ref (aa 0), .int (xI a1), .int (xI a2)] σ Post := by
  refine mi_of (cc := cX10_straight) (maxL := 4) (ret := (some .int)) (by decide) rfl (Nat.le_of_ble_eq_true rfl) ?_
  intro p e s m args below meth c A hF
  obtain ⟨hx, hb, hr, hml, hown, hts, hlk, hK, hZ, hA⟩ := hF
  have hown : s.vm.findClass RX10 = some m.cls := hown
  delta wp_X10_straight at h
  refine gg_lv (lv' := [(0, .ref (aa 0)), (1, .int (xI a1)), (2, .int (xI a2))]) [0, 1, 2] rfl ?_
  refine gg_aload_n hx hb 0 rfl rfl dX10_straight_0 ?_
  refine gg_iconst hx hb dX10_straight_1 ?_
  refine gg_put (C := RX10) (T := TX10) (N := 18) hx hb hts hown hK iX10_straight_X10 tyX10 tyX10_ok nmX10 0 rfl rfl 0 (by decide) (List.mem_of_getElem? (i := 1) rfl) rfl rfl (Nat.le_of_ble_eq_true rfl) (cM_set_0_0 aa cI cZ cJ _ _) dX10_straight_2 (fun σ_2 e2 => ?_)
  have h := h σ_2 e2
  refine gg_aload_n hx hb 0 rfl rfl dX10_straight_5 ?_
  refine gg_iload_n hx hb 1 rfl rfl dX10_straight_6 ?_
  refine gg_iload_n hx hb 2 rfl rfl dX10_straight_7 ?_
  refine gg_callVip (As := [.int (xI a1), .int (xI a2)]) (rest := []) hx hb hml hown hts hK hZ hA (c_X10_noPiece l D aa cI cZ cJ tR tU a1 a2 σ_2 _ h) (cwV 2 hts gX10_straight_X10_noPiece rfl rfl rfl hd_X10_noPiece ⟨Nat.le_of_ble_eq_true rfl, Nat.le_of_ble_eq_true rfl⟩) 0 rfl rfl rfl rfl (Nat.le_of_ble_eq_true rfl) dX10_straight_8 (fun r8 h => ?_)
  refine gg_istore_n (lv' := [(3, .int (xI r8)), (0, .ref (aa 0)), (1, .int (xI a1)), (2, .int (xI a2))]) hx hb rfl (by decide) rfl dX10_straight_11 ?_
  refine gg_iload_n hx hb 0 rfl rfl dX10_straight_12 ?_
  refine gg_if_eq (tgt := 20) hx hb h.1 dX10_straight_13 rfl (fun c13 => ?_) (fun c13 => ?_)
  · have h := h.2.1 c13
    refine gg_aload_n hx hb 1 rfl rfl dX10_straight_20 ?_
    refine gg_iload_n hx hb 2 rfl rfl dX10_straight_21 ?_
    refine gg_iload_n hx hb 3 rfl rfl dX10_straight_22 ?_
    refine gg_callVi (As := [.int (xI a1), .int (xI a2)]) (rest := []) hx hb hml hown hts hK hZ hA (c_X10_isStraight l D aa cI cZ cJ tR tU a1 a2 σ_2 _ h) (cwV 2 hts gX10_straight_X10_isStraight rfl rfl rfl hd_X10_isStraight ⟨Nat.le_of_ble_eq_true rfl, Nat.le_of_ble_eq_true rfl⟩) 0 rfl rfl rfl rfl (Nat.le_of_ble_eq_true rfl) dX10_straight_23 (fun r23 t23 h => ?_)
    refine gg_if_eq (tgt := 33) hx hb h.1 dX10_straight_26 rfl (fun c26 => ?_) (fun c26 => ?_)
    · have h := h.2.1 c26
      refine gg_iconst hx hb dX10_straight_33 ?_
      exact gg_iret hx hb hr hlk h dX10_straight_34
    · have h := h.2.2 c26
      refine gg_iconst hx hb dX10_straight_29 ?_
      refine gg_goto (tgt := 34) hx hb dX10_straight_30 rfl ?_
      exact gg_iret hx hb hr hlk h dX10_straight_34
  · have h := h.2.2 c13
    refine gg_iload_n hx hb 0 rfl rfl dX10_straight_16 ?_
    refine gg_goto (tgt := 34) hx hb dX10_straight_17 rfl ?_
    exact gg_iret hx hb hr hlk h dX10_straight_34
abbrev rmX10_told : Room := { frames := 0, cells := 0, slots := 0, locals := 0 }
theorem hd_X10_told : (yX10_told.cls ≠ "java/lang/invoke/MethodHandle" ∧ yX10_told.cls ≠ "java/lang/invoke/VarHandle" ∧ (parseMethodDescriptor yX10_told.desc).map (fun d => d.parameters.length) = some 3) := by decide +kernel
set_option maxRecDepth 100000 in
set_option maxHeartbeats 4000000 in
theorem c_X10_told (l : Launch) (D : va_G) (aa : Nat → Nat) (cI cZ cJ : ClassId) (tR tU : Nat) (a0 : Int) (a2 : Int) (a4 : Int) (σ : xSt) (Post : Int → Prop) (h : wp_X10_told a0 a2 a4 σ Post) : MI l D (tyL cI cZ cJ) (cM aa cI cZ cJ) tR tU yX10_told wsX10_told rmX10_told [.long (xJ a0), .long (xJ a2), .int (xI a4)] σ (fun r9 σ9 => σ9 = σ ∧ Post r9) := by
  refine mi_of (cc := cX10_told) (maxL := 11) (ret := (some .int)) (by decide) rfl (Nat.le_of_ble_eq_true rfl) ?_
  intro p e s m args below meth c A hF
  obtain ⟨hx, hb, hr, hml, hown, hts, hlk, hK, hZ, hA⟩ := hF
  have hown : s.vm.findClass RX10 = some m.cls := hown
  delta wp_X10_told at h
  refine gg_lv (lv' := [(0, .long (xJ a0)), (2, .long (xJ a2)), (4, .int (xI a4))]) [0, 1, 2] rfl ?_
  refine gg_lload_n hx hb 0 rfl rfl dX10_told_0 ?_
  refine gg_lconst (z := 0) hx hb dX10_told_1 rfl ?_
  have h := h (fun (y0_12 : Int) => GG p l e rmX10_told s m args below meth c (QI below D (cM aa cI cZ cJ) A args s (fun r9 σ9 => σ9 = σ ∧ Post r9)) A D (cM aa cI cZ cJ) 11 σ 12 [(0, .long (xJ a0)), (2, .long (xJ a2)), (4, .int (xI a4))] [.long (xJ y0_12)])
  have h := h (by
    intro y0_12 h
    refine gg_lstore (lv' := [(5, .long (xJ y0_12)), (0, .long (xJ a0)), (2, .long (xJ a2)), (4, .int (xI a4))]) hx hb (by decide) rfl dX10_told_12 ?_
    refine gg_lload_n hx hb 2 rfl rfl dX10_told_14 ?_
    refine gg_lstore (lv' := [(7, .long (xJ a2)), (5, .long (xJ y0_12)), (0, .long (xJ a0)), (2, .long (xJ a2)), (4, .int (xI a4))]) hx hb (by decide) rfl dX10_told_15 ?_
    have h := h (fun (x5_17 x7_17 : Int) => GG p l e rmX10_told s m args below meth c (QI below D (cM aa cI cZ cJ) A args s (fun r9 σ9 => σ9 = σ ∧ Post r9)) A D (cM aa cI cZ cJ) 11 σ 17 [(0, .long (xJ a0)), (2, .long (xJ a2)), (4, .int (xI a4)), (5, .long (xJ x5_17)), (7, .long (xJ x7_17))] [])
    have h := h (by
      intro x5_17 x7_17 h
      refine gg_lload hx hb 4 rfl dX10_told_17 ?_
      refine gg_lconst (z := 0) hx hb dX10_told_19 rfl ?_
      refine gg_lcmp_eq (tgt := 42) hx hb h.1 (by decide) dX10_told_20 dX10_told_21 rfl (fun c21 => ?_) (fun c21 => ?_)
      · have h := h.2.1 c21
        refine gg_iload hx hb 2 rfl dX10_told_42 ?_
        refine gg_if_eq (tgt := 54) hx hb h.1 dX10_told_44 rfl (fun c44 => ?_) (fun c44 => ?_)
        · have h := h.2.1 c44
          refine gg_lload_n hx hb 1 rfl rfl dX10_told_54 ?_
          refine gg_lload hx hb 3 rfl dX10_told_55 ?_
          refine gg_ldiv hx hb h.1 h.2.1 h.2.2.1 dX10_told_57 ?_
          have h := h.2.2.2
          refine gg_l2i hx hb dX10_told_58 ?_
          exact gg_iret hx hb hr hlk ⟨rfl, h⟩ dX10_told_59
        · have h := h.2.2 c44
          refine gg_lload_n hx hb 0 rfl rfl dX10_told_47 ?_
          refine gg_lload hx hb 3 rfl dX10_told_48 ?_
          refine gg_ldiv hx hb h.1 h.2.1 h.2.2.1 dX10_told_50 ?_
          have h := h.2.2.2
          refine gg_goto (tgt := 58) hx hb dX10_told_51 rfl ?_
          refine gg_l2i hx hb dX10_told_58 ?_
          exact gg_iret hx hb hr hlk ⟨rfl, h⟩ dX10_told_59
      · have h := h.2.2 c21
        refine gg_lload hx hb 3 rfl dX10_told_24 ?_
        refine gg_lload hx hb 4 rfl dX10_told_26 ?_
        refine gg_lrem hx hb h.1 h.2.1 h.2.2.1 dX10_told_28 ?_
        have h := h.2.2.2
        refine gg_lstore (lv' := [(9, .long (xJ (Int.tmod x5_17 x7_17))), (0, .long (xJ a0)), (2, .long (xJ a2)), (4, .int (xI a4)), (5, .long (xJ x5_17)), (7, .long (xJ x7_17))]) hx hb (by decide) rfl dX10_told_29 ?_
        refine gg_lload hx hb 5 rfl dX10_told_31 ?_
        refine gg_lstore (lv' := [(5, .long (xJ x7_17)), (9, .long (xJ (Int.tmod x5_17 x7_17))), (0, .long (xJ a0)), (2, .long (xJ a2)), (4, .int (xI a4)), (7, .long (xJ x7_17))]) hx hb (by decide) rfl dX10_told_33 ?_
        refine gg_lload hx hb 1 rfl dX10_told_35 ?_
        refine gg_lstore (lv' := [(7, .long (xJ (Int.tmod x5_17 x7_17))), (5, .long (xJ x7_17)), (9, .long (xJ (Int.tmod x5_17 x7_17))), (0, .long (xJ a0)), (2, .long (xJ a2)), (4, .int (xI a4))]) hx hb (by decide) rfl dX10_told_37 ?_
        refine gg_goto (tgt := 17) hx hb dX10_told_39 rfl ?_
        refine gg_lv [3, 4, 5, 1, 0] rfl ?_
        exact h)
    refine gg_lv [2, 3, 4, 1, 0] rfl ?_
    exact h)
  refine gg_lcmp_ge (tgt := 11) hx hb h.1 (by decide) dX10_told_2 dX10_told_3 rfl (fun c3 => ?_) (fun c3 => ?_)
  · have h := h.2.1 c3
    refine gg_lload_n hx hb 0 rfl rfl dX10_told_11 ?_
    exact h
  · have h := h.2.2 c3
    refine gg_lload_n hx hb 0 rfl rfl dX10_told_6 ?_
    refine gg_lneg hx hb dX10_told_7 ?_
    refine gg_goto (tgt := 12) hx hb dX10_told_8 rfl ?_
    exact h
abbrev rmX10_span : Room := { frames := 3, cells := 0, slots := 0, locals := 68 }
theorem iX10_span_X10 : ∀ w ∈ u_ws RX10 TX10 18, w ∈ wsX10_span := (fun _ h => List.mem_cons_of_mem _ (List.mem_append_right _ h))
theorem hd_X10_span : (yX10_span.cls = RX10 ∧ yX10_span.cls ≠ "java/lang/invoke/MethodHandle" ∧ yX10_span.cls ≠ "java/lang/invoke/VarHandle" ∧ (parseMethodDescriptor yX10_span.desc).map (fun d => d.parameters.length) = some 4) := by decide +kernel
set_option maxRecDepth 100000 in
set_option maxHeartbeats 4000000 in
theorem c_X10_span (l : Launch) (D : va_G) (aa : Nat → Nat) (cI cZ cJ : ClassId) (tR tU : Nat) (a1 : Int) (a2 : Int) (a3 : Int) (a4 : Int) (σ : xSt) (Post : Int → xSt → Prop) (h : wp_X10_span a1 a2 a3 a4 σ Post) : MI l D (tyL cI cZ cJ) (cM aa cI cZ cJ) tR tU yX10_span wsX10_span rmX10_span [.ref (aa 0), .int (xI a1), .int (xI a2), .int (xI a3), .int (xI a4)] σ Post := by
  refine mi_of (cc := cX10_span) (maxL := 6) (ret := (some .int)) (by decide) rfl (Nat.le_of_ble_eq_true rfl) ?_
  intro p e s m args below meth c A hF
  obtain ⟨hx, hb, hr, hml, hown, hts, hlk, hK, hZ, hA⟩ := hF
  have hown : s.vm.findClass RX10 = some m.cls := hown
  delta wp_X10_span at h
  refine gg_lv (lv' := [(0, .ref (aa 0)), (1, .int (xI a1)), (2, .int (xI a2)), (3, .int (xI a3)), (4, .int (xI a4))]) [0, 1, 2, 3, 4] rfl ?_
  refine gg_aload_n hx hb 0 rfl rfl dX10_span_0 ?_
  refine gg_iconst hx hb dX10_span_1 ?_
  refine gg_put (C := RX10) (T := TX10) (N := 18) hx hb hts hown hK iX10_span_X10 tyX10 tyX10_ok nmX10 0 rfl rfl 0 (by decide) (List.mem_of_getElem? (i := 1) rfl) rfl rfl (Nat.le_of_ble_eq_true rfl) (cM_set_0_0 aa cI cZ cJ _ _) dX10_span_2 (fun σ_2 e2 => ?_)
  have h := h σ_2 e2
  refine gg_aload_n hx hb 0 rfl rfl dX10_span_5 ?_
  refine gg_iload_n hx hb 1 rfl rfl dX10_span_6 ?_
  refine gg_iload_n hx hb 2 rfl rfl dX10_span_7 ?_
  refine gg_callVip (As := [.int (xI a1), .int (xI a2)]) (rest := []) hx hb hml hown hts hK hZ hA (c_X10_noPiece l D aa cI cZ cJ tR tU a1 a2 σ_2 _ h) (cwV 2 hts gX10_span_X10_noPiece rfl rfl rfl hd_X10_noPiece ⟨Nat.le_of_ble_eq_true rfl, Nat.le_of_ble_eq_true rfl⟩) 0 rfl rfl rfl rfl (Nat.le_of_ble_eq_true rfl) dX10_span_8 (fun r8 h => ?_)
  refine gg_istore (lv' := [(5, .int (xI r8)), (0, .ref (aa 0)), (1, .int (xI a1)), (2, .int (xI a2)), (3, .int (xI a3)), (4, .int (xI a4))]) hx hb (by decide) rfl dX10_span_11 ?_
  refine gg_iload hx hb 0 rfl dX10_span_13 ?_
  refine gg_if_eq (tgt := 21) hx hb h.1 dX10_span_15 rfl (fun c15 => ?_) (fun c15 => ?_)
  · have h := h.2.1 c15
    refine gg_aload_n hx hb 1 rfl rfl dX10_span_21 ?_
    refine gg_iload_n hx hb 2 rfl rfl dX10_span_22 ?_
    refine gg_iload_n hx hb 3 rfl rfl dX10_span_23 ?_
    refine gg_callVip (As := [.int (xI a1), .int (xI a2)]) (rest := []) hx hb hml hown hts hK hZ hA (c_X10_isSo l D aa cI cZ cJ tR tU a1 a2 σ_2 _ h) (cwV 2 hts gX10_span_X10_isSo rfl rfl rfl hd_X10_isSo ⟨Nat.le_of_ble_eq_true rfl, Nat.le_of_ble_eq_true rfl⟩) 0 rfl rfl rfl rfl (Nat.le_of_ble_eq_true rfl) dX10_span_24 (fun r24 h => ?_)
    refine gg_if_ne (tgt := 34) hx hb h.1 dX10_span_27 rfl (fun c27 => ?_) (fun c27 => ?_)
    · have h := h.2.1 c27
      refine gg_aload_n hx hb 1 rfl rfl dX10_span_34 ?_
      refine gg_iload_n hx hb 2 rfl rfl dX10_span_35 ?_
      refine gg_iload_n hx hb 3 rfl rfl dX10_span_36 ?_
      refine gg_callVi (As := [.int (xI a1), .int (xI a2)]) (rest := []) hx hb hml hown hts hK hZ hA (c_X10_spans l D aa cI cZ cJ tR tU a1 a2 σ_2 _ h) (cwV 2 hts gX10_span_X10_spans rfl rfl rfl hd_X10_spans ⟨Nat.le_of_ble_eq_true rfl, Nat.le_of_ble_eq_true rfl⟩) 0 rfl rfl rfl rfl (Nat.le_of_ble_eq_true rfl) dX10_span_37 (fun r37 t37 h => ?_)
      refine gg_pop hx hb rfl dX10_span_40 ?_
      refine gg_iload_n hx hb 4 rfl rfl dX10_span_41 ?_
      refine gg_if_eq (tgt := 65) hx hb h.1 dX10_span_42 rfl (fun c42 => ?_) (fun c42 => ?_)
      · have h := h.2.1 c42
        refine gg_aload_n hx hb 1 rfl rfl dX10_span_65 ?_
        refine gg_get (C := RX10) (T := TX10) (N := 18) hx hb hts hown hK iX10_span_X10 0 rfl rfl 3 (by decide) (List.mem_of_getElem? (i := 3) rfl) rfl dX10_span_66 ?_
        refine gg_iconst hx hb dX10_span_69 ?_
        refine gg_lald hx hb hK 2 2 rfl rfl (by decide) (by decide) dX10_span_70 ?_
        refine gg_aload_n hx hb 1 rfl rfl dX10_span_71 ?_
        refine gg_get (C := RX10) (T := TX10) (N := 18) hx hb hts hown hK iX10_span_X10 0 rfl rfl 3 (by decide) (List.mem_of_getElem? (i := 3) rfl) rfl dX10_span_72 ?_
        refine gg_iconst hx hb dX10_span_75 ?_
        refine gg_lald hx hb hK 2 2 rfl rfl (by decide) (by decide) dX10_span_76 ?_
        refine gg_iload hx hb 5 rfl dX10_span_77 ?_
        refine gg_callSip (As := [.long (xJ (t37 2 0)), .long (xJ (t37 2 1)), .int (xI a4)]) (rest := []) hx hb hml hown hts hK hZ hA (c_X10_told l D aa cI cZ cJ tR tU (t37 2 0) (t37 2 1) a4 t37 _ h) (va_cwS 3 hts gX10_span_X10_told rfl rfl rfl hd_X10_told ⟨Nat.le_of_ble_eq_true rfl, Nat.le_of_ble_eq_true rfl⟩) rfl rfl (Nat.le_of_ble_eq_true rfl) dX10_span_79 (fun r79 h => ?_)
        exact gg_iret hx hb hr hlk h dX10_span_82
      · have h := h.2.2 c42
        refine gg_aload_n hx hb 1 rfl rfl dX10_span_45 ?_
        refine gg_get (C := RX10) (T := TX10) (N := 18) hx hb hts hown hK iX10_span_X10 0 rfl rfl 4 (by decide) (List.mem_of_getElem? (i := 2) rfl) rfl dX10_span_46 ?_
        refine gg_iconst hx hb dX10_span_49 ?_
        refine gg_lald hx hb hK 3 2 rfl rfl (by decide) (by decide) dX10_span_50 ?_
        refine gg_aload_n hx hb 1 rfl rfl dX10_span_51 ?_
        refine gg_get (C := RX10) (T := TX10) (N := 18) hx hb hts hown hK iX10_span_X10 0 rfl rfl 4 (by decide) (List.mem_of_getElem? (i := 2) rfl) rfl dX10_span_52 ?_
        refine gg_iconst hx hb dX10_span_55 ?_
        refine gg_lald hx hb hK 3 2 rfl rfl (by decide) (by decide) dX10_span_56 ?_
        refine gg_iload hx hb 5 rfl dX10_span_57 ?_
        refine gg_callSip (As := [.long (xJ (t37 3 0)), .long (xJ (t37 3 1)), .int (xI a4)]) (rest := []) hx hb hml hown hts hK hZ hA (c_X10_told l D aa cI cZ cJ tR tU (t37 3 0) (t37 3 1) a4 t37 _ h) (va_cwS 3 hts gX10_span_X10_told rfl rfl rfl hd_X10_told ⟨Nat.le_of_ble_eq_true rfl, Nat.le_of_ble_eq_true rfl⟩) rfl rfl (Nat.le_of_ble_eq_true rfl) dX10_span_59 (fun r59 h => ?_)
        refine gg_goto (tgt := 82) hx hb dX10_span_62 rfl ?_
        exact gg_iret hx hb hr hlk h dX10_span_82
    · have h := h.2.2 c27
      refine gg_sipush hx hb dX10_span_30 rfl ?_
      exact gg_iret hx hb hr hlk h dX10_span_33
  · have h := h.2.2 c15
    refine gg_iload hx hb 0 rfl dX10_span_18 ?_
    exact gg_iret hx hb hr hlk h dX10_span_20
abbrev rmX10_plain : Room := { frames := 3, cells := 0, slots := 0, locals := 68 }
theorem iX10_plain_X10 : ∀ w ∈ u_ws RX10 TX10 18, w ∈ wsX10_plain := (fun _ h => List.mem_cons_of_mem _ (List.mem_append_right _ h))
theorem hd_X10_plain : (yX10_plain.cls = RX10 ∧ yX10_plain.cls ≠ "java/lang/invoke/MethodHandle" ∧ yX10_plain.cls ≠ "java/lang/invoke/VarHandle" ∧ (parseMethodDescriptor yX10_plain.desc).map (fun d => d.parameters.length) = some 3) := by decide +kernel
set_option maxRecDepth 100000 in
set_option maxHeartbeats 4000000 in
theorem c_X10_plain (l : Launch) (D : va_G) (aa : Nat → Nat) (cI cZ cJ : ClassId) (tR tU : Nat) (a1 : Int) (a2 : Int) (a3 : Int) (σ : xSt) (Post : Int → xSt → Prop) (h : wp_X10_plain a1 a2 a3 σ Post) : MI l D (tyL cI cZ cJ) (cM aa cI cZ cJ) tR tU yX10_plain wsX10_plain rmX10_plain [.ref (aa 0), .int (xI a1), .int (xI a2), .int (xI a3)] σ Post := by
  refine mi_of (cc := cX10_plain) (maxL := 7) (ret := (some .int)) (by decide) rfl (Nat.le_of_ble_eq_true rfl) ?_
  intro p e s m args below meth c A hF
  obtain ⟨hx, hb, hr, hml, hown, hts, hlk, hK, hZ, hA⟩ := hF
  have hown : s.vm.findClass RX10 = some m.cls := hown
  delta wp_X10_plain at h
  refine gg_lv (lv' := [(0, .ref (aa 0)), (1, .int (xI a1)), (2, .int (xI a2)), (3, .int (xI a3))]) [0, 1, 2, 3] rfl ?_
  refine gg_aload_n hx hb 0 rfl rfl dX10_plain_0 ?_
  refine gg_iconst hx hb dX10_plain_1 ?_
  refine gg_put (C := RX10) (T := TX10) (N := 18) hx hb hts hown hK iX10_plain_X10 tyX10 tyX10_ok nmX10 0 rfl rfl 0 (by decide) (List.mem_of_getElem? (i := 1) rfl) rfl rfl (Nat.le_of_ble_eq_true rfl) (cM_set_0_0 aa cI cZ cJ _ _) dX10_plain_2 (fun σ_2 e2 => ?_)
  have h := h σ_2 e2
  refine gg_aload_n hx hb 0 rfl rfl dX10_plain_5 ?_
  refine gg_iload_n hx hb 1 rfl rfl dX10_plain_6 ?_
  refine gg_iload_n hx hb 2 rfl rfl dX10_plain_7 ?_
  refine gg_callVip (As := [.int (xI a1), .int (xI a2)]) (rest := []) hx hb hml hown hts hK hZ hA (c_X10_noPiece l D aa cI cZ cJ tR tU a1 a2 σ_2 _ h) (cwV 2 hts gX10_plain_X10_noPiece rfl rfl rfl hd_X10_noPiece ⟨Nat.le_of_ble_eq_true rfl, Nat.le_of_ble_eq_true rfl⟩) 0 rfl rfl rfl rfl (Nat.le_of_ble_eq_true rfl) dX10_plain_8 (fun r8 h => ?_)
  refine gg_istore (lv' := [(4, .int (xI r8)), (0, .ref (aa 0)), (1, .int (xI a1)), (2, .int (xI a2)), (3, .int (xI a3))]) hx hb (by decide) rfl dX10_plain_11 ?_
  refine gg_iload hx hb 0 rfl dX10_plain_13 ?_
  refine gg_if_eq (tgt := 21) hx hb h.1 dX10_plain_15 rfl (fun c15 => ?_) (fun c15 => ?_)
  · have h := h.2.1 c15
    refine gg_aload_n hx hb 1 rfl rfl dX10_plain_21 ?_
    refine gg_iload_n hx hb 2 rfl rfl dX10_plain_22 ?_
    refine gg_iload_n hx hb 3 rfl rfl dX10_plain_23 ?_
    refine gg_callVi (As := [.int (xI a1), .int (xI a2)]) (rest := []) hx hb hml hown hts hK hZ hA (c_X10_isStraight l D aa cI cZ cJ tR tU a1 a2 σ_2 _ h) (cwV 2 hts gX10_plain_X10_isStraight rfl rfl rfl hd_X10_isStraight ⟨Nat.le_of_ble_eq_true rfl, Nat.le_of_ble_eq_true rfl⟩) 0 rfl rfl rfl rfl (Nat.le_of_ble_eq_true rfl) dX10_plain_24 (fun r24 t24 h => ?_)
    refine gg_if_ne (tgt := 34) hx hb h.1 dX10_plain_27 rfl (fun c27 => ?_) (fun c27 => ?_)
    · have h := h.2.1 c27
      refine gg_iconst hx hb dX10_plain_34 ?_
      refine gg_istore (lv' := [(5, .int (xI 1)), (4, .int (xI r8)), (0, .ref (aa 0)), (1, .int (xI a1)), (2, .int (xI a2)), (3, .int (xI a3))]) hx hb (by decide) rfl dX10_plain_35 ?_
      have h := h (fun (x5_37 : Int) => GG p l e rmX10_plain s m args below meth c (QI below D (cM aa cI cZ cJ) A args s Post) A D (cM aa cI cZ cJ) 7 t24 37 [(0, .ref (aa 0)), (3, .int (xI a3)), (5, .int (xI x5_37))] [])
      have h := h (by
        intro x5_37 h
        refine gg_iload hx hb 2 rfl dX10_plain_37 ?_
        refine gg_sipush hx hb dX10_plain_39 rfl ?_
        refine gg_icmp_ge (tgt := 127) hx hb h.1 (by decide) dX10_plain_42 rfl (fun c42 => ?_) (fun c42 => ?_)
        · have h := h.2.1 c42
          refine gg_sipush hx hb dX10_plain_127 rfl ?_
          exact gg_iret hx hb hr hlk h dX10_plain_130
        · have h := h.2.2 c42
          refine gg_iconst hx hb dX10_plain_45 ?_
          refine gg_istore (lv' := [(6, .int (xI 0)), (0, .ref (aa 0)), (3, .int (xI a3)), (5, .int (xI x5_37))]) hx hb (by decide) rfl dX10_plain_46 ?_
          have h := h (fun (x6_48 : Int) => GG p l e rmX10_plain s m args below meth c (QI below D (cM aa cI cZ cJ) A args s Post) A D (cM aa cI cZ cJ) 7 t24 48 [(0, .ref (aa 0)), (3, .int (xI a3)), (5, .int (xI x5_37)), (6, .int (xI x6_48))] [])
          have h := h (by
            intro x6_48 h
            refine gg_iload hx hb 3 rfl dX10_plain_48 ?_
            refine gg_iload hx hb 2 rfl dX10_plain_50 ?_
            refine gg_icmp_gt (tgt := 121) hx hb h.1 h.2.1 dX10_plain_52 rfl (fun c52 => ?_) (fun c52 => ?_)
            · have h := h.2.2.1 c52
              refine gg_iinc (lv' := [(5, .int (xI (x5_37 + 1))), (0, .ref (aa 0)), (3, .int (xI a3)), (6, .int (xI x6_48))]) hx hb 2 rfl (by decide) rfl dX10_plain_121 ?_
              refine gg_goto (tgt := 37) hx hb dX10_plain_124 rfl ?_
              refine gg_lv [1, 2, 0] rfl ?_
              exact h
            · have h := h.2.2.2 c52
              refine gg_aload_n hx hb 0 rfl rfl dX10_plain_55 ?_
              refine gg_get (C := RX10) (T := TX10) (N := 18) hx hb hts hown hK iX10_plain_X10 0 rfl rfl 3 (by decide) (List.mem_of_getElem? (i := 2) rfl) rfl dX10_plain_56 ?_
              refine gg_iconst hx hb dX10_plain_59 ?_
              refine gg_lald hx hb hK 2 2 rfl rfl (by decide) (by decide) dX10_plain_60 ?_
              refine gg_iload hx hb 2 rfl dX10_plain_61 ?_
              refine gg_i2l hx hb h.1 dX10_plain_63 ?_
              have h := h.2
              refine gg_lmul hx hb dX10_plain_64 ?_
              refine gg_iload hx hb 3 rfl dX10_plain_65 ?_
              refine gg_i2l hx hb h.1 dX10_plain_67 ?_
              have h := h.2
              refine gg_aload_n hx hb 0 rfl rfl dX10_plain_68 ?_
              refine gg_get (C := RX10) (T := TX10) (N := 18) hx hb hts hown hK iX10_plain_X10 0 rfl rfl 3 (by decide) (List.mem_of_getElem? (i := 2) rfl) rfl dX10_plain_69 ?_
              refine gg_iconst hx hb dX10_plain_72 ?_
              refine gg_lald hx hb hK 2 2 rfl rfl (by decide) (by decide) dX10_plain_73 ?_
              refine gg_lmul hx hb dX10_plain_74 ?_
              refine gg_lcmp_ge (tgt := 115) hx hb h.1 h.2.1 dX10_plain_75 dX10_plain_76 rfl (fun c76 => ?_) (fun c76 => ?_)
              · have h := h.2.2.1 c76
                refine gg_iinc (lv' := [(6, .int (xI (x6_48 + 1))), (0, .ref (aa 0)), (3, .int (xI a3)), (5, .int (xI x5_37))]) hx hb 3 rfl (by decide) rfl dX10_plain_115 ?_
                refine gg_goto (tgt := 48) hx hb dX10_plain_118 rfl ?_
                refine gg_lv [1, 2, 3, 0] rfl ?_
                exact h
              · have h := h.2.2.2 c76
                refine gg_iload hx hb 3 rfl dX10_plain_79 ?_
                refine gg_i2l hx hb h.1 dX10_plain_81 ?_
                have h := h.2
                refine gg_aload_n hx hb 0 rfl rfl dX10_plain_82 ?_
                refine gg_get (C := RX10) (T := TX10) (N := 18) hx hb hts hown hK iX10_plain_X10 0 rfl rfl 4 (by decide) (List.mem_of_getElem? (i := 3) rfl) rfl dX10_plain_83 ?_
                refine gg_iconst hx hb dX10_plain_86 ?_
                refine gg_lald hx hb hK 3 2 rfl rfl (by decide) (by decide) dX10_plain_87 ?_
                refine gg_lmul hx hb dX10_plain_88 ?_
                refine gg_aload_n hx hb 0 rfl rfl dX10_plain_89 ?_
                refine gg_get (C := RX10) (T := TX10) (N := 18) hx hb hts hown hK iX10_plain_X10 0 rfl rfl 4 (by decide) (List.mem_of_getElem? (i := 3) rfl) rfl dX10_plain_90 ?_
                refine gg_iconst hx hb dX10_plain_93 ?_
                refine gg_lald hx hb hK 3 2 rfl rfl (by decide) (by decide) dX10_plain_94 ?_
                refine gg_iload hx hb 2 rfl dX10_plain_95 ?_
                refine gg_i2l hx hb h.1 dX10_plain_97 ?_
                have h := h.2
                refine gg_lmul hx hb dX10_plain_98 ?_
                refine gg_lcmp_ge (tgt := 115) hx hb h.1 h.2.1 dX10_plain_99 dX10_plain_100 rfl (fun c100 => ?_) (fun c100 => ?_)
                · have h := h.2.2.1 c100
                  refine gg_iinc (lv' := [(6, .int (xI (x6_48 + 1))), (0, .ref (aa 0)), (3, .int (xI a3)), (5, .int (xI x5_37))]) hx hb 3 rfl (by decide) rfl dX10_plain_115 ?_
                  refine gg_goto (tgt := 48) hx hb dX10_plain_118 rfl ?_
                  refine gg_lv [1, 2, 3, 0] rfl ?_
                  exact h
                · have h := h.2.2.2 c100
                  refine gg_iload_n hx hb 1 rfl rfl dX10_plain_103 ?_
                  refine gg_if_eq (tgt := 112) hx hb h.1 dX10_plain_104 rfl (fun c104 => ?_) (fun c104 => ?_)
                  · have h := h.2.1 c104
                    refine gg_iload hx hb 2 rfl dX10_plain_112 ?_
                    exact gg_iret hx hb hr hlk h dX10_plain_114
                  · have h := h.2.2 c104
                    refine gg_iload hx hb 3 rfl dX10_plain_107 ?_
                    refine gg_goto (tgt := 114) hx hb dX10_plain_109 rfl ?_
                    exact gg_iret hx hb hr hlk h dX10_plain_114)
          refine gg_lv [1, 2, 3, 0] rfl ?_
          exact h)
      refine gg_lv [2, 5, 0] rfl ?_
      exact h
    · have h := h.2.2 c27
      refine gg_sipush hx hb dX10_plain_30 rfl ?_
      exact gg_iret hx hb hr hlk h dX10_plain_33
  · have h := h.2.2 c15
    refine gg_iload hx hb 0 rfl dX10_plain_18 ?_
    exact gg_iret hx hb hr hlk h dX10_plain_20
abbrev rmX10_endOf : Room := { frames := 2, cells := 0, slots := 0, locals := 48 }
theorem iX10_endOf_X10 : ∀ w ∈ u_ws RX10 TX10 18, w ∈ wsX10_endOf := (fun _ h => List.mem_cons_of_mem _ (List.mem_append_right _ h))
theorem hd_X10_endOf : (yX10_endOf.cls = RX10 ∧ yX10_endOf.cls ≠ "java/lang/invoke/MethodHandle" ∧ yX10_endOf.cls ≠ "java/lang/invoke/VarHandle" ∧ (parseMethodDescriptor yX10_endOf.desc).map (fun d => d.parameters.length) = some 1) := by decide +kernel
set_option maxRecDepth 100000 in
set_option maxHeartbeats 4000000 in
theorem c_X10_endOf (l : Launch) (D : va_G) (aa : Nat → Nat) (cI cZ cJ : ClassId) (tR tU : Nat) (a1 : Int) (σ : xSt) (Post : Int → xSt → Prop) (h : wp_X10_endOf a1 σ Post) : MI l D (tyL cI cZ cJ) (cM aa cI cZ cJ) tR tU yX10_endOf wsX10_endOf rmX10_endOf [.ref (aa 0), .int (xI a1)] σ Post := by
  refine mi_of (cc := cX10_endOf) (maxL := 3) (ret := (some .int)) (by decide) rfl (Nat.le_of_ble_eq_true rfl) ?_
  intro p e s m args below meth c A hF
  obtain ⟨hx, hb, hr, hml, hown, hts, hlk, hK, hZ, hA⟩ := hF
  have hown : s.vm.findClass RX10 = some m.cls := hown
  delta wp_X10_endOf at h
  refine gg_lv (lv' := [(0, .ref (aa 0)), (1, .int (xI a1))]) [0, 1] rfl ?_
  refine gg_iload_n hx hb 1 rfl rfl dX10_endOf_0 ?_
  refine gg_istore_n (lv' := [(2, .int (xI a1)), (0, .ref (aa 0)), (1, .int (xI a1))]) hx hb rfl (by decide) rfl dX10_endOf_1 ?_
  have h := h (fun (x2_2 : Int) (s2 : xSt) => GG p l e rmX10_endOf s m args below meth c (QI below D (cM aa cI cZ cJ) A args s Post) A D (cM aa cI cZ cJ) 3 s2 2 [(0, .ref (aa 0)), (1, .int (xI a1)), (2, .int (xI x2_2))] [])
  have h := h (by
    intro x2_2 s2 h
    refine gg_iload_n hx hb 2 rfl rfl dX10_endOf_2 ?_
    refine gg_aload_n hx hb 0 rfl rfl dX10_endOf_3 ?_
    refine gg_get (C := RX10) (T := TX10) (N := 18) hx hb hts hown hK iX10_endOf_X10 0 rfl rfl 1 (by decide) (List.mem_of_getElem? (i := 1) rfl) rfl dX10_endOf_4 ?_
    refine gg_icmp_ge (tgt := 27) hx hb h.1 h.2.1 dX10_endOf_7 rfl (fun c7 => ?_) (fun c7 => ?_)
    · have h := h.2.2.1 c7
      refine gg_iload_n hx hb 2 rfl rfl dX10_endOf_27 ?_
      exact gg_iret hx hb hr hlk h dX10_endOf_28
    · have h := h.2.2.2 c7
      refine gg_aload_n hx hb 0 rfl rfl dX10_endOf_10 ?_
      refine gg_iload_n hx hb 1 rfl rfl dX10_endOf_11 ?_
      refine gg_iload_n hx hb 2 rfl rfl dX10_endOf_12 ?_
      refine gg_iconst hx hb dX10_endOf_13 ?_
      refine gg_iadd hx hb dX10_endOf_14 ?_
      refine gg_callVi (As := [.int (xI a1), .int (xI (x2_2 + 1))]) (rest := []) hx hb hml hown hts hK hZ hA (c_X10_isStraight l D aa cI cZ cJ tR tU a1 (x2_2 + 1) s2 _ h) (cwV 2 hts gX10_endOf_X10_isStraight rfl rfl rfl hd_X10_isStraight ⟨Nat.le_of_ble_eq_true rfl, Nat.le_of_ble_eq_true rfl⟩) 0 rfl rfl rfl rfl (Nat.le_of_ble_eq_true rfl) dX10_endOf_15 (fun r15 t15 h => ?_)
      refine gg_if_eq (tgt := 27) hx hb h.1 dX10_endOf_18 rfl (fun c18 => ?_) (fun c18 => ?_)
      · have h := h.2.1 c18
        refine gg_iload_n hx hb 2 rfl rfl dX10_endOf_27 ?_
        exact gg_iret hx hb hr hlk h dX10_endOf_28
      · have h := h.2.2 c18
        refine gg_iinc (lv' := [(2, .int (xI (x2_2 + 1))), (0, .ref (aa 0)), (1, .int (xI a1))]) hx hb 2 rfl (by decide) rfl dX10_endOf_21 ?_
        refine gg_goto (tgt := 2) hx hb dX10_endOf_24 rfl ?_
        refine gg_lv [1, 2, 0] rfl ?_
        exact h)
  refine gg_lv [1, 2, 0] rfl ?_
  exact h
abbrev rmX10_longest : Room := { frames := 3, cells := 0, slots := 0, locals := 70 }
theorem iX10_longest_X10 : ∀ w ∈ u_ws RX10 TX10 18, w ∈ wsX10_longest := (fun _ h => List.mem_cons_of_mem _ (List.mem_append_right _ h))
theorem hd_X10_longest : (yX10_longest.cls = RX10 ∧ yX10_longest.cls ≠ "java/lang/invoke/MethodHandle" ∧ yX10_longest.cls ≠ "java/lang/invoke/VarHandle" ∧ (parseMethodDescriptor yX10_longest.desc).map (fun d => d.parameters.length) = some 1) := by decide +kernel
set_option maxRecDepth 100000 in
set_option maxHeartbeats 4000000 in
theorem c_X10_longest (l : Launch) (D : va_G) (aa : Nat → Nat) (cI cZ cJ : ClassId) (tR tU : Nat) (a1 : Int) (σ : xSt) (Post : Int → xSt → Prop) (h : wp_X10_longest a1 σ Post) : MI l D (tyL cI cZ cJ) (cM aa cI cZ cJ) tR tU yX10_longest wsX10_longest rmX10_longest [.ref (aa 0), .int (xI a1)] σ Post := by
  refine mi_of (cc := cX10_longest) (maxL := 6) (ret := (some .int)) (by decide) rfl (Nat.le_of_ble_eq_true rfl) ?_
  intro p e s m args below meth c A hF
  obtain ⟨hx, hb, hr, hml, hown, hts, hlk, hK, hZ, hA⟩ := hF
  have hown : s.vm.findClass RX10 = some m.cls := hown
  delta wp_X10_longest at h
  refine gg_lv (lv' := [(0, .ref (aa 0)), (1, .int (xI a1))]) [0, 1] rfl ?_
  refine gg_aload_n hx hb 0 rfl rfl dX10_longest_0 ?_
  refine gg_iconst hx hb dX10_longest_1 ?_
  refine gg_put (C := RX10) (T := TX10) (N := 18) hx hb hts hown hK iX10_longest_X10 tyX10 tyX10_ok nmX10 0 rfl rfl 0 (by decide) (List.mem_of_getElem? (i := 1) rfl) rfl rfl (Nat.le_of_ble_eq_true rfl) (cM_set_0_0 aa cI cZ cJ _ _) dX10_longest_2 (fun σ_2 e2 => ?_)
  have h := h σ_2 e2
  refine gg_iconst hx hb dX10_longest_5 ?_
  refine gg_istore_n (lv' := [(2, .int (xI 0)), (0, .ref (aa 0)), (1, .int (xI a1))]) hx hb rfl (by decide) rfl dX10_longest_6 ?_
  refine gg_iconst hx hb dX10_longest_7 ?_
  refine gg_istore_n (lv' := [(3, .int (xI 0)), (2, .int (xI 0)), (0, .ref (aa 0)), (1, .int (xI a1))]) hx hb rfl (by decide) rfl dX10_longest_8 ?_
  refine gg_iconst hx hb dX10_longest_9 ?_
  refine gg_istore (lv' := [(4, .int (xI 0)), (3, .int (xI 0)), (2, .int (xI 0)), (0, .ref (aa 0)), (1, .int (xI a1))]) hx hb (by decide) rfl dX10_longest_10 ?_
  have h := h (fun (x2_12 x3_12 x4_12 : Int) (s12 : xSt) => GG p l e rmX10_longest s m args below meth c (QI below D (cM aa cI cZ cJ) A args s Post) A D (cM aa cI cZ cJ) 6 s12 12 [(0, .ref (aa 0)), (1, .int (xI a1)), (2, .int (xI x2_12)), (3, .int (xI x3_12)), (4, .int (xI x4_12))] [])
  have h := h (by
    intro x2_12 x3_12 x4_12 s12 h
    refine gg_iload hx hb 4 rfl dX10_longest_12 ?_
    refine gg_aload_n hx hb 0 rfl rfl dX10_longest_14 ?_
    refine gg_get (C := RX10) (T := TX10) (N := 18) hx hb hts hown hK iX10_longest_X10 0 rfl rfl 1 (by decide) (List.mem_of_getElem? (i := 2) rfl) rfl dX10_longest_15 ?_
    refine gg_icmp_ge (tgt := 50) hx hb h.1 h.2.1 dX10_longest_18 rfl (fun c18 => ?_) (fun c18 => ?_)
    · have h := h.2.2.1 c18
      refine gg_iload_n hx hb 1 rfl rfl dX10_longest_50 ?_
      refine gg_if_eq (tgt := 58) hx hb h.1 dX10_longest_51 rfl (fun c51 => ?_) (fun c51 => ?_)
      · have h := h.2.1 c51
        refine gg_iload_n hx hb 2 rfl rfl dX10_longest_58 ?_
        exact gg_iret hx hb hr hlk h dX10_longest_59
      · have h := h.2.2 c51
        refine gg_iload_n hx hb 3 rfl rfl dX10_longest_54 ?_
        refine gg_goto (tgt := 59) hx hb dX10_longest_55 rfl ?_
        exact gg_iret hx hb hr hlk h dX10_longest_59
    · have h := h.2.2.2 c18
      refine gg_aload_n hx hb 0 rfl rfl dX10_longest_21 ?_
      refine gg_iload hx hb 4 rfl dX10_longest_22 ?_
      refine gg_callVi (As := [.int (xI x4_12)]) (rest := []) hx hb hml hown hts hK hZ hA (c_X10_endOf l D aa cI cZ cJ tR tU x4_12 s12 _ h) (cwV 1 hts gX10_longest_X10_endOf rfl rfl rfl hd_X10_endOf ⟨Nat.le_of_ble_eq_true rfl, Nat.le_of_ble_eq_true rfl⟩) 0 rfl rfl rfl rfl (Nat.le_of_ble_eq_true rfl) dX10_longest_24 (fun r24 t24 h => ?_)
      refine gg_iload hx hb 4 rfl dX10_longest_27 ?_
      refine gg_isub hx hb dX10_longest_29 ?_
      refine gg_istore (lv' := [(5, .int (xI (r24 - x4_12))), (0, .ref (aa 0)), (1, .int (xI a1)), (2, .int (xI x2_12)), (3, .int (xI x3_12)), (4, .int (xI x4_12))]) hx hb (by decide) rfl dX10_longest_30 ?_
      refine gg_iload hx hb 0 rfl dX10_longest_32 ?_
      refine gg_iload_n hx hb 3 rfl rfl dX10_longest_34 ?_
      refine gg_icmp_le (tgt := 44) hx hb h.1 h.2.1 dX10_longest_35 rfl (fun c35 => ?_) (fun c35 => ?_)
      · have h := h.2.2.1 c35
        refine gg_iinc (lv' := [(4, .int (xI (x4_12 + 1))), (5, .int (xI (r24 - x4_12))), (0, .ref (aa 0)), (1, .int (xI a1)), (2, .int (xI x2_12)), (3, .int (xI x3_12))]) hx hb 5 rfl (by decide) rfl dX10_longest_44 ?_
        refine gg_goto (tgt := 12) hx hb dX10_longest_47 rfl ?_
        refine gg_lv [2, 3, 4, 5, 0] rfl ?_
        exact h
      · have h := h.2.2.2 c35
        refine gg_iload hx hb 0 rfl dX10_longest_38 ?_
        refine gg_istore_n (lv' := [(2, .int (xI (r24 - x4_12))), (5, .int (xI (r24 - x4_12))), (0, .ref (aa 0)), (1, .int (xI a1)), (3, .int (xI x3_12)), (4, .int (xI x4_12))]) hx hb rfl (by decide) rfl dX10_longest_40 ?_
        refine gg_iload hx hb 5 rfl dX10_longest_41 ?_
        refine gg_istore_n (lv' := [(3, .int (xI x4_12)), (2, .int (xI (r24 - x4_12))), (5, .int (xI (r24 - x4_12))), (0, .ref (aa 0)), (1, .int (xI a1)), (4, .int (xI x4_12))]) hx hb rfl (by decide) rfl dX10_longest_43 ?_
        refine gg_iinc (lv' := [(4, .int (xI (x4_12 + 1))), (3, .int (xI x4_12)), (2, .int (xI (r24 - x4_12))), (5, .int (xI (r24 - x4_12))), (0, .ref (aa 0)), (1, .int (xI a1))]) hx hb 5 rfl (by decide) rfl dX10_longest_44 ?_
        refine gg_goto (tgt := 12) hx hb dX10_longest_47 rfl ?_
        refine gg_lv [4, 5, 2, 1, 0] rfl ?_
        exact h)
  refine gg_lv [3, 4, 2, 1, 0] rfl ?_
  exact h
abbrev rmX10_pieces : Room := { frames := 3, cells := 0, slots := 0, locals := 70 }
theorem iX10_pieces_X10 : ∀ w ∈ u_ws RX10 TX10 18, w ∈ wsX10_pieces := (fun _ h => List.mem_cons_of_mem _ (List.mem_append_right _ h))
theorem hd_X10_pieces : (yX10_pieces.cls = RX10 ∧ yX10_pieces.cls ≠ "java/lang/invoke/MethodHandle" ∧ yX10_pieces.cls ≠ "java/lang/invoke/VarHandle" ∧ (parseMethodDescriptor yX10_pieces.desc).map (fun d => d.parameters.length) = some 0) := by decide +kernel
set_option maxRecDepth 100000 in
set_option maxHeartbeats 4000000 in
theorem c_X10_pieces (l : Launch) (D : va_G) (aa : Nat → Nat) (cI cZ cJ : ClassId) (tR tU : Nat) (σ : xSt) (Post : Int → xSt → Prop) (h : wp_X10_pieces σ Post) : MI l D (tyL cI cZ cJ) (cM aa cI cZ cJ) tR tU yX10_pieces wsX10_pieces rmX10_pieces [.ref (aa 0)] σ Post := by
  refine mi_of (cc := cX10_pieces) (maxL := 3) (ret := (some .int)) (by decide) rfl (Nat.le_of_ble_eq_true rfl) ?_
  intro p e s m args below meth c A hF
  obtain ⟨hx, hb, hr, hml, hown, hts, hlk, hK, hZ, hA⟩ := hF
  have hown : s.vm.findClass RX10 = some m.cls := hown
  delta wp_X10_pieces at h
  refine gg_lv (lv' := [(0, .ref (aa 0))]) [0] rfl ?_
  refine gg_aload_n hx hb 0 rfl rfl dX10_pieces_0 ?_
  refine gg_iconst hx hb dX10_pieces_1 ?_
  refine gg_put (C := RX10) (T := TX10) (N := 18) hx hb hts hown hK iX10_pieces_X10 tyX10 tyX10_ok nmX10 0 rfl rfl 0 (by decide) (List.mem_of_getElem? (i := 1) rfl) rfl rfl (Nat.le_of_ble_eq_true rfl) (cM_set_0_0 aa cI cZ cJ _ _) dX10_pieces_2 (fun σ_2 e2 => ?_)
  have h := h σ_2 e2
  refine gg_iconst hx hb dX10_pieces_5 ?_
  refine gg_istore_n (lv' := [(1, .int (xI 0)), (0, .ref (aa 0))]) hx hb rfl (by decide) rfl dX10_pieces_6 ?_
  refine gg_iconst hx hb dX10_pieces_7 ?_
  refine gg_istore_n (lv' := [(2, .int (xI 0)), (1, .int (xI 0)), (0, .ref (aa 0))]) hx hb rfl (by decide) rfl dX10_pieces_8 ?_
  have h := h (fun (x1_9 x2_9 : Int) (s9 : xSt) => GG p l e rmX10_pieces s m args below meth c (QI below D (cM aa cI cZ cJ) A args s Post) A D (cM aa cI cZ cJ) 3 s9 9 [(0, .ref (aa 0)), (1, .int (xI x1_9)), (2, .int (xI x2_9))] [])
  have h := h (by
    intro x1_9 x2_9 s9 h
    refine gg_iload_n hx hb 2 rfl rfl dX10_pieces_9 ?_
    refine gg_aload_n hx hb 0 rfl rfl dX10_pieces_10 ?_
    refine gg_get (C := RX10) (T := TX10) (N := 18) hx hb hts hown hK iX10_pieces_X10 0 rfl rfl 1 (by decide) (List.mem_of_getElem? (i := 2) rfl) rfl dX10_pieces_11 ?_
    refine gg_icmp_ge (tgt := 29) hx hb h.1 h.2.1 dX10_pieces_14 rfl (fun c14 => ?_) (fun c14 => ?_)
    · have h := h.2.2.1 c14
      refine gg_iload_n hx hb 1 rfl rfl dX10_pieces_29 ?_
      exact gg_iret hx hb hr hlk h dX10_pieces_30
    · have h := h.2.2.2 c14
      refine gg_aload_n hx hb 0 rfl rfl dX10_pieces_17 ?_
      refine gg_iload_n hx hb 2 rfl rfl dX10_pieces_18 ?_
      refine gg_callVi (As := [.int (xI x2_9)]) (rest := []) hx hb hml hown hts hK hZ hA (c_X10_endOf l D aa cI cZ cJ tR tU x2_9 s9 _ h) (cwV 1 hts gX10_pieces_X10_endOf rfl rfl rfl hd_X10_endOf ⟨Nat.le_of_ble_eq_true rfl, Nat.le_of_ble_eq_true rfl⟩) 0 rfl rfl rfl rfl (Nat.le_of_ble_eq_true rfl) dX10_pieces_19 (fun r19 t19 h => ?_)
      refine gg_istore_n (lv' := [(2, .int (xI r19)), (0, .ref (aa 0)), (1, .int (xI x1_9))]) hx hb rfl (by decide) rfl dX10_pieces_22 ?_
      refine gg_iinc (lv' := [(1, .int (xI (x1_9 + 1))), (2, .int (xI r19)), (0, .ref (aa 0))]) hx hb 2 rfl (by decide) rfl dX10_pieces_23 ?_
      refine gg_goto (tgt := 9) hx hb dX10_pieces_26 rfl ?_
      refine gg_lv [2, 0, 1] rfl ?_
      exact h)
  refine gg_lv [2, 1, 0] rfl ?_
  exact h
abbrev rmX10_pieceEnd : Room := { frames := 3, cells := 0, slots := 0, locals := 70 }
theorem iX10_pieceEnd_X10 : ∀ w ∈ u_ws RX10 TX10 18, w ∈ wsX10_pieceEnd := (fun _ h => List.mem_cons_of_mem _ (List.mem_append_right _ h))
theorem hd_X10_pieceEnd : (yX10_pieceEnd.cls = RX10 ∧ yX10_pieceEnd.cls ≠ "java/lang/invoke/MethodHandle" ∧ yX10_pieceEnd.cls ≠ "java/lang/invoke/VarHandle" ∧ (parseMethodDescriptor yX10_pieceEnd.desc).map (fun d => d.parameters.length) = some 1) := by decide +kernel
set_option maxRecDepth 100000 in
set_option maxHeartbeats 4000000 in
theorem c_X10_pieceEnd (l : Launch) (D : va_G) (aa : Nat → Nat) (cI cZ cJ : ClassId) (tR tU : Nat) (a1 : Int) (σ : xSt) (Post : Int → xSt → Prop) (h : wp_X10_pieceEnd a1 σ Post) : MI l D (tyL cI cZ cJ) (cM aa cI cZ cJ) tR tU yX10_pieceEnd wsX10_pieceEnd rmX10_pieceEnd [.ref (aa 0), .int (xI a1)] σ Post := by
  refine mi_of (cc := cX10_pieceEnd) (maxL := 4) (ret := (some .int)) (by decide) rfl (Nat.le_of_ble_eq_true rfl) ?_
  intro p e s m args below meth c A hF
  obtain ⟨hx, hb, hr, hml, hown, hts, hlk, hK, hZ, hA⟩ := hF
  have hown : s.vm.findClass RX10 = some m.cls := hown
  delta wp_X10_pieceEnd at h
  refine gg_lv (lv' := [(0, .ref (aa 0)), (1, .int (xI a1))]) [0, 1] rfl ?_
  refine gg_aload_n hx hb 0 rfl rfl dX10_pieceEnd_0 ?_
  refine gg_iconst hx hb dX10_pieceEnd_1 ?_
  refine gg_put (C := RX10) (T := TX10) (N := 18) hx hb hts hown hK iX10_pieceEnd_X10 tyX10 tyX10_ok nmX10 0 rfl rfl 0 (by decide) (List.mem_of_getElem? (i := 1) rfl) rfl rfl (Nat.le_of_ble_eq_true rfl) (cM_set_0_0 aa cI cZ cJ _ _) dX10_pieceEnd_2 (fun σ_2 e2 => ?_)
  have h := h σ_2 e2
  refine gg_iconst hx hb dX10_pieceEnd_5 ?_
  refine gg_istore_n (lv' := [(2, .int (xI 0)), (0, .ref (aa 0)), (1, .int (xI a1))]) hx hb rfl (by decide) rfl dX10_pieceEnd_6 ?_
  refine gg_iconst hx hb dX10_pieceEnd_7 ?_
  refine gg_istore_n (lv' := [(3, .int (xI 0)), (2, .int (xI 0)), (0, .ref (aa 0)), (1, .int (xI a1))]) hx hb rfl (by decide) rfl dX10_pieceEnd_8 ?_
  have h := h (fun (x2_9 x3_9 : Int) (s9 : xSt) => GG p l e rmX10_pieceEnd s m args below meth c (QI below D (cM aa cI cZ cJ) A args s Post) A D (cM aa cI cZ cJ) 4 s9 9 [(0, .ref (aa 0)), (1, .int (xI a1)), (2, .int (xI x2_9)), (3, .int (xI x3_9))] [])
  have h := h (by
    intro x2_9 x3_9 s9 h
    refine gg_iload_n hx hb 3 rfl rfl dX10_pieceEnd_9 ?_
    refine gg_aload_n hx hb 0 rfl rfl dX10_pieceEnd_10 ?_
    refine gg_get (C := RX10) (T := TX10) (N := 18) hx hb hts hown hK iX10_pieceEnd_X10 0 rfl rfl 1 (by decide) (List.mem_of_getElem? (i := 2) rfl) rfl dX10_pieceEnd_11 ?_
    refine gg_icmp_ge (tgt := 36) hx hb h.1 h.2.1 dX10_pieceEnd_14 rfl (fun c14 => ?_) (fun c14 => ?_)
    · have h := h.2.2.1 c14
      refine gg_sipush hx hb dX10_pieceEnd_36 rfl ?_
      exact gg_iret hx hb hr hlk h dX10_pieceEnd_39
    · have h := h.2.2.2 c14
      refine gg_aload_n hx hb 0 rfl rfl dX10_pieceEnd_17 ?_
      refine gg_iload_n hx hb 3 rfl rfl dX10_pieceEnd_18 ?_
      refine gg_callVi (As := [.int (xI x3_9)]) (rest := []) hx hb hml hown hts hK hZ hA (c_X10_endOf l D aa cI cZ cJ tR tU x3_9 s9 _ h) (cwV 1 hts gX10_pieceEnd_X10_endOf rfl rfl rfl hd_X10_endOf ⟨Nat.le_of_ble_eq_true rfl, Nat.le_of_ble_eq_true rfl⟩) 0 rfl rfl rfl rfl (Nat.le_of_ble_eq_true rfl) dX10_pieceEnd_19 (fun r19 t19 h => ?_)
      refine gg_istore_n (lv' := [(3, .int (xI r19)), (0, .ref (aa 0)), (1, .int (xI a1)), (2, .int (xI x2_9))]) hx hb rfl (by decide) rfl dX10_pieceEnd_22 ?_
      refine gg_iload_n hx hb 3 rfl rfl dX10_pieceEnd_23 ?_
      refine gg_iload_n hx hb 2 rfl rfl dX10_pieceEnd_24 ?_
      refine gg_icmp_ne (tgt := 30) hx hb h.1 h.2.1 dX10_pieceEnd_25 rfl (fun c25 => ?_) (fun c25 => ?_)
      · have h := h.2.2.1 c25
        refine gg_iinc (lv' := [(2, .int (xI (x2_9 + 1))), (3, .int (xI r19)), (0, .ref (aa 0)), (1, .int (xI a1))]) hx hb 3 rfl (by decide) rfl dX10_pieceEnd_30 ?_
        refine gg_goto (tgt := 9) hx hb dX10_pieceEnd_33 rfl ?_
        refine gg_lv [2, 3, 0, 1] rfl ?_
        exact h
      · have h := h.2.2.2 c25
        refine gg_iload_n hx hb 0 rfl rfl dX10_pieceEnd_28 ?_
        exact gg_iret hx hb hr hlk h dX10_pieceEnd_29)
  refine gg_lv [2, 3, 1, 0] rfl ?_
  exact h
abbrev rmX10_fields : Room := { frames := 0, cells := 0, slots := 0, locals := 0 }
theorem iX10_fields_X10 : ∀ w ∈ u_ws RX10 TX10 18, w ∈ wsX10_fields := (fun _ h => List.mem_cons_of_mem _ (List.mem_append_right _ h))
theorem hd_X10_fields : (yX10_fields.cls = RX10 ∧ yX10_fields.cls ≠ "java/lang/invoke/MethodHandle" ∧ yX10_fields.cls ≠ "java/lang/invoke/VarHandle" ∧ (parseMethodDescriptor yX10_fields.desc).map (fun d => d.parameters.length) = some 0) := by decide +kernel
set_option maxRecDepth 100000 in
set_option maxHeartbeats 4000000 in
theorem c_X10_fields (l : Launch) (D : va_G) (aa : Nat → Nat) (cI cZ cJ : ClassId) (tR tU : Nat) (σ : xSt) (Post : Int → Prop) (h : wp_X10_fields σ Post) : MI l D (tyL cI cZ cJ) (cM aa cI cZ cJ) tR tU yX10_fields wsX10_fields rmX10_fields [.ref (aa 0)] σ (fun r9 σ9 => σ9 = σ ∧ Post r9) := by
  refine mi_of (cc := cX10_fields) (maxL := 1) (ret := (some .int)) (by decide) rfl (Nat.le_of_ble_eq_true rfl) ?_
  intro p e s m args below meth c A hF
  obtain ⟨hx, hb, hr, hml, hown, hts, hlk, hK, hZ, hA⟩ := hF
  have hown : s.vm.findClass RX10 = some m.cls := hown
  delta wp_X10_fields at h
  refine gg_lv (lv' := [(0, .ref (aa 0))]) [0] rfl ?_
  refine gg_aload_n hx hb 0 rfl rfl dX10_fields_0 ?_
  refine gg_get (C := RX10) (T := TX10) (N := 18) hx hb hts hown hK iX10_fields_X10 0 rfl rfl 5 (by decide) (List.mem_of_getElem? (i := 1) rfl) rfl dX10_fields_1 ?_
  refine gg_aload_n hx hb 0 rfl rfl dX10_fields_4 ?_
  refine gg_get (C := RX10) (T := TX10) (N := 18) hx hb hts hown hK iX10_fields_X10 0 rfl rfl 6 (by decide) (List.mem_of_getElem? (i := 2) rfl) rfl dX10_fields_5 ?_
  refine gg_imul hx hb dX10_fields_8 ?_
  exact gg_iret hx hb hr hlk ⟨rfl, h⟩ dX10_fields_9
abbrev rmX10_noField : Room := { frames := 1, cells := 0, slots := 0, locals := 25 }
theorem hd_X10_noField : (yX10_noField.cls = RX10 ∧ yX10_noField.cls ≠ "java/lang/invoke/MethodHandle" ∧ yX10_noField.cls ≠ "java/lang/invoke/VarHandle" ∧ (parseMethodDescriptor yX10_noField.desc).map (fun d => d.parameters.length) = some 1) := by decide +kernel
set_option maxRecDepth 100000 in
set_option maxHeartbeats 4000000 in
theorem c_X10_noField (l : Launch) (D : va_G) (aa : Nat → Nat) (cI cZ cJ : ClassId) (tR tU : Nat) (a1 : Int) (σ : xSt) (Post : Int → Prop) (h : wp_X10_noField a1 σ Post) : MI l D (tyL cI cZ cJ) (cM aa cI cZ cJ) tR tU yX10_noField wsX10_noField rmX10_noField [.ref (aa 0), .int (xI a1)] σ (fun r9 σ9 => σ9 = σ ∧ Post r9) := by
  refine mi_of (cc := cX10_noField) (maxL := 2) (ret := (some .boolean)) (by decide) rfl (Nat.le_of_ble_eq_true rfl) ?_
  intro p e s m args below meth c A hF
  obtain ⟨hx, hb, hr, hml, hown, hts, hlk, hK, hZ, hA⟩ := hF
  have hown : s.vm.findClass RX10 = some m.cls := hown
  delta wp_X10_noField at h
  refine gg_lv (lv' := [(0, .ref (aa 0)), (1, .int (xI a1))]) [0, 1] rfl ?_
  refine gg_iload_n hx hb 1 rfl rfl dX10_noField_0 ?_
  refine gg_i2l hx hb h.1 dX10_noField_1 ?_
  have h := h.2
  refine gg_lconst (z := 0) hx hb dX10_noField_2 rfl ?_
  refine gg_aload_n hx hb 0 rfl rfl dX10_noField_3 ?_
  refine gg_callVip (As := []) (rest := [.long (xJ 0), .long (xJ a1)]) hx hb hml hown hts hK hZ hA (c_X10_fields l D aa cI cZ cJ tR tU σ _ h) (cwV 0 hts gX10_noField_X10_fields rfl rfl rfl hd_X10_fields ⟨Nat.le_of_ble_eq_true rfl, Nat.le_of_ble_eq_true rfl⟩) 0 rfl rfl rfl rfl (Nat.le_of_ble_eq_true rfl) dX10_noField_4 (fun r4 h => ?_)
  refine gg_iconst hx hb dX10_noField_7 ?_
  refine gg_isub hx hb dX10_noField_8 ?_
  refine gg_i2l hx hb h.1 dX10_noField_9 ?_
  have h := h.2
  refine gg_callSip (As := [.long (xJ a1), .long (xJ 0), .long (xJ (r4 - 1))]) (rest := []) hx hb hml hown hts hK hZ hA (c_X10_in l D aa cI cZ cJ tR tU a1 0 (r4 - 1) σ _ h) (va_cwS 3 hts gX10_noField_X10_in rfl rfl rfl hd_X10_in ⟨Nat.le_of_ble_eq_true rfl, Nat.le_of_ble_eq_true rfl⟩) rfl rfl (Nat.le_of_ble_eq_true rfl) dX10_noField_10 (fun r10 h => ?_)
  refine gg_if_ne (tgt := 20) hx hb h.1 dX10_noField_13 rfl (fun c13 => ?_) (fun c13 => ?_)
  · have h := h.2.1 c13
    refine gg_iconst hx hb dX10_noField_20 ?_
    exact gg_zret hx hb hr hlk (Or.inl rfl) ⟨rfl, h⟩ dX10_noField_21
  · have h := h.2.2 c13
    refine gg_iconst hx hb dX10_noField_16 ?_
    refine gg_goto (tgt := 21) hx hb dX10_noField_17 rfl ?_
    exact gg_zret hx hb hr hlk (Or.inr rfl) ⟨rfl, h⟩ dX10_noField_21
abbrev rmX10_isThere : Room := { frames := 1, cells := 0, slots := 0, locals := 25 }
theorem iX10_isThere_X10 : ∀ w ∈ u_ws RX10 TX10 18, w ∈ wsX10_isThere := (fun _ h => List.mem_cons_of_mem _ (List.mem_append_right _ h))
theorem hd_X10_isThere : (yX10_isThere.cls = RX10 ∧ yX10_isThere.cls ≠ "java/lang/invoke/MethodHandle" ∧ yX10_isThere.cls ≠ "java/lang/invoke/VarHandle" ∧ (parseMethodDescriptor yX10_isThere.desc).map (fun d => d.parameters.length) = some 2) := by decide +kernel
set_option maxRecDepth 100000 in
set_option maxHeartbeats 4000000 in
theorem c_X10_isThere (l : Launch) (D : va_G) (aa : Nat → Nat) (cI cZ cJ : ClassId) (tR tU : Nat) (a1 : Int) (a2 : Int) (σ : xSt) (Post : Int → Prop) (h : wp_X10_isThere a1 a2 σ Post) : MI l D (tyL cI cZ cJ) (cM aa cI cZ cJ) tR tU yX10_isThere wsX10_isThere rmX10_isThere [.ref (aa 0), .int (xI a1), .int (xI a2)] σ (fun r9 σ9 => σ9 = σ ∧ Post r9) := by
  refine mi_of (cc := cX10_isThere) (maxL := 3) (ret := (some .boolean)) (by decide) rfl (Nat.le_of_ble_eq_true rfl) ?_
  intro p e s m args below meth c A hF
  obtain ⟨hx, hb, hr, hml, hown, hts, hlk, hK, hZ, hA⟩ := hF
  have hown : s.vm.findClass RX10 = some m.cls := hown
  delta wp_X10_isThere at h
  refine gg_lv (lv' := [(0, .ref (aa 0)), (1, .int (xI a1)), (2, .int (xI a2))]) [0, 1, 2] rfl ?_
  refine gg_iload_n hx hb 1 rfl rfl dX10_isThere_0 ?_
  refine gg_i2l hx hb h.1 dX10_isThere_1 ?_
  have h := h.2
  refine gg_lconst (z := 0) hx hb dX10_isThere_2 rfl ?_
  refine gg_aload_n hx hb 0 rfl rfl dX10_isThere_3 ?_
  refine gg_get (C := RX10) (T := TX10) (N := 18) hx hb hts hown hK iX10_isThere_X10 0 rfl rfl 5 (by decide) (List.mem_of_getElem? (i := 1) rfl) rfl dX10_isThere_4 ?_
  refine gg_iconst hx hb dX10_isThere_7 ?_
  refine gg_isub hx hb dX10_isThere_8 ?_
  refine gg_i2l hx hb h.1 dX10_isThere_9 ?_
  have h := h.2
  refine gg_callSip (As := [.long (xJ a1), .long (xJ 0), .long (xJ ((σ 0 5) - 1))]) (rest := []) hx hb hml hown hts hK hZ hA (c_X10_in l D aa cI cZ cJ tR tU a1 0 ((σ 0 5) - 1) σ _ h) (va_cwS 3 hts gX10_isThere_X10_in rfl rfl rfl hd_X10_in ⟨Nat.le_of_ble_eq_true rfl, Nat.le_of_ble_eq_true rfl⟩) rfl rfl (Nat.le_of_ble_eq_true rfl) dX10_isThere_10 (fun r10 h => ?_)
  refine gg_if_eq (tgt := 36) hx hb h.1 dX10_isThere_13 rfl (fun c13 => ?_) (fun c13 => ?_)
  · have h := h.2.1 c13
    refine gg_iconst hx hb dX10_isThere_36 ?_
    exact gg_zret hx hb hr hlk (Or.inl rfl) ⟨rfl, h⟩ dX10_isThere_37
  · have h := h.2.2 c13
    refine gg_iload_n hx hb 2 rfl rfl dX10_isThere_16 ?_
    refine gg_i2l hx hb h.1 dX10_isThere_17 ?_
    have h := h.2
    refine gg_lconst (z := 0) hx hb dX10_isThere_18 rfl ?_
    refine gg_aload_n hx hb 0 rfl rfl dX10_isThere_19 ?_
    refine gg_get (C := RX10) (T := TX10) (N := 18) hx hb hts hown hK iX10_isThere_X10 0 rfl rfl 6 (by decide) (List.mem_of_getElem? (i := 2) rfl) rfl dX10_isThere_20 ?_
    refine gg_iconst hx hb dX10_isThere_23 ?_
    refine gg_isub hx hb dX10_isThere_24 ?_
    refine gg_i2l hx hb h.1 dX10_isThere_25 ?_
    have h := h.2
    refine gg_callSip (As := [.long (xJ a2), .long (xJ 0), .long (xJ ((σ 0 6) - 1))]) (rest := []) hx hb hml hown hts hK hZ hA (c_X10_in l D aa cI cZ cJ tR tU a2 0 ((σ 0 6) - 1) σ _ h) (va_cwS 3 hts gX10_isThere_X10_in rfl rfl rfl hd_X10_in ⟨Nat.le_of_ble_eq_true rfl, Nat.le_of_ble_eq_true rfl⟩) rfl rfl (Nat.le_of_ble_eq_true rfl) dX10_isThere_26 (fun r26 h => ?_)
    refine gg_if_eq (tgt := 36) hx hb h.1 dX10_isThere_29 rfl (fun c29 => ?_) (fun c29 => ?_)
    · have h := h.2.1 c29
      refine gg_iconst hx hb dX10_isThere_36 ?_
      exact gg_zret hx hb hr hlk (Or.inl rfl) ⟨rfl, h⟩ dX10_isThere_37
    · have h := h.2.2 c29
      refine gg_iconst hx hb dX10_isThere_32 ?_
      refine gg_goto (tgt := 37) hx hb dX10_isThere_33 rfl ?_
      exact gg_zret hx hb hr hlk (Or.inr rfl) ⟨rfl, h⟩ dX10_isThere_37
abbrev rmX10_isOf : Room := { frames := 2, cells := 0, slots := 0, locals := 47 }
theorem iX10_isOf_X10 : ∀ w ∈ u_ws RX10 TX10 18, w ∈ wsX10_isOf := (fun _ h => List.mem_cons_of_mem _ (List.mem_append_right _ h))
theorem hd_X10_isOf : (yX10_isOf.cls = RX10 ∧ yX10_isOf.cls ≠ "java/lang/invoke/MethodHandle" ∧ yX10_isOf.cls ≠ "java/lang/invoke/VarHandle" ∧ (parseMethodDescriptor yX10_isOf.desc).map (fun d => d.parameters.length) = some 2) := by decide +kernel
set_option maxRecDepth 100000 in
set_option maxHeartbeats 4000000 in
theorem c_X10_isOf (l : Launch) (D : va_G) (aa : Nat → Nat) (cI cZ cJ : ClassId) (tR tU : Nat) (a1 : Int) (a2 : Int) (σ : xSt) (Post : Int → Prop) (h : wp_X10_isOf a1 a2 σ Post) : MI l D (tyL cI cZ cJ) (cM aa cI cZ cJ) tR tU yX10_isOf wsX10_isOf rmX10_isOf [.ref (aa 0), .int (xI a1), .int (xI a2)] σ (fun r9 σ9 => σ9 = σ ∧ Post r9) := by
  refine mi_of (cc := cX10_isOf) (maxL := 3) (ret := (some .boolean)) (by decide) rfl (Nat.le_of_ble_eq_true rfl) ?_
  intro p e s m args below meth c A hF
  obtain ⟨hx, hb, hr, hml, hown, hts, hlk, hK, hZ, hA⟩ := hF
  have hown : s.vm.findClass RX10 = some m.cls := hown
  delta wp_X10_isOf at h
  refine gg_lv (lv' := [(0, .ref (aa 0)), (1, .int (xI a1)), (2, .int (xI a2))]) [0, 1, 2] rfl ?_
  refine gg_aload_n hx hb 0 rfl rfl dX10_isOf_0 ?_
  refine gg_iload_n hx hb 1 rfl rfl dX10_isOf_1 ?_
  refine gg_iload_n hx hb 2 rfl rfl dX10_isOf_2 ?_
  refine gg_callVip (As := [.int (xI a1), .int (xI a2)]) (rest := []) hx hb hml hown hts hK hZ hA (c_X10_isThere l D aa cI cZ cJ tR tU a1 a2 σ _ h) (cwV 2 hts gX10_isOf_X10_isThere rfl rfl rfl hd_X10_isThere ⟨Nat.le_of_ble_eq_true rfl, Nat.le_of_ble_eq_true rfl⟩) 0 rfl rfl rfl rfl (Nat.le_of_ble_eq_true rfl) dX10_isOf_3 (fun r3 h => ?_)
  refine gg_if_eq (tgt := 29) hx hb h.1 dX10_isOf_6 rfl (fun c6 => ?_) (fun c6 => ?_)
  · have h := h.2.1 c6
    refine gg_iconst hx hb dX10_isOf_29 ?_
    exact gg_zret hx hb hr hlk (Or.inl rfl) ⟨rfl, h⟩ dX10_isOf_30
  · have h := h.2.2 c6
    refine gg_aload_n hx hb 0 rfl rfl dX10_isOf_9 ?_
    refine gg_get (C := RX10) (T := TX10) (N := 18) hx hb hts hown hK iX10_isOf_X10 0 rfl rfl 7 (by decide) (List.mem_of_getElem? (i := 1) rfl) rfl dX10_isOf_10 ?_
    refine gg_iload_n hx hb 2 rfl rfl dX10_isOf_13 ?_
    refine gg_aload_n hx hb 0 rfl rfl dX10_isOf_14 ?_
    refine gg_get (C := RX10) (T := TX10) (N := 18) hx hb hts hown hK iX10_isOf_X10 0 rfl rfl 5 (by decide) (List.mem_of_getElem? (i := 2) rfl) rfl dX10_isOf_15 ?_
    refine gg_imul hx hb dX10_isOf_18 ?_
    refine gg_iload_n hx hb 1 rfl rfl dX10_isOf_19 ?_
    refine gg_iadd hx hb dX10_isOf_20 ?_
    refine gg_zald hx hb hK 4 1 rfl rfl (by decide) h.1 dX10_isOf_21 ?_
    have h := h.2
    refine gg_if_eq (tgt := 29) hx hb h.1 dX10_isOf_22 rfl (fun c22 => ?_) (fun c22 => ?_)
    · have h := h.2.1 c22
      refine gg_iconst hx hb dX10_isOf_29 ?_
      exact gg_zret hx hb hr hlk (Or.inl rfl) ⟨rfl, h⟩ dX10_isOf_30
    · have h := h.2.2 c22
      refine gg_iconst hx hb dX10_isOf_25 ?_
      refine gg_goto (tgt := 30) hx hb dX10_isOf_26 rfl ?_
      exact gg_zret hx hb hr hlk (Or.inr rfl) ⟨rfl, h⟩ dX10_isOf_30
abbrev rmX10_onEdge : Room := { frames := 0, cells := 0, slots := 0, locals := 0 }
theorem iX10_onEdge_X10 : ∀ w ∈ u_ws RX10 TX10 18, w ∈ wsX10_onEdge := (fun _ h => List.mem_cons_of_mem _ (List.mem_append_right _ h))
theorem hd_X10_onEdge : (yX10_onEdge.cls = RX10 ∧ yX10_onEdge.cls ≠ "java/lang/invoke/MethodHandle" ∧ yX10_onEdge.cls ≠ "java/lang/invoke/VarHandle" ∧ (parseMethodDescriptor yX10_onEdge.desc).map (fun d => d.parameters.length) = some 1) := by decide +kernel
set_option maxRecDepth 100000 in
set_option maxHeartbeats 4000000 in
theorem c_X10_onEdge (l : Launch) (D : va_G) (aa : Nat → Nat) (cI cZ cJ : ClassId) (tR tU : Nat) (a1 : Int) (σ : xSt) (Post : Int → Prop) (h : wp_X10_onEdge a1 σ Post) : MI l D (tyL cI cZ cJ) (cM aa cI cZ cJ) tR tU yX10_onEdge wsX10_onEdge rmX10_onEdge [.ref (aa 0), .int (xI a1)] σ (fun r9 σ9 => σ9 = σ ∧ Post r9) := by
  refine mi_of (cc := cX10_onEdge) (maxL := 4) (ret := (some .boolean)) (by decide) rfl (Nat.le_of_ble_eq_true rfl) ?_
  intro p e s m args below meth c A hF
  obtain ⟨hx, hb, hr, hml, hown, hts, hlk, hK, hZ, hA⟩ := hF
  have hown : s.vm.findClass RX10 = some m.cls := hown
  delta wp_X10_onEdge at h
  refine gg_lv (lv' := [(0, .ref (aa 0)), (1, .int (xI a1))]) [0, 1] rfl ?_
  refine gg_iload_n hx hb 1 rfl rfl dX10_onEdge_0 ?_
  refine gg_aload_n hx hb 0 rfl rfl dX10_onEdge_1 ?_
  refine gg_get (C := RX10) (T := TX10) (N := 18) hx hb hts hown hK iX10_onEdge_X10 0 rfl rfl 5 (by decide) (List.mem_of_getElem? (i := 1) rfl) rfl dX10_onEdge_2 ?_
  refine gg_irem hx hb h.1 h.2.1 h.2.2.1 dX10_onEdge_5 ?_
  have h := h.2.2.2
  refine gg_istore_n (lv' := [(2, .int (xI (Int.tmod a1 (σ 0 5)))), (0, .ref (aa 0)), (1, .int (xI a1))]) hx hb rfl (by decide) rfl dX10_onEdge_6 ?_
  refine gg_iload_n hx hb 2 rfl rfl dX10_onEdge_7 ?_
  refine gg_aload_n hx hb 1 rfl rfl dX10_onEdge_8 ?_
  refine gg_get (C := RX10) (T := TX10) (N := 18) hx hb hts hown hK iX10_onEdge_X10 0 rfl rfl 5 (by decide) (List.mem_of_getElem? (i := 1) rfl) rfl dX10_onEdge_9 ?_
  refine gg_idiv hx hb h.1 h.2.1 h.2.2.1 dX10_onEdge_12 ?_
  have h := h.2.2.2
  refine gg_istore_n (lv' := [(3, .int (xI (Int.tdiv a1 (σ 0 5)))), (2, .int (xI (Int.tmod a1 (σ 0 5)))), (0, .ref (aa 0)), (1, .int (xI a1))]) hx hb rfl (by decide) rfl dX10_onEdge_13 ?_
  refine gg_iload_n hx hb 1 rfl rfl dX10_onEdge_14 ?_
  refine gg_if_eq (tgt := 42) hx hb h.1 dX10_onEdge_15 rfl (fun c15 => ?_) (fun c15 => ?_)
  · have h := h.2.1 c15
    refine gg_iconst hx hb dX10_onEdge_42 ?_
    refine gg_goto (tgt := 47) hx hb dX10_onEdge_43 rfl ?_
    exact gg_zret hx hb hr hlk (Or.inr rfl) ⟨rfl, h⟩ dX10_onEdge_47
  · have h := h.2.2 c15
    refine gg_iload_n hx hb 0 rfl rfl dX10_onEdge_18 ?_
    refine gg_if_eq (tgt := 42) hx hb h.1 dX10_onEdge_19 rfl (fun c19 => ?_) (fun c19 => ?_)
    · have h := h.2.1 c19
      refine gg_iconst hx hb dX10_onEdge_42 ?_
      refine gg_goto (tgt := 47) hx hb dX10_onEdge_43 rfl ?_
      exact gg_zret hx hb hr hlk (Or.inr rfl) ⟨rfl, h⟩ dX10_onEdge_47
    · have h := h.2.2 c19
      refine gg_iload_n hx hb 1 rfl rfl dX10_onEdge_22 ?_
      refine gg_aload_n hx hb 2 rfl rfl dX10_onEdge_23 ?_
      refine gg_get (C := RX10) (T := TX10) (N := 18) hx hb hts hown hK iX10_onEdge_X10 0 rfl rfl 5 (by decide) (List.mem_of_getElem? (i := 1) rfl) rfl dX10_onEdge_24 ?_
      refine gg_iconst hx hb dX10_onEdge_27 ?_
      refine gg_isub hx hb dX10_onEdge_28 ?_
      refine gg_icmp_eq (tgt := 42) hx hb h.1 h.2.1 dX10_onEdge_29 rfl (fun c29 => ?_) (fun c29 => ?_)
      · have h := h.2.2.1 c29
        refine gg_iconst hx hb dX10_onEdge_42 ?_
        refine gg_goto (tgt := 47) hx hb dX10_onEdge_43 rfl ?_
        exact gg_zret hx hb hr hlk (Or.inr rfl) ⟨rfl, h⟩ dX10_onEdge_47
      · have h := h.2.2.2 c29
        refine gg_iload_n hx hb 0 rfl rfl dX10_onEdge_32 ?_
        refine gg_aload_n hx hb 2 rfl rfl dX10_onEdge_33 ?_
        refine gg_get (C := RX10) (T := TX10) (N := 18) hx hb hts hown hK iX10_onEdge_X10 0 rfl rfl 6 (by decide) (List.mem_of_getElem? (i := 2) rfl) rfl dX10_onEdge_34 ?_
        refine gg_iconst hx hb dX10_onEdge_37 ?_
        refine gg_isub hx hb dX10_onEdge_38 ?_
        refine gg_icmp_ne (tgt := 46) hx hb h.1 h.2.1 dX10_onEdge_39 rfl (fun c39 => ?_) (fun c39 => ?_)
        · have h := h.2.2.1 c39
          refine gg_iconst hx hb dX10_onEdge_46 ?_
          exact gg_zret hx hb hr hlk (Or.inl rfl) ⟨rfl, h⟩ dX10_onEdge_47
        · have h := h.2.2.2 c39
          refine gg_iconst hx hb dX10_onEdge_42 ?_
          refine gg_goto (tgt := 47) hx hb dX10_onEdge_43 rfl ?_
          exact gg_zret hx hb hr hlk (Or.inr rfl) ⟨rfl, h⟩ dX10_onEdge_47
abbrev rmX10_many : Room := { frames := 1, cells := 0, slots := 0, locals := 20 }
theorem iX10_many_X10 : ∀ w ∈ u_ws RX10 TX10 18, w ∈ wsX10_many := (fun _ h => List.mem_cons_of_mem _ (List.mem_append_right _ h))
theorem hd_X10_many : (yX10_many.cls = RX10 ∧ yX10_many.cls ≠ "java/lang/invoke/MethodHandle" ∧ yX10_many.cls ≠ "java/lang/invoke/VarHandle" ∧ (parseMethodDescriptor yX10_many.desc).map (fun d => d.parameters.length) = some 0) := by decide +kernel
set_option maxRecDepth 100000 in
set_option maxHeartbeats 4000000 in
theorem c_X10_many (l : Launch) (D : va_G) (aa : Nat → Nat) (cI cZ cJ : ClassId) (tR tU : Nat) (σ : xSt) (Post : Int → Prop) (h : wp_X10_many σ Post) : MI l D (tyL cI cZ cJ) (cM aa cI cZ cJ) tR tU yX10_many wsX10_many rmX10_many [.ref (aa 0)] σ (fun r9 σ9 => σ9 = σ ∧ Post r9) := by
  refine mi_of (cc := cX10_many) (maxL := 3) (ret := (some .int)) (by decide) rfl (Nat.le_of_ble_eq_true rfl) ?_
  intro p e s m args below meth c A hF
  obtain ⟨hx, hb, hr, hml, hown, hts, hlk, hK, hZ, hA⟩ := hF
  have hown : s.vm.findClass RX10 = some m.cls := hown
  delta wp_X10_many at h
  refine gg_lv (lv' := [(0, .ref (aa 0))]) [0] rfl ?_
  refine gg_iconst hx hb dX10_many_0 ?_
  refine gg_istore_n (lv' := [(1, .int (xI 0)), (0, .ref (aa 0))]) hx hb rfl (by decide) rfl dX10_many_1 ?_
  refine gg_iconst hx hb dX10_many_2 ?_
  refine gg_istore_n (lv' := [(2, .int (xI 0)), (1, .int (xI 0)), (0, .ref (aa 0))]) hx hb rfl (by decide) rfl dX10_many_3 ?_
  have h := h (fun (x1_4 x2_4 : Int) => GG p l e rmX10_many s m args below meth c (QI below D (cM aa cI cZ cJ) A args s (fun r9 σ9 => σ9 = σ ∧ Post r9)) A D (cM aa cI cZ cJ) 3 σ 4 [(0, .ref (aa 0)), (1, .int (xI x1_4)), (2, .int (xI x2_4))] [])
  have h := h (by
    intro x1_4 x2_4 h
    refine gg_iload_n hx hb 2 rfl rfl dX10_many_4 ?_
    refine gg_aload_n hx hb 0 rfl rfl dX10_many_5 ?_
    refine gg_callVip (As := []) (rest := [.int (xI x2_4)]) hx hb hml hown hts hK hZ hA (c_X10_fields l D aa cI cZ cJ tR tU σ _ h) (cwV 0 hts gX10_many_X10_fields rfl rfl rfl hd_X10_fields ⟨Nat.le_of_ble_eq_true rfl, Nat.le_of_ble_eq_true rfl⟩) 0 rfl rfl rfl rfl (Nat.le_of_ble_eq_true rfl) dX10_many_6 (fun r6 h => ?_)
    refine gg_icmp_ge (tgt := 35) hx hb h.1 h.2.1 dX10_many_9 rfl (fun c9 => ?_) (fun c9 => ?_)
    · have h := h.2.2.1 c9
      refine gg_iload_n hx hb 1 rfl rfl dX10_many_35 ?_
      exact gg_iret hx hb hr hlk ⟨rfl, h⟩ dX10_many_36
    · have h := h.2.2.2 c9
      refine gg_iload_n hx hb 1 rfl rfl dX10_many_12 ?_
      refine gg_aload_n hx hb 0 rfl rfl dX10_many_13 ?_
      refine gg_get (C := RX10) (T := TX10) (N := 18) hx hb hts hown hK iX10_many_X10 0 rfl rfl 7 (by decide) (List.mem_of_getElem? (i := 1) rfl) rfl dX10_many_14 ?_
      refine gg_iload_n hx hb 2 rfl rfl dX10_many_17 ?_
      refine gg_zald hx hb hK 4 1 rfl rfl (by decide) h.1 dX10_many_18 ?_
      have h := h.2
      refine gg_if_eq (tgt := 26) hx hb h.1 dX10_many_19 rfl (fun c19 => ?_) (fun c19 => ?_)
      · have h := h.2.1 c19
        refine gg_iconst hx hb dX10_many_26 ?_
        refine gg_iadd hx hb dX10_many_27 ?_
        refine gg_istore_n (lv' := [(1, .int (xI (x1_4 + 0))), (0, .ref (aa 0)), (2, .int (xI x2_4))]) hx hb rfl (by decide) rfl dX10_many_28 ?_
        refine gg_iinc (lv' := [(2, .int (xI (x2_4 + 1))), (1, .int (xI (x1_4 + 0))), (0, .ref (aa 0))]) hx hb 2 rfl (by decide) rfl dX10_many_29 ?_
        refine gg_goto (tgt := 4) hx hb dX10_many_32 rfl ?_
        refine gg_lv [2, 1, 0] rfl ?_
        exact h
      · have h := h.2.2 c19
        refine gg_iconst hx hb dX10_many_22 ?_
        refine gg_goto (tgt := 27) hx hb dX10_many_23 rfl ?_
        refine gg_iadd hx hb dX10_many_27 ?_
        refine gg_istore_n (lv' := [(1, .int (xI (x1_4 + 1))), (0, .ref (aa 0)), (2, .int (xI x2_4))]) hx hb rfl (by decide) rfl dX10_many_28 ?_
        refine gg_iinc (lv' := [(2, .int (xI (x2_4 + 1))), (1, .int (xI (x1_4 + 1))), (0, .ref (aa 0))]) hx hb 2 rfl (by decide) rfl dX10_many_29 ?_
        refine gg_goto (tgt := 4) hx hb dX10_many_32 rfl ?_
        refine gg_lv [2, 1, 0] rfl ?_
        exact h)
  refine gg_lv [2, 1, 0] rfl ?_
  exact h
abbrev rmX10_ground : Room := { frames := 1, cells := 0, slots := 0, locals := 25 }
theorem iX10_ground_X10 : ∀ w ∈ u_ws RX10 TX10 18, w ∈ wsX10_ground := (fun _ h => List.mem_cons_of_mem _ (List.mem_append_right _ h))
theorem hd_X10_ground : (yX10_ground.cls = RX10 ∧ yX10_ground.cls ≠ "java/lang/invoke/MethodHandle" ∧ yX10_ground.cls ≠ "java/lang/invoke/VarHandle" ∧ (parseMethodDescriptor yX10_ground.desc).map (fun d => d.parameters.length) = some 2) := by decide +kernel
set_option maxRecDepth 100000 in
set_option maxHeartbeats 4000000 in
theorem c_X10_ground (l : Launch) (D : va_G) (aa : Nat → Nat) (cI cZ cJ : ClassId) (tR tU : Nat) (a1 : Int) (a2 : Int) (σ : xSt) (Post : Int → xSt → Prop) (h : wp_X10_ground a1 a2 σ Post) : MI l D (tyL cI cZ cJ) (cM aa cI cZ cJ) tR tU yX10_ground wsX10_ground rmX10_ground [.ref (aa 0), .int (xI a1), .int (xI a2)] σ Post := by
  refine mi_of (cc := cX10_ground) (maxL := 4) (ret := (some .int)) (by decide) rfl (Nat.le_of_ble_eq_true rfl) ?_
  intro p e s m args below meth c A hF
  obtain ⟨hx, hb, hr, hml, hown, hts, hlk, hK, hZ, hA⟩ := hF
  have hown : s.vm.findClass RX10 = some m.cls := hown
  delta wp_X10_ground at h
  refine gg_lv (lv' := [(0, .ref (aa 0)), (1, .int (xI a1)), (2, .int (xI a2))]) [0, 1, 2] rfl ?_
  refine gg_aload_n hx hb 0 rfl rfl dX10_ground_0 ?_
  refine gg_iconst hx hb dX10_ground_1 ?_
  refine gg_put (C := RX10) (T := TX10) (N := 18) hx hb hts hown hK iX10_ground_X10 tyX10 tyX10_ok nmX10 0 rfl rfl 0 (by decide) (List.mem_of_getElem? (i := 1) rfl) rfl rfl (Nat.le_of_ble_eq_true rfl) (cM_set_0_0 aa cI cZ cJ _ _) dX10_ground_2 (fun σ_2 e2 => ?_)
  have h := h σ_2 e2
  refine gg_iload_n hx hb 1 rfl rfl dX10_ground_5 ?_
  refine gg_i2l hx hb h.1 dX10_ground_6 ?_
  have h := h.2
  refine gg_lconst (z := 1) hx hb dX10_ground_7 rfl ?_
  refine gg_ldc2 hx hb (12) hown (hts _ (List.mem_of_getElem? (i := 2) rfl)) rfl dX10_ground_8 ?_
  refine gg_callSip (As := [.long (xJ a1), .long (xJ 1), .long (xJ 12)]) (rest := []) hx hb hml hown hts hK hZ hA (c_X10_in l D aa cI cZ cJ tR tU a1 1 12 σ_2 _ h) (va_cwS 3 hts gX10_ground_X10_in rfl rfl rfl hd_X10_in ⟨Nat.le_of_ble_eq_true rfl, Nat.le_of_ble_eq_true rfl⟩) rfl rfl (Nat.le_of_ble_eq_true rfl) dX10_ground_11 (fun r11 h => ?_)
  refine gg_if_eq (tgt := 29) hx hb h.1 dX10_ground_14 rfl (fun c14 => ?_) (fun c14 => ?_)
  · have h := h.2.1 c14
    refine gg_sipush hx hb dX10_ground_29 rfl ?_
    exact gg_iret hx hb hr hlk h dX10_ground_32
  · have h := h.2.2 c14
    refine gg_iload_n hx hb 2 rfl rfl dX10_ground_17 ?_
    refine gg_i2l hx hb h.1 dX10_ground_18 ?_
    have h := h.2
    refine gg_lconst (z := 1) hx hb dX10_ground_19 rfl ?_
    refine gg_ldc2 hx hb (12) hown (hts _ (List.mem_of_getElem? (i := 2) rfl)) rfl dX10_ground_20 ?_
    refine gg_callSip (As := [.long (xJ a2), .long (xJ 1), .long (xJ 12)]) (rest := []) hx hb hml hown hts hK hZ hA (c_X10_in l D aa cI cZ cJ tR tU a2 1 12 σ_2 _ h) (va_cwS 3 hts gX10_ground_X10_in rfl rfl rfl hd_X10_in ⟨Nat.le_of_ble_eq_true rfl, Nat.le_of_ble_eq_true rfl⟩) rfl rfl (Nat.le_of_ble_eq_true rfl) dX10_ground_23 (fun r23 h => ?_)
    refine gg_if_ne (tgt := 33) hx hb h.1 dX10_ground_26 rfl (fun c26 => ?_) (fun c26 => ?_)
    · have h := h.2.1 c26
      refine gg_aload_n hx hb 0 rfl rfl dX10_ground_33 ?_
      refine gg_iload_n hx hb 1 rfl rfl dX10_ground_34 ?_
      refine gg_put (C := RX10) (T := TX10) (N := 18) hx hb hts hown hK iX10_ground_X10 tyX10 tyX10_ok nmX10 0 rfl rfl 5 (by decide) (List.mem_of_getElem? (i := 3) rfl) rfl rfl (Nat.le_of_ble_eq_true rfl) (cM_set_0_5 aa cI cZ cJ _ _) dX10_ground_35 (fun σ_35 e35 => ?_)
      have h := h σ_35 e35
      refine gg_aload_n hx hb 0 rfl rfl dX10_ground_38 ?_
      refine gg_iload_n hx hb 2 rfl rfl dX10_ground_39 ?_
      refine gg_put (C := RX10) (T := TX10) (N := 18) hx hb hts hown hK iX10_ground_X10 tyX10 tyX10_ok nmX10 0 rfl rfl 6 (by decide) (List.mem_of_getElem? (i := 4) rfl) rfl rfl (Nat.le_of_ble_eq_true rfl) (cM_set_0_6 aa cI cZ cJ _ _) dX10_ground_40 (fun σ_40 e40 => ?_)
      have h := h σ_40 e40
      refine gg_iconst hx hb dX10_ground_43 ?_
      refine gg_istore_n (lv' := [(3, .int (xI 0)), (0, .ref (aa 0)), (1, .int (xI a1)), (2, .int (xI a2))]) hx hb rfl (by decide) rfl dX10_ground_44 ?_
      have h := h (fun (x3_45 : Int) (s45 : xSt) => GG p l e rmX10_ground s m args below meth c (QI below D (cM aa cI cZ cJ) A args s Post) A D (cM aa cI cZ cJ) 4 s45 45 [(0, .ref (aa 0)), (1, .int (xI a1)), (2, .int (xI a2)), (3, .int (xI x3_45))] [])
      have h := h (by
        intro x3_45 s45 h
        refine gg_iload_n hx hb 3 rfl rfl dX10_ground_45 ?_
        refine gg_sipush hx hb dX10_ground_46 rfl ?_
        refine gg_icmp_ge (tgt := 65) hx hb h.1 (by decide) dX10_ground_49 rfl (fun c49 => ?_) (fun c49 => ?_)
        · have h := h.2.1 c49
          refine gg_iload_n hx hb 1 rfl rfl dX10_ground_65 ?_
          refine gg_iload_n hx hb 2 rfl rfl dX10_ground_66 ?_
          refine gg_imul hx hb dX10_ground_67 ?_
          exact gg_iret hx hb hr hlk h dX10_ground_68
        · have h := h.2.2 c49
          refine gg_aload_n hx hb 0 rfl rfl dX10_ground_52 ?_
          refine gg_get (C := RX10) (T := TX10) (N := 18) hx hb hts hown hK iX10_ground_X10 0 rfl rfl 7 (by decide) (List.mem_of_getElem? (i := 5) rfl) rfl dX10_ground_53 ?_
          refine gg_iload_n hx hb 3 rfl rfl dX10_ground_56 ?_
          refine gg_iconst hx hb dX10_ground_57 ?_
          refine gg_zast hx hb hK 4 1 rfl rfl (cM_st_4 aa cI cZ cJ _ _) (by decide) h.1 (Or.inl rfl) dX10_ground_58 (fun σ_58 e58 => ?_)
          have h := h.2 σ_58 e58
          refine gg_iinc (lv' := [(3, .int (xI (x3_45 + 1))), (0, .ref (aa 0)), (1, .int (xI a1)), (2, .int (xI a2))]) hx hb 3 rfl (by decide) rfl dX10_ground_59 ?_
          refine gg_goto (tgt := 45) hx hb dX10_ground_62 rfl ?_
          refine gg_lv [1, 2, 3, 0] rfl ?_
          exact h)
      refine gg_lv [1, 2, 3, 0] rfl ?_
      exact h
    · have h := h.2.2 c26
      refine gg_sipush hx hb dX10_ground_29 rfl ?_
      exact gg_iret hx hb hr hlk h dX10_ground_32
abbrev rmX10_set : Room := { frames := 2, cells := 0, slots := 0, locals := 46 }
theorem iX10_set_X10 : ∀ w ∈ u_ws RX10 TX10 18, w ∈ wsX10_set := (fun _ h => List.mem_cons_of_mem _ (List.mem_append_right _ h))
theorem hd_X10_set : (yX10_set.cls = RX10 ∧ yX10_set.cls ≠ "java/lang/invoke/MethodHandle" ∧ yX10_set.cls ≠ "java/lang/invoke/VarHandle" ∧ (parseMethodDescriptor yX10_set.desc).map (fun d => d.parameters.length) = some 2) := by decide +kernel
set_option maxRecDepth 100000 in
set_option maxHeartbeats 4000000 in
theorem c_X10_set (l : Launch) (D : va_G) (aa : Nat → Nat) (cI cZ cJ : ClassId) (tR tU : Nat) (a1 : Int) (a2 : Int) (σ : xSt) (Post : Int → xSt → Prop) (h : wp_X10_set a1 a2 σ Post) : MI l D (tyL cI cZ cJ) (cM aa cI cZ cJ) tR tU yX10_set wsX10_set rmX10_set [.ref (aa 0), .int (xI a1), .int (xI a2)] σ Post := by
  refine mi_of (cc := cX10_set) (maxL := 4) (ret := (some .int)) (by decide) rfl (Nat.le_of_ble_eq_true rfl) ?_
  intro p e s m args below meth c A hF
  obtain ⟨hx, hb, hr, hml, hown, hts, hlk, hK, hZ, hA⟩ := hF
  have hown : s.vm.findClass RX10 = some m.cls := hown
  delta wp_X10_set at h
  refine gg_lv (lv' := [(0, .ref (aa 0)), (1, .int (xI a1)), (2, .int (xI a2))]) [0, 1, 2] rfl ?_
  refine gg_aload_n hx hb 0 rfl rfl dX10_set_0 ?_
  refine gg_iconst hx hb dX10_set_1 ?_
  refine gg_put (C := RX10) (T := TX10) (N := 18) hx hb hts hown hK iX10_set_X10 tyX10 tyX10_ok nmX10 0 rfl rfl 0 (by decide) (List.mem_of_getElem? (i := 1) rfl) rfl rfl (Nat.le_of_ble_eq_true rfl) (cM_set_0_0 aa cI cZ cJ _ _) dX10_set_2 (fun σ_2 e2 => ?_)
  have h := h σ_2 e2
  refine gg_aload_n hx hb 0 rfl rfl dX10_set_5 ?_
  refine gg_iload_n hx hb 1 rfl rfl dX10_set_6 ?_
  refine gg_callVip (As := [.int (xI a1)]) (rest := []) hx hb hml hown hts hK hZ hA (c_X10_noField l D aa cI cZ cJ tR tU a1 σ_2 _ h) (cwV 1 hts gX10_set_X10_noField rfl rfl rfl hd_X10_noField ⟨Nat.le_of_ble_eq_true rfl, Nat.le_of_ble_eq_true rfl⟩) 0 rfl rfl rfl rfl (Nat.le_of_ble_eq_true rfl) dX10_set_7 (fun r7 h => ?_)
  refine gg_if_eq (tgt := 17) hx hb h.1 dX10_set_10 rfl (fun c10 => ?_) (fun c10 => ?_)
  · have h := h.2.1 c10
    refine gg_aload_n hx hb 0 rfl rfl dX10_set_17 ?_
    refine gg_get (C := RX10) (T := TX10) (N := 18) hx hb hts hown hK iX10_set_X10 0 rfl rfl 7 (by decide) (List.mem_of_getElem? (i := 2) rfl) rfl dX10_set_18 ?_
    refine gg_iload_n hx hb 1 rfl rfl dX10_set_21 ?_
    refine gg_zald hx hb hK 4 1 rfl rfl (by decide) h.1 dX10_set_22 ?_
    have h := h.2
    have h := h (fun (y0_31 : Int) => GG p l e rmX10_set s m args below meth c (QI below D (cM aa cI cZ cJ) A args s Post) A D (cM aa cI cZ cJ) 4 σ_2 31 [(0, .ref (aa 0)), (1, .int (xI a1)), (2, .int (xI a2))] [.int (xI y0_31)])
    have h := h (by
      intro y0_31 h
      refine gg_istore_n (lv' := [(3, .int (xI y0_31)), (0, .ref (aa 0)), (1, .int (xI a1)), (2, .int (xI a2))]) hx hb rfl (by decide) rfl dX10_set_31 ?_
      refine gg_aload_n hx hb 1 rfl rfl dX10_set_32 ?_
      refine gg_get (C := RX10) (T := TX10) (N := 18) hx hb hts hown hK iX10_set_X10 0 rfl rfl 7 (by decide) (List.mem_of_getElem? (i := 2) rfl) rfl dX10_set_33 ?_
      refine gg_iload_n hx hb 2 rfl rfl dX10_set_36 ?_
      refine gg_iload_n hx hb 3 rfl rfl dX10_set_37 ?_
      refine gg_zast hx hb hK 4 1 rfl rfl (cM_st_4 aa cI cZ cJ _ _) (by decide) h.1 h.2.1 dX10_set_38 (fun σ_38 e38 => ?_)
      have h := h.2.2 σ_38 e38
      refine gg_iload_n hx hb 0 rfl rfl dX10_set_39 ?_
      exact gg_iret hx hb hr hlk h dX10_set_40)
    refine gg_if_eq (tgt := 30) hx hb h.1 dX10_set_23 rfl (fun c23 => ?_) (fun c23 => ?_)
    · have h := h.2.1 c23
      refine gg_iconst hx hb dX10_set_30 ?_
      exact h
    · have h := h.2.2 c23
      refine gg_iconst hx hb dX10_set_26 ?_
      refine gg_goto (tgt := 31) hx hb dX10_set_27 rfl ?_
      exact h
  · have h := h.2.2 c10
    refine gg_sipush hx hb dX10_set_13 rfl ?_
    exact gg_iret hx hb hr hlk h dX10_set_16
abbrev rmX10_has : Room := { frames := 2, cells := 0, slots := 0, locals := 46 }
theorem iX10_has_X10 : ∀ w ∈ u_ws RX10 TX10 18, w ∈ wsX10_has := (fun _ h => List.mem_cons_of_mem _ (List.mem_append_right _ h))
theorem hd_X10_has : (yX10_has.cls = RX10 ∧ yX10_has.cls ≠ "java/lang/invoke/MethodHandle" ∧ yX10_has.cls ≠ "java/lang/invoke/VarHandle" ∧ (parseMethodDescriptor yX10_has.desc).map (fun d => d.parameters.length) = some 1) := by decide +kernel
set_option maxRecDepth 100000 in
set_option maxHeartbeats 4000000 in
theorem c_X10_has (l : Launch) (D : va_G) (aa : Nat → Nat) (cI cZ cJ : ClassId) (tR tU : Nat) (a1 : Int) (σ : xSt) (Post : Int → xSt → Prop) (h : wp_X10_has a1 σ Post) : MI l D (tyL cI cZ cJ) (cM aa cI cZ cJ) tR tU yX10_has wsX10_has rmX10_has [.ref (aa 0), .int (xI a1)] σ Post := by
  refine mi_of (cc := cX10_has) (maxL := 2) (ret := (some .int)) (by decide) rfl (Nat.le_of_ble_eq_true rfl) ?_
  intro p e s m args below meth c A hF
  obtain ⟨hx, hb, hr, hml, hown, hts, hlk, hK, hZ, hA⟩ := hF
  have hown : s.vm.findClass RX10 = some m.cls := hown
  delta wp_X10_has at h
  refine gg_lv (lv' := [(0, .ref (aa 0)), (1, .int (xI a1))]) [0, 1] rfl ?_
  refine gg_aload_n hx hb 0 rfl rfl dX10_has_0 ?_
  refine gg_iconst hx hb dX10_has_1 ?_
  refine gg_put (C := RX10) (T := TX10) (N := 18) hx hb hts hown hK iX10_has_X10 tyX10 tyX10_ok nmX10 0 rfl rfl 0 (by decide) (List.mem_of_getElem? (i := 1) rfl) rfl rfl (Nat.le_of_ble_eq_true rfl) (cM_set_0_0 aa cI cZ cJ _ _) dX10_has_2 (fun σ_2 e2 => ?_)
  have h := h σ_2 e2
  refine gg_aload_n hx hb 0 rfl rfl dX10_has_5 ?_
  refine gg_iload_n hx hb 1 rfl rfl dX10_has_6 ?_
  refine gg_callVip (As := [.int (xI a1)]) (rest := []) hx hb hml hown hts hK hZ hA (c_X10_noField l D aa cI cZ cJ tR tU a1 σ_2 _ h) (cwV 1 hts gX10_has_X10_noField rfl rfl rfl hd_X10_noField ⟨Nat.le_of_ble_eq_true rfl, Nat.le_of_ble_eq_true rfl⟩) 0 rfl rfl rfl rfl (Nat.le_of_ble_eq_true rfl) dX10_has_7 (fun r7 h => ?_)
  refine gg_if_eq (tgt := 19) hx hb h.1 dX10_has_10 rfl (fun c10 => ?_) (fun c10 => ?_)
  · have h := h.2.1 c10
    refine gg_aload_n hx hb 0 rfl rfl dX10_has_19 ?_
    refine gg_get (C := RX10) (T := TX10) (N := 18) hx hb hts hown hK iX10_has_X10 0 rfl rfl 7 (by decide) (List.mem_of_getElem? (i := 2) rfl) rfl dX10_has_20 ?_
    refine gg_iload_n hx hb 1 rfl rfl dX10_has_23 ?_
    refine gg_zald hx hb hK 4 1 rfl rfl (by decide) h.1 dX10_has_24 ?_
    have h := h.2
    refine gg_if_eq (tgt := 32) hx hb h.1 dX10_has_25 rfl (fun c25 => ?_) (fun c25 => ?_)
    · have h := h.2.1 c25
      refine gg_iconst hx hb dX10_has_32 ?_
      exact gg_iret hx hb hr hlk h dX10_has_33
    · have h := h.2.2 c25
      refine gg_iconst hx hb dX10_has_28 ?_
      refine gg_goto (tgt := 33) hx hb dX10_has_29 rfl ?_
      exact gg_iret hx hb hr hlk h dX10_has_33
  · have h := h.2.2 c10
    refine gg_sipush hx hb dX10_has_13 rfl ?_
    refine gg_goto (tgt := 33) hx hb dX10_has_16 rfl ?_
    exact gg_iret hx hb hr hlk h dX10_has_33
abbrev rmX10_beside : Room := { frames := 1, cells := 0, slots := 0, locals := 20 }
theorem iX10_beside_X10 : ∀ w ∈ u_ws RX10 TX10 18, w ∈ wsX10_beside := (fun _ h => List.mem_cons_of_mem _ (List.mem_append_right _ h))
theorem hd_X10_beside : (yX10_beside.cls = RX10 ∧ yX10_beside.cls ≠ "java/lang/invoke/MethodHandle" ∧ yX10_beside.cls ≠ "java/lang/invoke/VarHandle" ∧ (parseMethodDescriptor yX10_beside.desc).map (fun d => d.parameters.length) = some 2) := by decide +kernel
set_option maxRecDepth 100000 in
set_option maxHeartbeats 4000000 in
theorem c_X10_beside (l : Launch) (D : va_G) (aa : Nat → Nat) (cI cZ cJ : ClassId) (tR tU : Nat) (a1 : Int) (a2 : Int) (σ : xSt) (Post : Int → Prop) (h : wp_X10_beside a1 a2 σ Post) : MI l D (tyL cI cZ cJ) (cM aa cI cZ cJ) tR tU yX10_beside wsX10_beside rmX10_beside [.ref (aa 0), .int (xI a1), .int (xI a2)] σ (fun r9 σ9 => σ9 = σ ∧ Post r9) := by
  refine mi_of (cc := cX10_beside) (maxL := 3) (ret := (some .boolean)) (by decide) rfl (Nat.le_of_ble_eq_true rfl) ?_
  intro p e s m args below meth c A hF
  obtain ⟨hx, hb, hr, hml, hown, hts, hlk, hK, hZ, hA⟩ := hF
  have hown : s.vm.findClass RX10 = some m.cls := hown
  delta wp_X10_beside at h
  refine gg_lv (lv' := [(0, .ref (aa 0)), (1, .int (xI a1)), (2, .int (xI a2))]) [0, 1, 2] rfl ?_
  refine gg_iload_n hx hb 1 rfl rfl dX10_beside_0 ?_
  refine gg_aload_n hx hb 0 rfl rfl dX10_beside_1 ?_
  refine gg_get (C := RX10) (T := TX10) (N := 18) hx hb hts hown hK iX10_beside_X10 0 rfl rfl 5 (by decide) (List.mem_of_getElem? (i := 1) rfl) rfl dX10_beside_2 ?_
  refine gg_irem hx hb h.1 h.2.1 h.2.2.1 dX10_beside_5 ?_
  have h := h.2.2.2
  refine gg_iload_n hx hb 2 rfl rfl dX10_beside_6 ?_
  refine gg_aload_n hx hb 0 rfl rfl dX10_beside_7 ?_
  refine gg_get (C := RX10) (T := TX10) (N := 18) hx hb hts hown hK iX10_beside_X10 0 rfl rfl 5 (by decide) (List.mem_of_getElem? (i := 1) rfl) rfl dX10_beside_8 ?_
  refine gg_irem hx hb h.1 h.2.1 h.2.2.1 dX10_beside_11 ?_
  have h := h.2.2.2
  refine gg_isub hx hb dX10_beside_12 ?_
  refine gg_callSip (As := [.int (xI ((Int.tmod a1 (σ 0 5)) - (Int.tmod a2 (σ 0 5))))]) (rest := []) hx hb hml hown hts hK hZ hA (c_X10_size l D aa cI cZ cJ tR tU ((Int.tmod a1 (σ 0 5)) - (Int.tmod a2 (σ 0 5))) σ _ h) (va_cwS 1 hts gX10_beside_X10_size rfl rfl rfl hd_X10_size ⟨Nat.le_of_ble_eq_true rfl, Nat.le_of_ble_eq_true rfl⟩) rfl rfl (Nat.le_of_ble_eq_true rfl) dX10_beside_13 (fun r13 h => ?_)
  refine gg_iload_n hx hb 1 rfl rfl dX10_beside_16 ?_
  refine gg_aload_n hx hb 0 rfl rfl dX10_beside_17 ?_
  refine gg_get (C := RX10) (T := TX10) (N := 18) hx hb hts hown hK iX10_beside_X10 0 rfl rfl 5 (by decide) (List.mem_of_getElem? (i := 1) rfl) rfl dX10_beside_18 ?_
  refine gg_idiv hx hb h.1 h.2.1 h.2.2.1 dX10_beside_21 ?_
  have h := h.2.2.2
  refine gg_iload_n hx hb 2 rfl rfl dX10_beside_22 ?_
  refine gg_aload_n hx hb 0 rfl rfl dX10_beside_23 ?_
  refine gg_get (C := RX10) (T := TX10) (N := 18) hx hb hts hown hK iX10_beside_X10 0 rfl rfl 5 (by decide) (List.mem_of_getElem? (i := 1) rfl) rfl dX10_beside_24 ?_
  refine gg_idiv hx hb h.1 h.2.1 h.2.2.1 dX10_beside_27 ?_
  have h := h.2.2.2
  refine gg_isub hx hb dX10_beside_28 ?_
  refine gg_callSip (As := [.int (xI ((Int.tdiv a1 (σ 0 5)) - (Int.tdiv a2 (σ 0 5))))]) (rest := [.int (xI r13)]) hx hb hml hown hts hK hZ hA (c_X10_size l D aa cI cZ cJ tR tU ((Int.tdiv a1 (σ 0 5)) - (Int.tdiv a2 (σ 0 5))) σ _ h) (va_cwS 1 hts gX10_beside_X10_size rfl rfl rfl hd_X10_size ⟨Nat.le_of_ble_eq_true rfl, Nat.le_of_ble_eq_true rfl⟩) rfl rfl (Nat.le_of_ble_eq_true rfl) dX10_beside_29 (fun r29 h => ?_)
  refine gg_iadd hx hb dX10_beside_32 ?_
  refine gg_iconst hx hb dX10_beside_33 ?_
  refine gg_icmp_ne (tgt := 41) hx hb h.1 (by decide) dX10_beside_34 rfl (fun c34 => ?_) (fun c34 => ?_)
  · have h := h.2.1 c34
    refine gg_iconst hx hb dX10_beside_41 ?_
    exact gg_zret hx hb hr hlk (Or.inl rfl) ⟨rfl, h⟩ dX10_beside_42
  · have h := h.2.2 c34
    refine gg_iconst hx hb dX10_beside_37 ?_
    refine gg_goto (tgt := 42) hx hb dX10_beside_38 rfl ?_
    exact gg_zret hx hb hr hlk (Or.inr rfl) ⟨rfl, h⟩ dX10_beside_42
abbrev rmX10_about : Room := { frames := 1, cells := 0, slots := 0, locals := 20 }
theorem iX10_about_X10 : ∀ w ∈ u_ws RX10 TX10 18, w ∈ wsX10_about := (fun _ h => List.mem_cons_of_mem _ (List.mem_append_right _ h))
theorem hd_X10_about : (yX10_about.cls = RX10 ∧ yX10_about.cls ≠ "java/lang/invoke/MethodHandle" ∧ yX10_about.cls ≠ "java/lang/invoke/VarHandle" ∧ (parseMethodDescriptor yX10_about.desc).map (fun d => d.parameters.length) = some 2) := by decide +kernel
set_option maxRecDepth 100000 in
set_option maxHeartbeats 4000000 in
theorem c_X10_about (l : Launch) (D : va_G) (aa : Nat → Nat) (cI cZ cJ : ClassId) (tR tU : Nat) (a1 : Int) (a2 : Int) (σ : xSt) (Post : Int → Prop) (h : wp_X10_about a1 a2 σ Post) : MI l D (tyL cI cZ cJ) (cM aa cI cZ cJ) tR tU yX10_about wsX10_about rmX10_about [.ref (aa 0), .int (xI a1), .int (xI a2)] σ (fun r9 σ9 => σ9 = σ ∧ Post r9) := by
  refine mi_of (cc := cX10_about) (maxL := 3) (ret := (some .boolean)) (by decide) rfl (Nat.le_of_ble_eq_true rfl) ?_
  intro p e s m args below meth c A hF
  obtain ⟨hx, hb, hr, hml, hown, hts, hlk, hK, hZ, hA⟩ := hF
  have hown : s.vm.findClass RX10 = some m.cls := hown
  delta wp_X10_about at h
  refine gg_lv (lv' := [(0, .ref (aa 0)), (1, .int (xI a1)), (2, .int (xI a2))]) [0, 1, 2] rfl ?_
  refine gg_iload_n hx hb 1 rfl rfl dX10_about_0 ?_
  refine gg_iload_n hx hb 2 rfl rfl dX10_about_1 ?_
  refine gg_icmp_eq (tgt := 49) hx hb h.1 h.2.1 dX10_about_2 rfl (fun c2 => ?_) (fun c2 => ?_)
  · have h := h.2.2.1 c2
    refine gg_iconst hx hb dX10_about_49 ?_
    exact gg_zret hx hb hr hlk (Or.inl rfl) ⟨rfl, h⟩ dX10_about_50
  · have h := h.2.2.2 c2
    refine gg_iload_n hx hb 1 rfl rfl dX10_about_5 ?_
    refine gg_aload_n hx hb 0 rfl rfl dX10_about_6 ?_
    refine gg_get (C := RX10) (T := TX10) (N := 18) hx hb hts hown hK iX10_about_X10 0 rfl rfl 5 (by decide) (List.mem_of_getElem? (i := 1) rfl) rfl dX10_about_7 ?_
    refine gg_irem hx hb h.1 h.2.1 h.2.2.1 dX10_about_10 ?_
    have h := h.2.2.2
    refine gg_iload_n hx hb 2 rfl rfl dX10_about_11 ?_
    refine gg_aload_n hx hb 0 rfl rfl dX10_about_12 ?_
    refine gg_get (C := RX10) (T := TX10) (N := 18) hx hb hts hown hK iX10_about_X10 0 rfl rfl 5 (by decide) (List.mem_of_getElem? (i := 1) rfl) rfl dX10_about_13 ?_
    refine gg_irem hx hb h.1 h.2.1 h.2.2.1 dX10_about_16 ?_
    have h := h.2.2.2
    refine gg_isub hx hb dX10_about_17 ?_
    refine gg_callSip (As := [.int (xI ((Int.tmod a1 (σ 0 5)) - (Int.tmod a2 (σ 0 5))))]) (rest := []) hx hb hml hown hts hK hZ hA (c_X10_size l D aa cI cZ cJ tR tU ((Int.tmod a1 (σ 0 5)) - (Int.tmod a2 (σ 0 5))) σ _ h) (va_cwS 1 hts gX10_about_X10_size rfl rfl rfl hd_X10_size ⟨Nat.le_of_ble_eq_true rfl, Nat.le_of_ble_eq_true rfl⟩) rfl rfl (Nat.le_of_ble_eq_true rfl) dX10_about_18 (fun r18 h => ?_)
    refine gg_iconst hx hb dX10_about_21 ?_
    refine gg_icmp_ge (tgt := 49) hx hb h.1 (by decide) dX10_about_22 rfl (fun c22 => ?_) (fun c22 => ?_)
    · have h := h.2.1 c22
      refine gg_iconst hx hb dX10_about_49 ?_
      exact gg_zret hx hb hr hlk (Or.inl rfl) ⟨rfl, h⟩ dX10_about_50
    · have h := h.2.2 c22
      refine gg_iload_n hx hb 1 rfl rfl dX10_about_25 ?_
      refine gg_aload_n hx hb 0 rfl rfl dX10_about_26 ?_
      refine gg_get (C := RX10) (T := TX10) (N := 18) hx hb hts hown hK iX10_about_X10 0 rfl rfl 5 (by decide) (List.mem_of_getElem? (i := 1) rfl) rfl dX10_about_27 ?_
      refine gg_idiv hx hb h.1 h.2.1 h.2.2.1 dX10_about_30 ?_
      have h := h.2.2.2
      refine gg_iload_n hx hb 2 rfl rfl dX10_about_31 ?_
      refine gg_aload_n hx hb 0 rfl rfl dX10_about_32 ?_
      refine gg_get (C := RX10) (T := TX10) (N := 18) hx hb hts hown hK iX10_about_X10 0 rfl rfl 5 (by decide) (List.mem_of_getElem? (i := 1) rfl) rfl dX10_about_33 ?_
      refine gg_idiv hx hb h.1 h.2.1 h.2.2.1 dX10_about_36 ?_
      have h := h.2.2.2
      refine gg_isub hx hb dX10_about_37 ?_
      refine gg_callSip (As := [.int (xI ((Int.tdiv a1 (σ 0 5)) - (Int.tdiv a2 (σ 0 5))))]) (rest := []) hx hb hml hown hts hK hZ hA (c_X10_size l D aa cI cZ cJ tR tU ((Int.tdiv a1 (σ 0 5)) - (Int.tdiv a2 (σ 0 5))) σ _ h) (va_cwS 1 hts gX10_about_X10_size rfl rfl rfl hd_X10_size ⟨Nat.le_of_ble_eq_true rfl, Nat.le_of_ble_eq_true rfl⟩) rfl rfl (Nat.le_of_ble_eq_true rfl) dX10_about_38 (fun r38 h => ?_)
      refine gg_iconst hx hb dX10_about_41 ?_
      refine gg_icmp_ge (tgt := 49) hx hb h.1 (by decide) dX10_about_42 rfl (fun c42 => ?_) (fun c42 => ?_)
      · have h := h.2.1 c42
        refine gg_iconst hx hb dX10_about_49 ?_
        exact gg_zret hx hb hr hlk (Or.inl rfl) ⟨rfl, h⟩ dX10_about_50
      · have h := h.2.2 c42
        refine gg_iconst hx hb dX10_about_45 ?_
        refine gg_goto (tgt := 50) hx hb dX10_about_46 rfl ?_
        exact gg_zret hx hb hr hlk (Or.inr rfl) ⟨rfl, h⟩ dX10_about_50
abbrev rmX10_hang : Room := { frames := 2, cells := 0, slots := 0, locals := 42 }
theorem iX10_hang_X10 : ∀ w ∈ u_ws RX10 TX10 18, w ∈ wsX10_hang := (fun _ h => List.mem_cons_of_mem _ (List.mem_append_right _ h))
theorem hd_X10_hang : (yX10_hang.cls = RX10 ∧ yX10_hang.cls ≠ "java/lang/invoke/MethodHandle" ∧ yX10_hang.cls ≠ "java/lang/invoke/VarHandle" ∧ (parseMethodDescriptor yX10_hang.desc).map (fun d => d.parameters.length) = some 1) := by decide +kernel
set_option maxRecDepth 100000 in
set_option maxHeartbeats 4000000 in
theorem c_X10_hang (l : Launch) (D : va_G) (aa : Nat → Nat) (cI cZ cJ : ClassId) (tR tU : Nat) (a1 : Int) (σ : xSt) (Post : xSt → Prop) (h : wp_X10_hang a1 σ Post) : MV l D (tyL cI cZ cJ) (cM aa cI cZ cJ) tR tU yX10_hang wsX10_hang rmX10_hang [.ref (aa 0), .int (xI a1)] σ Post := by
  refine mv_of (cc := cX10_hang) (maxL := 5) (ret := none) (by decide) rfl (Nat.le_of_ble_eq_true rfl) ?_
  intro p e s m args below meth c A hF
  obtain ⟨hx, hb, hr, hml, hown, hts, hlk, hK, hZ, hA⟩ := hF
  have hown : s.vm.findClass RX10 = some m.cls := hown
  delta wp_X10_hang at h
  refine gg_lv (lv' := [(0, .ref (aa 0)), (1, .int (xI a1))]) [0, 1] rfl ?_
  refine gg_iconst hx hb dX10_hang_0 ?_
  refine gg_istore_n (lv' := [(2, .int (xI 0)), (0, .ref (aa 0)), (1, .int (xI a1))]) hx hb rfl (by decide) rfl dX10_hang_1 ?_
  have h := h (fun (x2_2 : Int) (s2 : xSt) => GG p l e rmX10_hang s m args below meth c (QV below D (cM aa cI cZ cJ) A args s Post) A D (cM aa cI cZ cJ) 5 s2 2 [(0, .ref (aa 0)), (1, .int (xI a1)), (2, .int (xI x2_2))] [])
  have h := h (by
    intro x2_2 s2 h
    refine gg_iload_n hx hb 2 rfl rfl dX10_hang_2 ?_
    refine gg_aload_n hx hb 0 rfl rfl dX10_hang_3 ?_
    refine gg_callVip (As := []) (rest := [.int (xI x2_2)]) hx hb hml hown hts hK hZ hA (c_X10_fields l D aa cI cZ cJ tR tU s2 _ h) (cwV 0 hts gX10_hang_X10_fields rfl rfl rfl hd_X10_fields ⟨Nat.le_of_ble_eq_true rfl, Nat.le_of_ble_eq_true rfl⟩) 0 rfl rfl rfl rfl (Nat.le_of_ble_eq_true rfl) dX10_hang_4 (fun r4 h => ?_)
    refine gg_icmp_ge (tgt := 54) hx hb h.1 h.2.1 dX10_hang_7 rfl (fun c7 => ?_) (fun c7 => ?_)
    · have h := h.2.2.1 c7
      refine gg_iconst hx hb dX10_hang_54 ?_
      refine gg_istore_n (lv' := [(2, .int (xI 1)), (0, .ref (aa 0)), (1, .int (xI a1))]) hx hb rfl (by decide) rfl dX10_hang_55 ?_
      have h := h (fun (x2_56 : Int) (s56 : xSt) => GG p l e rmX10_hang s m args below meth c (QV below D (cM aa cI cZ cJ) A args s Post) A D (cM aa cI cZ cJ) 5 s56 56 [(0, .ref (aa 0)), (1, .int (xI a1)), (2, .int (xI x2_56))] [])
      have h := h (by
        intro x2_56 s56 h
        refine gg_iload_n hx hb 2 rfl rfl dX10_hang_56 ?_
        refine gg_if_eq (tgt := 182) hx hb h.1 dX10_hang_57 rfl (fun c57 => ?_) (fun c57 => ?_)
        · have h := h.2.1 c57
          exact gg_vret hx hb hr hlk h dX10_hang_182
        · have h := h.2.2 c57
          refine gg_iconst hx hb dX10_hang_60 ?_
          refine gg_istore_n (lv' := [(2, .int (xI 0)), (0, .ref (aa 0)), (1, .int (xI a1))]) hx hb rfl (by decide) rfl dX10_hang_61 ?_
          refine gg_iconst hx hb dX10_hang_62 ?_
          refine gg_istore_n (lv' := [(3, .int (xI 0)), (2, .int (xI 0)), (0, .ref (aa 0)), (1, .int (xI a1))]) hx hb rfl (by decide) rfl dX10_hang_63 ?_
          have h := h (fun (x2_64 x3_64 : Int) (s64 : xSt) => GG p l e rmX10_hang s m args below meth c (QV below D (cM aa cI cZ cJ) A args s Post) A D (cM aa cI cZ cJ) 5 s64 64 [(0, .ref (aa 0)), (1, .int (xI a1)), (2, .int (xI x2_64)), (3, .int (xI x3_64))] [])
          have h := h (by
            intro x2_64 x3_64 s64 h
            refine gg_iload_n hx hb 3 rfl rfl dX10_hang_64 ?_
            refine gg_aload_n hx hb 0 rfl rfl dX10_hang_65 ?_
            refine gg_callVip (As := []) (rest := [.int (xI x3_64)]) hx hb hml hown hts hK hZ hA (c_X10_fields l D aa cI cZ cJ tR tU s64 _ h) (cwV 0 hts gX10_hang_X10_fields rfl rfl rfl hd_X10_fields ⟨Nat.le_of_ble_eq_true rfl, Nat.le_of_ble_eq_true rfl⟩) 0 rfl rfl rfl rfl (Nat.le_of_ble_eq_true rfl) dX10_hang_66 (fun r66 h => ?_)
            refine gg_icmp_ge (tgt := 179) hx hb h.1 h.2.1 dX10_hang_69 rfl (fun c69 => ?_) (fun c69 => ?_)
            · have h := h.2.2.1 c69
              refine gg_goto (tgt := 56) hx hb dX10_hang_179 rfl ?_
              refine gg_lv [0, 1, 2] rfl ?_
              exact h
            · have h := h.2.2.2 c69
              refine gg_iconst hx hb dX10_hang_72 ?_
              refine gg_istore (lv' := [(4, .int (xI 0)), (0, .ref (aa 0)), (1, .int (xI a1)), (2, .int (xI x2_64)), (3, .int (xI x3_64))]) hx hb (by decide) rfl dX10_hang_73 ?_
              have h := h (fun (x2_75 x4_75 : Int) (s75 : xSt) => GG p l e rmX10_hang s m args below meth c (QV below D (cM aa cI cZ cJ) A args s Post) A D (cM aa cI cZ cJ) 5 s75 75 [(0, .ref (aa 0)), (1, .int (xI a1)), (2, .int (xI x2_75)), (3, .int (xI x3_64)), (4, .int (xI x4_75))] [])
              have h := h (by
                intro x2_75 x4_75 s75 h
                refine gg_iload hx hb 4 rfl dX10_hang_75 ?_
                refine gg_aload_n hx hb 0 rfl rfl dX10_hang_77 ?_
                refine gg_callVip (As := []) (rest := [.int (xI x4_75)]) hx hb hml hown hts hK hZ hA (c_X10_fields l D aa cI cZ cJ tR tU s75 _ h) (cwV 0 hts gX10_hang_X10_fields rfl rfl rfl hd_X10_fields ⟨Nat.le_of_ble_eq_true rfl, Nat.le_of_ble_eq_true rfl⟩) 0 rfl rfl rfl rfl (Nat.le_of_ble_eq_true rfl) dX10_hang_78 (fun r78 h => ?_)
                refine gg_icmp_ge (tgt := 173) hx hb h.1 h.2.1 dX10_hang_81 rfl (fun c81 => ?_) (fun c81 => ?_)
                · have h := h.2.2.1 c81
                  refine gg_iinc (lv' := [(3, .int (xI (x3_64 + 1))), (0, .ref (aa 0)), (1, .int (xI a1)), (2, .int (xI x2_75)), (4, .int (xI x4_75))]) hx hb 3 rfl (by decide) rfl dX10_hang_173 ?_
                  refine gg_goto (tgt := 64) hx hb dX10_hang_176 rfl ?_
                  refine gg_lv [1, 2, 3, 0] rfl ?_
                  exact h
                · have h := h.2.2.2 c81
                  refine gg_aload_n hx hb 0 rfl rfl dX10_hang_84 ?_
                  refine gg_get (C := RX10) (T := TX10) (N := 18) hx hb hts hown hK iX10_hang_X10 0 rfl rfl 9 (by decide) (List.mem_of_getElem? (i := 1) rfl) rfl dX10_hang_85 ?_
                  refine gg_iload_n hx hb 3 rfl rfl dX10_hang_88 ?_
                  refine gg_iald hx hb hK 6 0 rfl rfl (by decide) h.1 dX10_hang_89 ?_
                  have h := h.2
                  refine gg_sipush hx hb dX10_hang_90 rfl ?_
                  refine gg_icmp_eq (tgt := 173) hx hb h.1 (by decide) dX10_hang_93 rfl (fun c93 => ?_) (fun c93 => ?_)
                  · have h := h.2.1 c93
                    refine gg_iinc (lv' := [(3, .int (xI (x3_64 + 1))), (0, .ref (aa 0)), (1, .int (xI a1)), (2, .int (xI x2_75)), (4, .int (xI x4_75))]) hx hb 3 rfl (by decide) rfl dX10_hang_173 ?_
                    refine gg_goto (tgt := 64) hx hb dX10_hang_176 rfl ?_
                    refine gg_lv [1, 2, 3, 0] rfl ?_
                    exact h
                  · have h := h.2.2 c93
                    refine gg_aload_n hx hb 0 rfl rfl dX10_hang_96 ?_
                    refine gg_get (C := RX10) (T := TX10) (N := 18) hx hb hts hown hK iX10_hang_X10 0 rfl rfl 9 (by decide) (List.mem_of_getElem? (i := 1) rfl) rfl dX10_hang_97 ?_
                    refine gg_iload hx hb 4 rfl dX10_hang_100 ?_
                    refine gg_iald hx hb hK 6 0 rfl rfl (by decide) h.1 dX10_hang_102 ?_
                    have h := h.2
                    refine gg_sipush hx hb dX10_hang_103 rfl ?_
                    refine gg_icmp_eq (tgt := 167) hx hb h.1 (by decide) dX10_hang_106 rfl (fun c106 => ?_) (fun c106 => ?_)
                    · have h := h.2.1 c106
                      refine gg_iinc (lv' := [(4, .int (xI (x4_75 + 1))), (0, .ref (aa 0)), (1, .int (xI a1)), (2, .int (xI x2_75)), (3, .int (xI x3_64))]) hx hb 4 rfl (by decide) rfl dX10_hang_167 ?_
                      refine gg_goto (tgt := 75) hx hb dX10_hang_170 rfl ?_
                      refine gg_lv [1, 2, 3, 4, 0] rfl ?_
                      exact h
                    · have h := h.2.2 c106
                      refine gg_aload_n hx hb 0 rfl rfl dX10_hang_109 ?_
                      refine gg_get (C := RX10) (T := TX10) (N := 18) hx hb hts hown hK iX10_hang_X10 0 rfl rfl 9 (by decide) (List.mem_of_getElem? (i := 1) rfl) rfl dX10_hang_110 ?_
                      refine gg_iload hx hb 4 rfl dX10_hang_113 ?_
                      refine gg_iald hx hb hK 6 0 rfl rfl (by decide) h.1 dX10_hang_115 ?_
                      have h := h.2
                      refine gg_aload_n hx hb 0 rfl rfl dX10_hang_116 ?_
                      refine gg_get (C := RX10) (T := TX10) (N := 18) hx hb hts hown hK iX10_hang_X10 0 rfl rfl 9 (by decide) (List.mem_of_getElem? (i := 1) rfl) rfl dX10_hang_117 ?_
                      refine gg_iload_n hx hb 3 rfl rfl dX10_hang_120 ?_
                      refine gg_iald hx hb hK 6 0 rfl rfl (by decide) h.1 dX10_hang_121 ?_
                      have h := h.2
                      refine gg_icmp_ge (tgt := 167) hx hb h.1 h.2.1 dX10_hang_122 rfl (fun c122 => ?_) (fun c122 => ?_)
                      · have h := h.2.2.1 c122
                        refine gg_iinc (lv' := [(4, .int (xI (x4_75 + 1))), (0, .ref (aa 0)), (1, .int (xI a1)), (2, .int (xI x2_75)), (3, .int (xI x3_64))]) hx hb 4 rfl (by decide) rfl dX10_hang_167 ?_
                        refine gg_goto (tgt := 75) hx hb dX10_hang_170 rfl ?_
                        refine gg_lv [1, 2, 3, 4, 0] rfl ?_
                        exact h
                      · have h := h.2.2.2 c122
                        refine gg_iload_n hx hb 1 rfl rfl dX10_hang_125 ?_
                        have h := h (GG p l e rmX10_hang s m args below meth c (QV below D (cM aa cI cZ cJ) A args s Post) A D (cM aa cI cZ cJ) 5 s75 152 [(0, .ref (aa 0)), (1, .int (xI a1)), (3, .int (xI x3_64)), (4, .int (xI x4_75))] [])
                        have h := h (by
                          intro h
                          refine gg_aload_n hx hb 0 rfl rfl dX10_hang_152 ?_
                          refine gg_get (C := RX10) (T := TX10) (N := 18) hx hb hts hown hK iX10_hang_X10 0 rfl rfl 9 (by decide) (List.mem_of_getElem? (i := 1) rfl) rfl dX10_hang_153 ?_
                          refine gg_iload_n hx hb 2 rfl rfl dX10_hang_156 ?_
                          refine gg_aload_n hx hb 0 rfl rfl dX10_hang_157 ?_
                          refine gg_get (C := RX10) (T := TX10) (N := 18) hx hb hts hown hK iX10_hang_X10 0 rfl rfl 9 (by decide) (List.mem_of_getElem? (i := 1) rfl) rfl dX10_hang_158 ?_
                          refine gg_iload hx hb 3 rfl dX10_hang_161 ?_
                          refine gg_iald hx hb hK 6 0 rfl rfl (by decide) h.1 dX10_hang_163 ?_
                          have h := h.2
                          refine gg_iast hx hb hK 6 0 rfl rfl (cM_st_6 aa cI cZ cJ _ _) (by decide) h.1 dX10_hang_164 (fun σ_164 e164 => ?_)
                          have h := h.2 σ_164 e164
                          refine gg_iconst hx hb dX10_hang_165 ?_
                          refine gg_istore_n (lv' := [(2, .int (xI 1)), (0, .ref (aa 0)), (1, .int (xI a1)), (3, .int (xI x3_64)), (4, .int (xI x4_75))]) hx hb rfl (by decide) rfl dX10_hang_166 ?_
                          refine gg_iinc (lv' := [(4, .int (xI (x4_75 + 1))), (2, .int (xI 1)), (0, .ref (aa 0)), (1, .int (xI a1)), (3, .int (xI x3_64))]) hx hb 4 rfl (by decide) rfl dX10_hang_167 ?_
                          refine gg_goto (tgt := 75) hx hb dX10_hang_170 rfl ?_
                          refine gg_lv [2, 3, 1, 4, 0] rfl ?_
                          exact h)
                        refine gg_if_eq (tgt := 142) hx hb h.1 dX10_hang_126 rfl (fun c126 => ?_) (fun c126 => ?_)
                        · have h := h.2.1 c126
                          refine gg_aload_n hx hb 0 rfl rfl dX10_hang_142 ?_
                          refine gg_iload_n hx hb 3 rfl rfl dX10_hang_143 ?_
                          refine gg_iload hx hb 4 rfl dX10_hang_144 ?_
                          refine gg_callVip (As := [.int (xI x3_64), .int (xI x4_75)]) (rest := []) hx hb hml hown hts hK hZ hA (c_X10_beside l D aa cI cZ cJ tR tU x3_64 x4_75 s75 _ h) (cwV 2 hts gX10_hang_X10_beside rfl rfl rfl hd_X10_beside ⟨Nat.le_of_ble_eq_true rfl, Nat.le_of_ble_eq_true rfl⟩) 0 rfl rfl rfl rfl (Nat.le_of_ble_eq_true rfl) dX10_hang_146 (fun r146 h => ?_)
                          refine gg_if_eq (tgt := 167) hx hb h.1 dX10_hang_149 rfl (fun c149 => ?_) (fun c149 => ?_)
                          · have h := h.2.1 c149
                            refine gg_iinc (lv' := [(4, .int (xI (x4_75 + 1))), (0, .ref (aa 0)), (1, .int (xI a1)), (2, .int (xI x2_75)), (3, .int (xI x3_64))]) hx hb 4 rfl (by decide) rfl dX10_hang_167 ?_
                            refine gg_goto (tgt := 75) hx hb dX10_hang_170 rfl ?_
                            refine gg_lv [1, 2, 3, 4, 0] rfl ?_
                            exact h
                          · have h := h.2.2 c149
                            refine gg_lv [0, 1, 3, 4] rfl ?_
                            exact h
                        · have h := h.2.2 c126
                          refine gg_aload_n hx hb 0 rfl rfl dX10_hang_129 ?_
                          refine gg_iload_n hx hb 3 rfl rfl dX10_hang_130 ?_
                          refine gg_iload hx hb 4 rfl dX10_hang_131 ?_
                          refine gg_callVip (As := [.int (xI x3_64), .int (xI x4_75)]) (rest := []) hx hb hml hown hts hK hZ hA (c_X10_about l D aa cI cZ cJ tR tU x3_64 x4_75 s75 _ h) (cwV 2 hts gX10_hang_X10_about rfl rfl rfl hd_X10_about ⟨Nat.le_of_ble_eq_true rfl, Nat.le_of_ble_eq_true rfl⟩) 0 rfl rfl rfl rfl (Nat.le_of_ble_eq_true rfl) dX10_hang_133 (fun r133 h => ?_)
                          refine gg_if_eq (tgt := 167) hx hb h.1 dX10_hang_136 rfl (fun c136 => ?_) (fun c136 => ?_)
                          · have h := h.2.1 c136
                            refine gg_iinc (lv' := [(4, .int (xI (x4_75 + 1))), (0, .ref (aa 0)), (1, .int (xI a1)), (2, .int (xI x2_75)), (3, .int (xI x3_64))]) hx hb 4 rfl (by decide) rfl dX10_hang_167 ?_
                            refine gg_goto (tgt := 75) hx hb dX10_hang_170 rfl ?_
                            refine gg_lv [1, 2, 3, 4, 0] rfl ?_
                            exact h
                          · have h := h.2.2 c136
                            refine gg_goto (tgt := 152) hx hb dX10_hang_139 rfl ?_
                            refine gg_lv [0, 1, 3, 4] rfl ?_
                            exact h)
              refine gg_lv [1, 2, 3, 4, 0] rfl ?_
              exact h)
          refine gg_lv [2, 3, 1, 0] rfl ?_
          exact h)
      refine gg_lv [1, 2, 0] rfl ?_
      exact h
    · have h := h.2.2.2 c7
      refine gg_aload_n hx hb 0 rfl rfl dX10_hang_10 ?_
      refine gg_get (C := RX10) (T := TX10) (N := 18) hx hb hts hown hK iX10_hang_X10 0 rfl rfl 9 (by decide) (List.mem_of_getElem? (i := 1) rfl) rfl dX10_hang_11 ?_
      refine gg_iload_n hx hb 2 rfl rfl dX10_hang_14 ?_
      refine gg_iload_n hx hb 1 rfl rfl dX10_hang_15 ?_
      refine gg_if_eq (tgt := 31) hx hb h.1 dX10_hang_16 rfl (fun c16 => ?_) (fun c16 => ?_)
      · have h := h.2.1 c16
        refine gg_aload_n hx hb 0 rfl rfl dX10_hang_31 ?_
        refine gg_get (C := RX10) (T := TX10) (N := 18) hx hb hts hown hK iX10_hang_X10 0 rfl rfl 8 (by decide) (List.mem_of_getElem? (i := 3) rfl) rfl dX10_hang_32 ?_
        refine gg_iload_n hx hb 2 rfl rfl dX10_hang_35 ?_
        refine gg_zald hx hb hK 5 1 rfl rfl (by decide) h.1 dX10_hang_36 ?_
        have h := h.2
        refine gg_if_ne (tgt := 44) hx hb h.1 dX10_hang_37 rfl (fun c37 => ?_) (fun c37 => ?_)
        · have h := h.2.1 c37
          refine gg_sipush hx hb dX10_hang_44 rfl ?_
          refine gg_iast hx hb hK 6 0 rfl rfl (cM_st_6 aa cI cZ cJ _ _) (by decide) h.1 dX10_hang_47 (fun σ_47 e47 => ?_)
          have h := h.2 σ_47 e47
          refine gg_iinc (lv' := [(2, .int (xI (x2_2 + 1))), (0, .ref (aa 0)), (1, .int (xI a1))]) hx hb 2 rfl (by decide) rfl dX10_hang_48 ?_
          refine gg_goto (tgt := 2) hx hb dX10_hang_51 rfl ?_
          refine gg_lv [1, 2, 0] rfl ?_
          exact h
        · have h := h.2.2 c37
          refine gg_iload_n hx hb 2 rfl rfl dX10_hang_40 ?_
          refine gg_goto (tgt := 47) hx hb dX10_hang_41 rfl ?_
          refine gg_iast hx hb hK 6 0 rfl rfl (cM_st_6 aa cI cZ cJ _ _) (by decide) h.1 dX10_hang_47 (fun σ_47 e47 => ?_)
          have h := h.2 σ_47 e47
          refine gg_iinc (lv' := [(2, .int (xI (x2_2 + 1))), (0, .ref (aa 0)), (1, .int (xI a1))]) hx hb 2 rfl (by decide) rfl dX10_hang_48 ?_
          refine gg_goto (tgt := 2) hx hb dX10_hang_51 rfl ?_
          refine gg_lv [1, 2, 0] rfl ?_
          exact h
      · have h := h.2.2 c16
        refine gg_aload_n hx hb 0 rfl rfl dX10_hang_19 ?_
        refine gg_get (C := RX10) (T := TX10) (N := 18) hx hb hts hown hK iX10_hang_X10 0 rfl rfl 7 (by decide) (List.mem_of_getElem? (i := 2) rfl) rfl dX10_hang_20 ?_
        refine gg_iload_n hx hb 2 rfl rfl dX10_hang_23 ?_
        refine gg_zald hx hb hK 4 1 rfl rfl (by decide) h.1 dX10_hang_24 ?_
        have h := h.2
        refine gg_if_eq (tgt := 44) hx hb h.1 dX10_hang_25 rfl (fun c25 => ?_) (fun c25 => ?_)
        · have h := h.2.1 c25
          refine gg_sipush hx hb dX10_hang_44 rfl ?_
          refine gg_iast hx hb hK 6 0 rfl rfl (cM_st_6 aa cI cZ cJ _ _) (by decide) h.1 dX10_hang_47 (fun σ_47 e47 => ?_)
          have h := h.2 σ_47 e47
          refine gg_iinc (lv' := [(2, .int (xI (x2_2 + 1))), (0, .ref (aa 0)), (1, .int (xI a1))]) hx hb 2 rfl (by decide) rfl dX10_hang_48 ?_
          refine gg_goto (tgt := 2) hx hb dX10_hang_51 rfl ?_
          refine gg_lv [1, 2, 0] rfl ?_
          exact h
        · have h := h.2.2 c25
          refine gg_goto (tgt := 40) hx hb dX10_hang_28 rfl ?_
          refine gg_iload_n hx hb 2 rfl rfl dX10_hang_40 ?_
          refine gg_goto (tgt := 47) hx hb dX10_hang_41 rfl ?_
          refine gg_iast hx hb hK 6 0 rfl rfl (cM_st_6 aa cI cZ cJ _ _) (by decide) h.1 dX10_hang_47 (fun σ_47 e47 => ?_)
          have h := h.2 σ_47 e47
          refine gg_iinc (lv' := [(2, .int (xI (x2_2 + 1))), (0, .ref (aa 0)), (1, .int (xI a1))]) hx hb 2 rfl (by decide) rfl dX10_hang_48 ?_
          refine gg_goto (tgt := 2) hx hb dX10_hang_51 rfl ?_
          refine gg_lv [1, 2, 0] rfl ?_
          exact h)
  refine gg_lv [1, 2, 0] rfl ?_
  exact h
abbrev rmX10_comesOut : Room := { frames := 1, cells := 0, slots := 0, locals := 23 }
theorem iX10_comesOut_X10 : ∀ w ∈ u_ws RX10 TX10 18, w ∈ wsX10_comesOut := (fun _ h => List.mem_cons_of_mem _ (List.mem_append_right _ h))
theorem hd_X10_comesOut : (yX10_comesOut.cls = RX10 ∧ yX10_comesOut.cls ≠ "java/lang/invoke/MethodHandle" ∧ yX10_comesOut.cls ≠ "java/lang/invoke/VarHandle" ∧ (parseMethodDescriptor yX10_comesOut.desc).map (fun d => d.parameters.length) = some 1) := by decide +kernel
set_option maxRecDepth 100000 in
set_option maxHeartbeats 4000000 in
theorem c_X10_comesOut (l : Launch) (D : va_G) (aa : Nat → Nat) (cI cZ cJ : ClassId) (tR tU : Nat) (a1 : Int) (σ : xSt) (Post : Int → Prop) (h : wp_X10_comesOut a1 σ Post) : MI l D (tyL cI cZ cJ) (cM aa cI cZ cJ) tR tU yX10_comesOut wsX10_comesOut rmX10_comesOut [.ref (aa 0), .int (xI a1)] σ (fun r9 σ9 => σ9 = σ ∧ Post r9) := by
  refine mi_of (cc := cX10_comesOut) (maxL := 4) (ret := (some .boolean)) (by decide) rfl (Nat.le_of_ble_eq_true rfl) ?_
  intro p e s m args below meth c A hF
  obtain ⟨hx, hb, hr, hml, hown, hts, hlk, hK, hZ, hA⟩ := hF
  have hown : s.vm.findClass RX10 = some m.cls := hown
  delta wp_X10_comesOut at h
  refine gg_lv (lv' := [(0, .ref (aa 0)), (1, .int (xI a1))]) [0, 1] rfl ?_
  refine gg_iconst hx hb dX10_comesOut_0 ?_
  refine gg_istore_n (lv' := [(2, .int (xI 0)), (0, .ref (aa 0)), (1, .int (xI a1))]) hx hb rfl (by decide) rfl dX10_comesOut_1 ?_
  refine gg_iconst hx hb dX10_comesOut_2 ?_
  refine gg_istore_n (lv' := [(3, .int (xI 0)), (2, .int (xI 0)), (0, .ref (aa 0)), (1, .int (xI a1))]) hx hb rfl (by decide) rfl dX10_comesOut_3 ?_
  have h := h (fun (x2_4 x3_4 : Int) => GG p l e rmX10_comesOut s m args below meth c (QI below D (cM aa cI cZ cJ) A args s (fun r9 σ9 => σ9 = σ ∧ Post r9)) A D (cM aa cI cZ cJ) 4 σ 4 [(0, .ref (aa 0)), (1, .int (xI a1)), (2, .int (xI x2_4)), (3, .int (xI x3_4))] [])
  have h := h (by
    intro x2_4 x3_4 h
    refine gg_iload_n hx hb 3 rfl rfl dX10_comesOut_4 ?_
    refine gg_aload_n hx hb 0 rfl rfl dX10_comesOut_5 ?_
    refine gg_callVip (As := []) (rest := [.int (xI x3_4)]) hx hb hml hown hts hK hZ hA (c_X10_fields l D aa cI cZ cJ tR tU σ _ h) (cwV 0 hts gX10_comesOut_X10_fields rfl rfl rfl hd_X10_fields ⟨Nat.le_of_ble_eq_true rfl, Nat.le_of_ble_eq_true rfl⟩) 0 rfl rfl rfl rfl (Nat.le_of_ble_eq_true rfl) dX10_comesOut_6 (fun r6 h => ?_)
    refine gg_icmp_ge (tgt := 51) hx hb h.1 h.2.1 dX10_comesOut_9 rfl (fun c9 => ?_) (fun c9 => ?_)
    · have h := h.2.2.1 c9
      refine gg_iload_n hx hb 2 rfl rfl dX10_comesOut_51 ?_
      exact gg_zret hx hb hr hlk h.1 ⟨rfl, h.2⟩ dX10_comesOut_52
    · have h := h.2.2.2 c9
      refine gg_iload_n hx hb 2 rfl rfl dX10_comesOut_12 ?_
      refine gg_if_ne (tgt := 39) hx hb h.1 dX10_comesOut_13 rfl (fun c13 => ?_) (fun c13 => ?_)
      · have h := h.2.1 c13
        refine gg_iconst hx hb dX10_comesOut_39 ?_
        refine gg_goto (tgt := 44) hx hb dX10_comesOut_40 rfl ?_
        refine gg_istore_n (lv' := [(2, .int (xI 1)), (0, .ref (aa 0)), (1, .int (xI a1)), (3, .int (xI x3_4))]) hx hb rfl (by decide) rfl dX10_comesOut_44 ?_
        refine gg_iinc (lv' := [(3, .int (xI (x3_4 + 1))), (2, .int (xI 1)), (0, .ref (aa 0)), (1, .int (xI a1))]) hx hb 3 rfl (by decide) rfl dX10_comesOut_45 ?_
        refine gg_goto (tgt := 4) hx hb dX10_comesOut_48 rfl ?_
        refine gg_lv [2, 3, 1, 0] rfl ?_
        exact h
      · have h := h.2.2 c13
        refine gg_aload_n hx hb 0 rfl rfl dX10_comesOut_16 ?_
        refine gg_get (C := RX10) (T := TX10) (N := 18) hx hb hts hown hK iX10_comesOut_X10 0 rfl rfl 9 (by decide) (List.mem_of_getElem? (i := 1) rfl) rfl dX10_comesOut_17 ?_
        refine gg_iload_n hx hb 3 rfl rfl dX10_comesOut_20 ?_
        refine gg_iald hx hb hK 6 0 rfl rfl (by decide) h.1 dX10_comesOut_21 ?_
        have h := h.2
        refine gg_aload_n hx hb 0 rfl rfl dX10_comesOut_22 ?_
        refine gg_get (C := RX10) (T := TX10) (N := 18) hx hb hts hown hK iX10_comesOut_X10 0 rfl rfl 9 (by decide) (List.mem_of_getElem? (i := 1) rfl) rfl dX10_comesOut_23 ?_
        refine gg_iload_n hx hb 1 rfl rfl dX10_comesOut_26 ?_
        refine gg_iald hx hb hK 6 0 rfl rfl (by decide) h.1 dX10_comesOut_27 ?_
        have h := h.2
        refine gg_icmp_ne (tgt := 43) hx hb h.1 h.2.1 dX10_comesOut_28 rfl (fun c28 => ?_) (fun c28 => ?_)
        · have h := h.2.2.1 c28
          refine gg_iconst hx hb dX10_comesOut_43 ?_
          refine gg_istore_n (lv' := [(2, .int (xI 0)), (0, .ref (aa 0)), (1, .int (xI a1)), (3, .int (xI x3_4))]) hx hb rfl (by decide) rfl dX10_comesOut_44 ?_
          refine gg_iinc (lv' := [(3, .int (xI (x3_4 + 1))), (2, .int (xI 0)), (0, .ref (aa 0)), (1, .int (xI a1))]) hx hb 3 rfl (by decide) rfl dX10_comesOut_45 ?_
          refine gg_goto (tgt := 4) hx hb dX10_comesOut_48 rfl ?_
          refine gg_lv [2, 3, 1, 0] rfl ?_
          exact h
        · have h := h.2.2.2 c28
          refine gg_aload_n hx hb 0 rfl rfl dX10_comesOut_31 ?_
          refine gg_iload_n hx hb 3 rfl rfl dX10_comesOut_32 ?_
          refine gg_callVip (As := [.int (xI x3_4)]) (rest := []) hx hb hml hown hts hK hZ hA (c_X10_onEdge l D aa cI cZ cJ tR tU x3_4 σ _ h) (cwV 1 hts gX10_comesOut_X10_onEdge rfl rfl rfl hd_X10_onEdge ⟨Nat.le_of_ble_eq_true rfl, Nat.le_of_ble_eq_true rfl⟩) 0 rfl rfl rfl rfl (Nat.le_of_ble_eq_true rfl) dX10_comesOut_33 (fun r33 h => ?_)
          refine gg_if_eq (tgt := 43) hx hb h.1 dX10_comesOut_36 rfl (fun c36 => ?_) (fun c36 => ?_)
          · have h := h.2.1 c36
            refine gg_iconst hx hb dX10_comesOut_43 ?_
            refine gg_istore_n (lv' := [(2, .int (xI 0)), (0, .ref (aa 0)), (1, .int (xI a1)), (3, .int (xI x3_4))]) hx hb rfl (by decide) rfl dX10_comesOut_44 ?_
            refine gg_iinc (lv' := [(3, .int (xI (x3_4 + 1))), (2, .int (xI 0)), (0, .ref (aa 0)), (1, .int (xI a1))]) hx hb 3 rfl (by decide) rfl dX10_comesOut_45 ?_
            refine gg_goto (tgt := 4) hx hb dX10_comesOut_48 rfl ?_
            refine gg_lv [2, 3, 1, 0] rfl ?_
            exact h
          · have h := h.2.2 c36
            refine gg_iconst hx hb dX10_comesOut_39 ?_
            refine gg_goto (tgt := 44) hx hb dX10_comesOut_40 rfl ?_
            refine gg_istore_n (lv' := [(2, .int (xI 1)), (0, .ref (aa 0)), (1, .int (xI a1)), (3, .int (xI x3_4))]) hx hb rfl (by decide) rfl dX10_comesOut_44 ?_
            refine gg_iinc (lv' := [(3, .int (xI (x3_4 + 1))), (2, .int (xI 1)), (0, .ref (aa 0)), (1, .int (xI a1))]) hx hb 3 rfl (by decide) rfl dX10_comesOut_45 ?_
            refine gg_goto (tgt := 4) hx hb dX10_comesOut_48 rfl ?_
            refine gg_lv [2, 3, 1, 0] rfl ?_
            exact h)
  refine gg_lv [2, 3, 1, 0] rfl ?_
  exact h
