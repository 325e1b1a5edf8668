abbrev rmX9_plain : Room := { frames := 3, cells := 0, slots := 0, locals := 68 }
theorem iX9_plain_X9 : ∀ w ∈ u_ws RX9 TX9 9, w ∈ wsX9_plain := (fun _ h => List.mem_cons_of_mem _ (List.mem_append_left _ (List.mem_append_left _ (List.mem_append_right _ h))))
theorem hd_X9_plain : (yX9_plain.cls = RX9 ∧ yX9_plain.cls ≠ "java/lang/invoke/MethodHandle" ∧ yX9_plain.cls ≠ "java/lang/invoke/VarHandle" ∧ (parseMethodDescriptor yX9_plain.desc).map (fun d => d.parameters.length) = some 3) := by decide +kernel
set_option maxRecDepth 100000 in
set_option maxHeartbeats 4000000 in
theorem c_X9_plain (l : Launch) (D : va_G) (aa : Nat → Nat) (cI cZ cJ : ClassId) (tR tU : Nat) (a1 : Int) (a2 : Int) (a3 : Int) (σ : xSt) (Post : Int → xSt → Prop) (h : wp_X9_plain a1 a2 a3 σ Post) : MI l D (tyL cI cZ cJ) (cX aa cI cZ cJ) tR tU yX9_plain wsX9_plain rmX9_plain [.ref (aa 0), .int (xI a1), .int (xI a2), .int (xI a3)] σ Post := by
  refine mi_of (cc := cX9_plain) (maxL := 5) (ret := (some .int)) (by decide) rfl (Nat.le_of_ble_eq_true rfl) ?_
  intro p e s m args below meth c A hF
  obtain ⟨hx, hb, hr, hml, hown, hts, hlk, hK, hZ, hA⟩ := hF
  have hown : s.vm.findClass RX9 = some m.cls := hown
  delta wp_X9_plain at h
  refine gg_lv (lv' := [(0, .ref (aa 0)), (1, .int (xI a1)), (2, .int (xI a2)), (3, .int (xI a3))]) [0, 1, 2, 3] rfl ?_
  refine gg_aload_n hx hb 0 rfl rfl dX9_plain_0 ?_
  refine gg_iload_n hx hb 1 rfl rfl dX9_plain_1 ?_
  refine gg_iload_n hx hb 2 rfl rfl dX9_plain_2 ?_
  refine gg_callVip (As := [.int (xI a1), .int (xI a2)]) (rest := []) hx hb hml hown hts hK hZ hA (c_X9_refusalOfPiece l D aa cI cZ cJ tR tU a1 a2 σ _ h) (cwV 2 hts gX9_plain_X9_refusalOfPiece rfl rfl rfl hd_X9_refusalOfPiece ⟨Nat.le_of_ble_eq_true rfl, Nat.le_of_ble_eq_true rfl⟩) 0 rfl rfl rfl rfl (Nat.le_of_ble_eq_true rfl) dX9_plain_3 (fun r3 h => ?_)
  refine gg_istore (lv' := [(4, .int (xI r3)), (0, .ref (aa 0)), (1, .int (xI a1)), (2, .int (xI a2)), (3, .int (xI a3))]) hx hb (by decide) rfl dX9_plain_6 ?_
  refine gg_iload hx hb 0 rfl dX9_plain_8 ?_
  refine gg_if_eq (tgt := 16) hx hb h.1 dX9_plain_10 rfl (fun c10 => ?_) (fun c10 => ?_)
  · have h := h.2.1 c10
    refine gg_aload_n hx hb 1 rfl rfl dX9_plain_16 ?_
    refine gg_get (C := RX9) (T := TX9) (N := 9) hx hb hts hown hK iX9_plain_X9 0 rfl rfl 1 (by decide) (List.mem_of_getElem? (i := 1) rfl) rfl dX9_plain_17 ?_
    refine gg_aload_n hx hb 1 rfl rfl dX9_plain_20 ?_
    refine gg_get (C := RX9) (T := TX9) (N := 9) hx hb hts hown hK iX9_plain_X9 0 rfl rfl 0 (by decide) (List.mem_of_getElem? (i := 2) rfl) rfl dX9_plain_21 ?_
    refine gg_iload_n hx hb 2 rfl rfl dX9_plain_24 ?_
    refine gg_iload_n hx hb 3 rfl rfl dX9_plain_25 ?_
    refine gg_callVv (As := [.ref (aa 1), .int (xI a1), .int (xI a2)]) (rest := []) hx hb hml hown hts hK hZ hA (c_X5_measure l D aa cI cZ cJ tR tU a1 a2 σ _ h) (cwV 3 hts gX9_plain_X5_measure rfl rfl rfl hd_X5_measure ⟨Nat.le_of_ble_eq_true rfl, Nat.le_of_ble_eq_true rfl⟩) 5 rfl rfl rfl rfl (Nat.le_of_ble_eq_true rfl) dX9_plain_26 (fun t26 h => ?_)
    refine gg_aload_n hx hb 1 rfl rfl dX9_plain_29 ?_
    refine gg_get (C := RX9) (T := TX9) (N := 9) hx hb hts hown hK iX9_plain_X9 0 rfl rfl 1 (by decide) (List.mem_of_getElem? (i := 1) rfl) rfl dX9_plain_30 ?_
    refine gg_callVip (As := []) (rest := []) hx hb hml hown hts hK hZ hA (c_X5_isStraight l D aa cI cZ cJ tR tU t26 _ h) (cwV 0 hts gX9_plain_X5_isStraight rfl rfl rfl hd_X5_isStraight ⟨Nat.le_of_ble_eq_true rfl, Nat.le_of_ble_eq_true rfl⟩) 5 rfl rfl rfl rfl (Nat.le_of_ble_eq_true rfl) dX9_plain_33 (fun r33 h => ?_)
    refine gg_if_ne (tgt := 43) hx hb h.1 dX9_plain_36 rfl (fun c36 => ?_) (fun c36 => ?_)
    · have h := h.2.1 c36
      refine gg_aload_n hx hb 1 rfl rfl dX9_plain_43 ?_
      refine gg_get (C := RX9) (T := TX9) (N := 9) hx hb hts hown hK iX9_plain_X9 0 rfl rfl 1 (by decide) (List.mem_of_getElem? (i := 1) rfl) rfl dX9_plain_44 ?_
      refine gg_iload_n hx hb 4 rfl rfl dX9_plain_47 ?_
      refine gg_callVip (As := [.int (xI a3)]) (rest := []) hx hb hml hown hts hK hZ hA (c_X5_plainSlope l D aa cI cZ cJ tR tU a3 t26 _ h) (cwV 1 hts gX9_plain_X5_plainSlope rfl rfl rfl hd_X5_plainSlope ⟨Nat.le_of_ble_eq_true rfl, Nat.le_of_ble_eq_true rfl⟩) 5 rfl rfl rfl rfl (Nat.le_of_ble_eq_true rfl) dX9_plain_48 (fun r48 h => ?_)
      exact gg_iret hx hb hr hlk h dX9_plain_51
    · have h := h.2.2 c36
      refine gg_sipush hx hb dX9_plain_39 rfl ?_
      exact gg_iret hx hb hr hlk h dX9_plain_42
  · have h := h.2.2 c10
    refine gg_iload hx hb 0 rfl dX9_plain_13 ?_
    exact gg_iret hx hb hr hlk h dX9_plain_15
abbrev rmX5_farthest : Room := { frames := 2, cells := 0, slots := 0, locals := 44 }
theorem hd_X5_farthest : (yX5_farthest.cls = RX5 ∧ yX5_farthest.cls ≠ "java/lang/invoke/MethodHandle" ∧ yX5_farthest.cls ≠ "java/lang/invoke/VarHandle" ∧ (parseMethodDescriptor yX5_farthest.desc).map (fun d => d.parameters.length) = some 2) := by decide +kernel
set_option maxRecDepth 100000 in
set_option maxHeartbeats 4000000 in
theorem c_X5_farthest (l : Launch) (D : va_G) (aa : Nat → Nat) (cI cZ cJ : ClassId) (tR tU : Nat) (a2 : Int) (σ : xSt) (Post : Int → xSt → Prop) (h : wp_X5_farthest a2 σ Post) : MI l D (tyL cI cZ cJ) (cX aa cI cZ cJ) tR tU yX5_farthest wsX5_farthest rmX5_farthest [.ref (aa 5), .ref (aa 1), .int (xI a2)] σ Post := by
  refine mi_of (cc := cX5_farthest) (maxL := 4) (ret := (some .int)) (by decide) rfl (Nat.le_of_ble_eq_true rfl) ?_
  intro p e s m args below meth c A hF
  obtain ⟨hx, hb, hr, hml, hown, hts, hlk, hK, hZ, hA⟩ := hF
  have hown : s.vm.findClass RX5 = some m.cls := hown
  delta wp_X5_farthest at h
  refine gg_lv (lv' := [(0, .ref (aa 5)), (1, .ref (aa 1)), (2, .int (xI a2))]) [0, 1, 2] rfl ?_
  refine gg_aload_n hx hb 0 rfl rfl dX5_farthest_0 ?_
  refine gg_callVv (As := []) (rest := []) hx hb hml hown hts hK hZ hA (c_X5_begin l D aa cI cZ cJ tR tU σ _ h) (cwV 0 hts gX5_farthest_X5_begin rfl rfl rfl hd_X5_begin ⟨Nat.le_of_ble_eq_true rfl, Nat.le_of_ble_eq_true rfl⟩) 5 rfl rfl rfl rfl (Nat.le_of_ble_eq_true rfl) dX5_farthest_1 (fun t1 h => ?_)
  refine gg_iload_n hx hb 2 rfl rfl dX5_farthest_4 ?_
  refine gg_istore_n (lv' := [(3, .int (xI a2)), (0, .ref (aa 5)), (1, .ref (aa 1)), (2, .int (xI a2))]) hx hb rfl (by decide) rfl dX5_farthest_5 ?_
  have h := h (fun (x3_6 : Int) (s6 : xSt) => GG p l e rmX5_farthest s m args below meth c (QI below D (cX aa cI cZ cJ) A args s Post) A D (cX aa cI cZ cJ) 4 s6 6 [(0, .ref (aa 5)), (1, .ref (aa 1)), (3, .int (xI x3_6))] [])
  have h := h (by
    intro x3_6 s6 h
    refine gg_iload_n hx hb 2 rfl rfl dX5_farthest_6 ?_
    refine gg_aload_n hx hb 1 rfl rfl dX5_farthest_7 ?_
    refine gg_callVip (As := []) (rest := [.int (xI x3_6)]) hx hb hml hown hts hK hZ hA (c_X6_steps l D aa cI cZ cJ tR tU s6 _ h) (cwV 0 hts gX5_farthest_X6_steps rfl rfl rfl hd_X6_steps ⟨Nat.le_of_ble_eq_true rfl, Nat.le_of_ble_eq_true rfl⟩) 1 rfl rfl rfl rfl (Nat.le_of_ble_eq_true rfl) dX5_farthest_8 (fun r8 h => ?_)
    refine gg_icmp_ge (tgt := 39) hx hb h.1 h.2.1 dX5_farthest_11 rfl (fun c11 => ?_) (fun c11 => ?_)
    · have h := h.2.2.1 c11
      refine gg_iload_n hx hb 2 rfl rfl dX5_farthest_39 ?_
      exact gg_iret hx hb hr hlk h dX5_farthest_40
    · have h := h.2.2.2 c11
      refine gg_aload_n hx hb 0 rfl rfl dX5_farthest_14 ?_
      refine gg_aload_n hx hb 1 rfl rfl dX5_farthest_15 ?_
      refine gg_iload_n hx hb 2 rfl rfl dX5_farthest_16 ?_
      refine gg_callVip (As := [.int (xI x3_6)]) (rest := [.ref (aa 5)]) hx hb hml hown hts hK hZ hA (c_X6_wayOf l D aa cI cZ cJ tR tU x3_6 s6 _ h) (cwV 1 hts gX5_farthest_X6_wayOf rfl rfl rfl hd_X6_wayOf ⟨Nat.le_of_ble_eq_true rfl, Nat.le_of_ble_eq_true rfl⟩) 1 rfl rfl rfl rfl (Nat.le_of_ble_eq_true rfl) dX5_farthest_17 (fun r17 h => ?_)
      refine gg_callVv (As := [.int (xI r17)]) (rest := []) hx hb hml hown hts hK hZ hA (c_X5_grow l D aa cI cZ cJ tR tU r17 s6 _ h) (cwV 1 hts gX5_farthest_X5_grow rfl rfl rfl hd_X5_grow ⟨Nat.le_of_ble_eq_true rfl, Nat.le_of_ble_eq_true rfl⟩) 5 rfl rfl rfl rfl (Nat.le_of_ble_eq_true rfl) dX5_farthest_20 (fun t20 h => ?_)
      refine gg_aload_n hx hb 0 rfl rfl dX5_farthest_23 ?_
      refine gg_callVip (As := []) (rest := []) hx hb hml hown hts hK hZ hA (c_X5_isStraight l D aa cI cZ cJ tR tU t20 _ h) (cwV 0 hts gX5_farthest_X5_isStraight rfl rfl rfl hd_X5_isStraight ⟨Nat.le_of_ble_eq_true rfl, Nat.le_of_ble_eq_true rfl⟩) 5 rfl rfl rfl rfl (Nat.le_of_ble_eq_true rfl) dX5_farthest_24 (fun r24 h => ?_)
      refine gg_if_ne (tgt := 33) hx hb h.1 dX5_farthest_27 rfl (fun c27 => ?_) (fun c27 => ?_)
      · have h := h.2.1 c27
        refine gg_iinc (lv' := [(3, .int (xI (x3_6 + 1))), (0, .ref (aa 5)), (1, .ref (aa 1))]) hx hb 2 rfl (by decide) rfl dX5_farthest_33 ?_
        refine gg_goto (tgt := 6) hx hb dX5_farthest_36 rfl ?_
        refine gg_lv [1, 2, 0] rfl ?_
        exact h
      · have h := h.2.2 c27
        refine gg_goto (tgt := 39) hx hb dX5_farthest_30 rfl ?_
        refine gg_iload_n hx hb 2 rfl rfl dX5_farthest_39 ?_
        exact gg_iret hx hb hr hlk h dX5_farthest_40)
  refine gg_lv [1, 2, 0] rfl ?_
  exact h
abbrev rmX9_longest : Room := { frames := 3, cells := 0, slots := 0, locals := 67 }
theorem iX9_longest_X9 : ∀ w ∈ u_ws RX9 TX9 9, w ∈ wsX9_longest := (fun _ h => List.mem_cons_of_mem _ (List.mem_append_left _ (List.mem_append_left _ (List.mem_append_right _ h))))
theorem hd_X9_longest : (yX9_longest.cls = RX9 ∧ yX9_longest.cls ≠ "java/lang/invoke/MethodHandle" ∧ yX9_longest.cls ≠ "java/lang/invoke/VarHandle" ∧ (parseMethodDescriptor yX9_longest.desc).map (fun d => d.parameters.length) = some 1) := by decide +kernel
set_option maxRecDepth 100000 in
set_option maxHeartbeats 4000000 in
theorem c_X9_longest (l : Launch) (D : va_G) (aa : Nat → Nat) (cI cZ cJ : ClassId) (tR tU : Nat) (a1 : Int) (σ : xSt) (Post : Int → xSt → Prop) (h : wp_X9_longest a1 σ Post) : MI l D (tyL cI cZ cJ) (cX aa cI cZ cJ) tR tU yX9_longest wsX9_longest rmX9_longest [.ref (aa 0), .int (xI a1)] σ Post := by
  refine mi_of (cc := cX9_longest) (maxL := 6) (ret := (some .int)) (by decide) rfl (Nat.le_of_ble_eq_true rfl) ?_
  intro p e s m args below meth c A hF
  obtain ⟨hx, hb, hr, hml, hown, hts, hlk, hK, hZ, hA⟩ := hF
  have hown : s.vm.findClass RX9 = some m.cls := hown
  delta wp_X9_longest at h
  refine gg_lv (lv' := [(0, .ref (aa 0)), (1, .int (xI a1))]) [0, 1] rfl ?_
  refine gg_iconst hx hb dX9_longest_0 ?_
  refine gg_istore_n (lv' := [(2, .int (xI 0)), (0, .ref (aa 0)), (1, .int (xI a1))]) hx hb rfl (by decide) rfl dX9_longest_1 ?_
  refine gg_iconst hx hb dX9_longest_2 ?_
  refine gg_istore_n (lv' := [(3, .int (xI 0)), (2, .int (xI 0)), (0, .ref (aa 0)), (1, .int (xI a1))]) hx hb rfl (by decide) rfl dX9_longest_3 ?_
  refine gg_iconst hx hb dX9_longest_4 ?_
  refine gg_istore (lv' := [(4, .int (xI 0)), (3, .int (xI 0)), (2, .int (xI 0)), (0, .ref (aa 0)), (1, .int (xI a1))]) hx hb (by decide) rfl dX9_longest_5 ?_
  have h := h (fun (x2_7 x3_7 x4_7 : Int) (s7 : xSt) => GG p l e rmX9_longest s m args below meth c (QI below D (cX aa cI cZ cJ) A args s Post) A D (cX aa cI cZ cJ) 6 s7 7 [(0, .ref (aa 0)), (1, .int (xI a1)), (2, .int (xI x2_7)), (3, .int (xI x3_7)), (4, .int (xI x4_7))] [])
  have h := h (by
    intro x2_7 x3_7 x4_7 s7 h
    refine gg_iload hx hb 4 rfl dX9_longest_7 ?_
    refine gg_iload_n hx hb 2 rfl rfl dX9_longest_9 ?_
    refine gg_iadd hx hb dX9_longest_10 ?_
    refine gg_aload_n hx hb 0 rfl rfl dX9_longest_11 ?_
    refine gg_get (C := RX9) (T := TX9) (N := 9) hx hb hts hown hK iX9_longest_X9 0 rfl rfl 0 (by decide) (List.mem_of_getElem? (i := 1) rfl) rfl dX9_longest_12 ?_
    refine gg_callVip (As := []) (rest := [.int (xI (x4_7 + x2_7))]) hx hb hml hown hts hK hZ hA (c_X6_steps l D aa cI cZ cJ tR tU s7 _ h) (cwV 0 hts gX9_longest_X6_steps rfl rfl rfl hd_X6_steps ⟨Nat.le_of_ble_eq_true rfl, Nat.le_of_ble_eq_true rfl⟩) 1 rfl rfl rfl rfl (Nat.le_of_ble_eq_true rfl) dX9_longest_15 (fun r15 h => ?_)
    refine gg_icmp_ge (tgt := 57) hx hb h.1 h.2.1 dX9_longest_18 rfl (fun c18 => ?_) (fun c18 => ?_)
    · have h := h.2.2.1 c18
      refine gg_iload_n hx hb 1 rfl rfl dX9_longest_57 ?_
      refine gg_if_eq (tgt := 65) hx hb h.1 dX9_longest_58 rfl (fun c58 => ?_) (fun c58 => ?_)
      · have h := h.2.1 c58
        refine gg_iload_n hx hb 2 rfl rfl dX9_longest_65 ?_
        exact gg_iret hx hb hr hlk h dX9_longest_66
      · have h := h.2.2 c58
        refine gg_iload_n hx hb 3 rfl rfl dX9_longest_61 ?_
        refine gg_goto (tgt := 66) hx hb dX9_longest_62 rfl ?_
        exact gg_iret hx hb hr hlk h dX9_longest_66
    · have h := h.2.2.2 c18
      refine gg_aload_n hx hb 0 rfl rfl dX9_longest_21 ?_
      refine gg_get (C := RX9) (T := TX9) (N := 9) hx hb hts hown hK iX9_longest_X9 0 rfl rfl 1 (by decide) (List.mem_of_getElem? (i := 2) rfl) rfl dX9_longest_22 ?_
      refine gg_aload_n hx hb 0 rfl rfl dX9_longest_25 ?_
      refine gg_get (C := RX9) (T := TX9) (N := 9) hx hb hts hown hK iX9_longest_X9 0 rfl rfl 0 (by decide) (List.mem_of_getElem? (i := 1) rfl) rfl dX9_longest_26 ?_
      refine gg_iload hx hb 4 rfl dX9_longest_29 ?_
      refine gg_callVi (As := [.ref (aa 1), .int (xI x4_7)]) (rest := []) hx hb hml hown hts hK hZ hA (c_X5_farthest l D aa cI cZ cJ tR tU x4_7 s7 _ h) (cwV 2 hts gX9_longest_X5_farthest rfl rfl rfl hd_X5_farthest ⟨Nat.le_of_ble_eq_true rfl, Nat.le_of_ble_eq_true rfl⟩) 5 rfl rfl rfl rfl (Nat.le_of_ble_eq_true rfl) dX9_longest_31 (fun r31 t31 h => ?_)
      refine gg_iload hx hb 4 rfl dX9_longest_34 ?_
      refine gg_isub hx hb dX9_longest_36 ?_
      refine gg_istore (lv' := [(5, .int (xI (r31 - x4_7))), (0, .ref (aa 0)), (1, .int (xI a1)), (2, .int (xI x2_7)), (3, .int (xI x3_7)), (4, .int (xI x4_7))]) hx hb (by decide) rfl dX9_longest_37 ?_
      refine gg_iload hx hb 0 rfl dX9_longest_39 ?_
      refine gg_iload_n hx hb 3 rfl rfl dX9_longest_41 ?_
      refine gg_icmp_le (tgt := 51) hx hb h.1 h.2.1 dX9_longest_42 rfl (fun c42 => ?_) (fun c42 => ?_)
      · have h := h.2.2.1 c42
        refine gg_iinc (lv' := [(4, .int (xI (x4_7 + 1))), (5, .int (xI (r31 - x4_7))), (0, .ref (aa 0)), (1, .int (xI a1)), (2, .int (xI x2_7)), (3, .int (xI x3_7))]) hx hb 5 rfl (by decide) rfl dX9_longest_51 ?_
        refine gg_goto (tgt := 7) hx hb dX9_longest_54 rfl ?_
        refine gg_lv [2, 3, 4, 5, 0] rfl ?_
        exact h
      · have h := h.2.2.2 c42
        refine gg_iload hx hb 0 rfl dX9_longest_45 ?_
        refine gg_istore_n (lv' := [(2, .int (xI (r31 - x4_7))), (5, .int (xI (r31 - x4_7))), (0, .ref (aa 0)), (1, .int (xI a1)), (3, .int (xI x3_7)), (4, .int (xI x4_7))]) hx hb rfl (by decide) rfl dX9_longest_47 ?_
        refine gg_iload hx hb 5 rfl dX9_longest_48 ?_
        refine gg_istore_n (lv' := [(3, .int (xI x4_7)), (2, .int (xI (r31 - x4_7))), (5, .int (xI (r31 - x4_7))), (0, .ref (aa 0)), (1, .int (xI a1)), (4, .int (xI x4_7))]) hx hb rfl (by decide) rfl dX9_longest_50 ?_
        refine gg_iinc (lv' := [(4, .int (xI (x4_7 + 1))), (3, .int (xI x4_7)), (2, .int (xI (r31 - x4_7))), (5, .int (xI (r31 - x4_7))), (0, .ref (aa 0)), (1, .int (xI a1))]) hx hb 5 rfl (by decide) rfl dX9_longest_51 ?_
        refine gg_goto (tgt := 7) hx hb dX9_longest_54 rfl ?_
        refine gg_lv [4, 5, 2, 1, 0] rfl ?_
        exact h)
  refine gg_lv [3, 4, 2, 1, 0] rfl ?_
  exact h
abbrev rmX9_pieces : Room := { frames := 3, cells := 0, slots := 0, locals := 67 }
theorem iX9_pieces_X9 : ∀ w ∈ u_ws RX9 TX9 9, w ∈ wsX9_pieces := (fun _ h => List.mem_cons_of_mem _ (List.mem_append_left _ (List.mem_append_left _ (List.mem_append_right _ h))))
theorem hd_X9_pieces : (yX9_pieces.cls = RX9 ∧ yX9_pieces.cls ≠ "java/lang/invoke/MethodHandle" ∧ yX9_pieces.cls ≠ "java/lang/invoke/VarHandle" ∧ (parseMethodDescriptor yX9_pieces.desc).map (fun d => d.parameters.length) = some 0) := by decide +kernel
set_option maxRecDepth 100000 in
set_option maxHeartbeats 4000000 in
theorem c_X9_pieces (l : Launch) (D : va_G) (aa : Nat → Nat) (cI cZ cJ : ClassId) (tR tU : Nat) (σ : xSt) (Post : Int → xSt → Prop) (h : wp_X9_pieces σ Post) : MI l D (tyL cI cZ cJ) (cX aa cI cZ cJ) tR tU yX9_pieces wsX9_pieces rmX9_pieces [.ref (aa 0)] σ Post := by
  refine mi_of (cc := cX9_pieces) (maxL := 3) (ret := (some .int)) (by decide) rfl (Nat.le_of_ble_eq_true rfl) ?_
  intro p e s m args below meth c A hF
  obtain ⟨hx, hb, hr, hml, hown, hts, hlk, hK, hZ, hA⟩ := hF
  have hown : s.vm.findClass RX9 = some m.cls := hown
  delta wp_X9_pieces at h
  refine gg_lv (lv' := [(0, .ref (aa 0))]) [0] rfl ?_
  refine gg_iconst hx hb dX9_pieces_0 ?_
  refine gg_istore_n (lv' := [(1, .int (xI 0)), (0, .ref (aa 0))]) hx hb rfl (by decide) rfl dX9_pieces_1 ?_
  refine gg_iconst hx hb dX9_pieces_2 ?_
  refine gg_istore_n (lv' := [(2, .int (xI 0)), (1, .int (xI 0)), (0, .ref (aa 0))]) hx hb rfl (by decide) rfl dX9_pieces_3 ?_
  have h := h (fun (x1_4 x2_4 : Int) (s4 : xSt) => GG p l e rmX9_pieces s m args below meth c (QI below D (cX aa cI cZ cJ) A args s Post) A D (cX aa cI cZ cJ) 3 s4 4 [(0, .ref (aa 0)), (1, .int (xI x1_4)), (2, .int (xI x2_4))] [])
  have h := h (by
    intro x1_4 x2_4 s4 h
    refine gg_iload_n hx hb 2 rfl rfl dX9_pieces_4 ?_
    refine gg_aload_n hx hb 0 rfl rfl dX9_pieces_5 ?_
    refine gg_get (C := RX9) (T := TX9) (N := 9) hx hb hts hown hK iX9_pieces_X9 0 rfl rfl 0 (by decide) (List.mem_of_getElem? (i := 1) rfl) rfl dX9_pieces_6 ?_
    refine gg_callVip (As := []) (rest := [.int (xI x2_4)]) hx hb hml hown hts hK hZ hA (c_X6_steps l D aa cI cZ cJ tR tU s4 _ h) (cwV 0 hts gX9_pieces_X6_steps rfl rfl rfl hd_X6_steps ⟨Nat.le_of_ble_eq_true rfl, Nat.le_of_ble_eq_true rfl⟩) 1 rfl rfl rfl rfl (Nat.le_of_ble_eq_true rfl) dX9_pieces_9 (fun r9 h => ?_)
    refine gg_icmp_ge (tgt := 40) hx hb h.1 h.2.1 dX9_pieces_12 rfl (fun c12 => ?_) (fun c12 => ?_)
    · have h := h.2.2.1 c12
      refine gg_iload_n hx hb 1 rfl rfl dX9_pieces_40 ?_
      exact gg_iret hx hb hr hlk h dX9_pieces_41
    · have h := h.2.2.2 c12
      refine gg_iload_n hx hb 1 rfl rfl dX9_pieces_15 ?_
      refine gg_bipush hx hb dX9_pieces_16 rfl ?_
      refine gg_icmp_ge (tgt := 40) hx hb h.1 (by decide) dX9_pieces_18 rfl (fun c18 => ?_) (fun c18 => ?_)
      · have h := h.2.1 c18
        refine gg_iload_n hx hb 1 rfl rfl dX9_pieces_40 ?_
        exact gg_iret hx hb hr hlk h dX9_pieces_41
      · have h := h.2.2 c18
        refine gg_aload_n hx hb 0 rfl rfl dX9_pieces_21 ?_
        refine gg_get (C := RX9) (T := TX9) (N := 9) hx hb hts hown hK iX9_pieces_X9 0 rfl rfl 1 (by decide) (List.mem_of_getElem? (i := 2) rfl) rfl dX9_pieces_22 ?_
        refine gg_aload_n hx hb 0 rfl rfl dX9_pieces_25 ?_
        refine gg_get (C := RX9) (T := TX9) (N := 9) hx hb hts hown hK iX9_pieces_X9 0 rfl rfl 0 (by decide) (List.mem_of_getElem? (i := 1) rfl) rfl dX9_pieces_26 ?_
        refine gg_iload_n hx hb 2 rfl rfl dX9_pieces_29 ?_
        refine gg_callVi (As := [.ref (aa 1), .int (xI x2_4)]) (rest := []) hx hb hml hown hts hK hZ hA (c_X5_farthest l D aa cI cZ cJ tR tU x2_4 s4 _ h) (cwV 2 hts gX9_pieces_X5_farthest rfl rfl rfl hd_X5_farthest ⟨Nat.le_of_ble_eq_true rfl, Nat.le_of_ble_eq_true rfl⟩) 5 rfl rfl rfl rfl (Nat.le_of_ble_eq_true rfl) dX9_pieces_30 (fun r30 t30 h => ?_)
        refine gg_istore_n (lv' := [(2, .int (xI r30)), (0, .ref (aa 0)), (1, .int (xI x1_4))]) hx hb rfl (by decide) rfl dX9_pieces_33 ?_
        refine gg_iinc (lv' := [(1, .int (xI (x1_4 + 1))), (2, .int (xI r30)), (0, .ref (aa 0))]) hx hb 2 rfl (by decide) rfl dX9_pieces_34 ?_
        refine gg_goto (tgt := 4) hx hb dX9_pieces_37 rfl ?_
        refine gg_lv [2, 0, 1] rfl ?_
        exact h)
  refine gg_lv [2, 1, 0] rfl ?_
  exact h
abbrev rmX9_pieceEnd : Room := { frames := 3, cells := 0, slots := 0, locals := 67 }
theorem iX9_pieceEnd_X9 : ∀ w ∈ u_ws RX9 TX9 9, w ∈ wsX9_pieceEnd := (fun _ h => List.mem_cons_of_mem _ (List.mem_append_left _ (List.mem_append_left _ (List.mem_append_right _ h))))
theorem hd_X9_pieceEnd : (yX9_pieceEnd.cls = RX9 ∧ yX9_pieceEnd.cls ≠ "java/lang/invoke/MethodHandle" ∧ yX9_pieceEnd.cls ≠ "java/lang/invoke/VarHandle" ∧ (parseMethodDescriptor yX9_pieceEnd.desc).map (fun d => d.parameters.length) = some 1) := by decide +kernel
set_option maxRecDepth 100000 in
set_option maxHeartbeats 4000000 in
theorem c_X9_pieceEnd (l : Launch) (D : va_G) (aa : Nat → Nat) (cI cZ cJ : ClassId) (tR tU : Nat) (a1 : Int) (σ : xSt) (Post : Int → xSt → Prop) (h : wp_X9_pieceEnd a1 σ Post) : MI l D (tyL cI cZ cJ) (cX aa cI cZ cJ) tR tU yX9_pieceEnd wsX9_pieceEnd rmX9_pieceEnd [.ref (aa 0), .int (xI a1)] σ Post := by
  refine mi_of (cc := cX9_pieceEnd) (maxL := 4) (ret := (some .int)) (by decide) rfl (Nat.le_of_ble_eq_true rfl) ?_
  intro p e s m args below meth c A hF
  obtain ⟨hx, hb, hr, hml, hown, hts, hlk, hK, hZ, hA⟩ := hF
  have hown : s.vm.findClass RX9 = some m.cls := hown
  delta wp_X9_pieceEnd at h
  refine gg_lv (lv' := [(0, .ref (aa 0)), (1, .int (xI a1))]) [0, 1] rfl ?_
  refine gg_iconst hx hb dX9_pieceEnd_0 ?_
  refine gg_istore_n (lv' := [(2, .int (xI 0)), (0, .ref (aa 0)), (1, .int (xI a1))]) hx hb rfl (by decide) rfl dX9_pieceEnd_1 ?_
  refine gg_iconst hx hb dX9_pieceEnd_2 ?_
  refine gg_istore_n (lv' := [(3, .int (xI 0)), (2, .int (xI 0)), (0, .ref (aa 0)), (1, .int (xI a1))]) hx hb rfl (by decide) rfl dX9_pieceEnd_3 ?_
  have h := h (fun (x2_4 x3_4 : Int) (s4 : xSt) => GG p l e rmX9_pieceEnd s m args below meth c (QI below D (cX aa cI cZ cJ) A args s Post) A D (cX aa cI cZ cJ) 4 s4 4 [(0, .ref (aa 0)), (1, .int (xI a1)), (2, .int (xI x2_4)), (3, .int (xI x3_4))] [])
  have h := h (by
    intro x2_4 x3_4 s4 h
    refine gg_iload_n hx hb 3 rfl rfl dX9_pieceEnd_4 ?_
    refine gg_bipush hx hb dX9_pieceEnd_5 rfl ?_
    refine gg_icmp_ge (tgt := 47) hx hb h.1 (by decide) dX9_pieceEnd_7 rfl (fun c7 => ?_) (fun c7 => ?_)
    · have h := h.2.1 c7
      refine gg_sipush hx hb dX9_pieceEnd_47 rfl ?_
      exact gg_iret hx hb hr hlk h dX9_pieceEnd_50
    · have h := h.2.2 c7
      refine gg_iload_n hx hb 2 rfl rfl dX9_pieceEnd_10 ?_
      refine gg_aload_n hx hb 0 rfl rfl dX9_pieceEnd_11 ?_
      refine gg_get (C := RX9) (T := TX9) (N := 9) hx hb hts hown hK iX9_pieceEnd_X9 0 rfl rfl 0 (by decide) (List.mem_of_getElem? (i := 1) rfl) rfl dX9_pieceEnd_12 ?_
      refine gg_callVip (As := []) (rest := [.int (xI x2_4)]) hx hb hml hown hts hK hZ hA (c_X6_steps l D aa cI cZ cJ tR tU s4 _ h) (cwV 0 hts gX9_pieceEnd_X6_steps rfl rfl rfl hd_X6_steps ⟨Nat.le_of_ble_eq_true rfl, Nat.le_of_ble_eq_true rfl⟩) 1 rfl rfl rfl rfl (Nat.le_of_ble_eq_true rfl) dX9_pieceEnd_15 (fun r15 h => ?_)
      refine gg_icmp_ge (tgt := 47) hx hb h.1 h.2.1 dX9_pieceEnd_18 rfl (fun c18 => ?_) (fun c18 => ?_)
      · have h := h.2.2.1 c18
        refine gg_sipush hx hb dX9_pieceEnd_47 rfl ?_
        exact gg_iret hx hb hr hlk h dX9_pieceEnd_50
      · have h := h.2.2.2 c18
        refine gg_aload_n hx hb 0 rfl rfl dX9_pieceEnd_21 ?_
        refine gg_get (C := RX9) (T := TX9) (N := 9) hx hb hts hown hK iX9_pieceEnd_X9 0 rfl rfl 1 (by decide) (List.mem_of_getElem? (i := 2) rfl) rfl dX9_pieceEnd_22 ?_
        refine gg_aload_n hx hb 0 rfl rfl dX9_pieceEnd_25 ?_
        refine gg_get (C := RX9) (T := TX9) (N := 9) hx hb hts hown hK iX9_pieceEnd_X9 0 rfl rfl 0 (by decide) (List.mem_of_getElem? (i := 1) rfl) rfl dX9_pieceEnd_26 ?_
        refine gg_iload_n hx hb 2 rfl rfl dX9_pieceEnd_29 ?_
        refine gg_callVi (As := [.ref (aa 1), .int (xI x2_4)]) (rest := []) hx hb hml hown hts hK hZ hA (c_X5_farthest l D aa cI cZ cJ tR tU x2_4 s4 _ h) (cwV 2 hts gX9_pieceEnd_X5_farthest rfl rfl rfl hd_X5_farthest ⟨Nat.le_of_ble_eq_true rfl, Nat.le_of_ble_eq_true rfl⟩) 5 rfl rfl rfl rfl (Nat.le_of_ble_eq_true rfl) dX9_pieceEnd_30 (fun r30 t30 h => ?_)
        refine gg_istore_n (lv' := [(2, .int (xI r30)), (0, .ref (aa 0)), (1, .int (xI a1)), (3, .int (xI x3_4))]) hx hb rfl (by decide) rfl dX9_pieceEnd_33 ?_
        refine gg_iload_n hx hb 3 rfl rfl dX9_pieceEnd_34 ?_
        refine gg_iload_n hx hb 2 rfl rfl dX9_pieceEnd_35 ?_
        refine gg_icmp_ne (tgt := 41) hx hb h.1 h.2.1 dX9_pieceEnd_36 rfl (fun c36 => ?_) (fun c36 => ?_)
        · have h := h.2.2.1 c36
          refine gg_iinc (lv' := [(3, .int (xI (x3_4 + 1))), (2, .int (xI r30)), (0, .ref (aa 0)), (1, .int (xI a1))]) hx hb 3 rfl (by decide) rfl dX9_pieceEnd_41 ?_
          refine gg_goto (tgt := 4) hx hb dX9_pieceEnd_44 rfl ?_
          refine gg_lv [2, 3, 1, 0] rfl ?_
          exact h
        · have h := h.2.2.2 c36
          refine gg_iload_n hx hb 0 rfl rfl dX9_pieceEnd_39 ?_
          exact gg_iret hx hb hr hlk h dX9_pieceEnd_40)
  refine gg_lv [2, 3, 1, 0] rfl ?_
  exact h
abbrev rmX2_lay : Room := { frames := 0, cells := 0, slots := 0, locals := 0 }
theorem iX2_lay_X2 : ∀ w ∈ u_ws RX2 TX2 3, w ∈ wsX2_lay := (fun _ h => List.mem_cons_of_mem _ (List.mem_append_right _ h))
theorem hd_X2_lay : (yX2_lay.cls = RX2 ∧ yX2_lay.cls ≠ "java/lang/invoke/MethodHandle" ∧ yX2_lay.cls ≠ "java/lang/invoke/VarHandle" ∧ (parseMethodDescriptor yX2_lay.desc).map (fun d => d.parameters.length) = some 2) := by decide +kernel
set_option maxRecDepth 100000 in
set_option maxHeartbeats 4000000 in
theorem c_X2_lay (l : Launch) (D : va_G) (aa : Nat → Nat) (cI cZ cJ : ClassId) (tR tU : Nat) (a1 : Int) (a2 : Int) (σ : xSt) (Post : xSt → Prop) (h : wp_X2_lay a1 a2 σ Post) : MV l D (tyL cI cZ cJ) (cX aa cI cZ cJ) tR tU yX2_lay wsX2_lay rmX2_lay [.ref (aa 7), .int (xI a1), .int (xI a2)] σ Post := by
  refine mv_of (cc := cX2_lay) (maxL := 4) (ret := none) (by decide) rfl (Nat.le_of_ble_eq_true rfl) ?_
  intro p e s m args below meth c A hF
  obtain ⟨hx, hb, hr, hml, hown, hts, hlk, hK, hZ, hA⟩ := hF
  have hown : s.vm.findClass RX2 = some m.cls := hown
  delta wp_X2_lay at h
  refine gg_lv (lv' := [(0, .ref (aa 7)), (1, .int (xI a1)), (2, .int (xI a2))]) [0, 1, 2] rfl ?_
  refine gg_aload_n hx hb 0 rfl rfl dX2_lay_0 ?_
  refine gg_iload_n hx hb 1 rfl rfl dX2_lay_1 ?_
  refine gg_put (C := RX2) (T := TX2) (N := 3) hx hb hts hown hK iX2_lay_X2 tyX2 tyX2_ok nmX2 7 rfl rfl 1 (by decide) (List.mem_of_getElem? (i := 1) rfl) rfl rfl (Nat.le_of_ble_eq_true rfl) (cX_set_7_1 aa cI cZ cJ _ _) dX2_lay_2 (fun σ_2 e2 => ?_)
  have h := h σ_2 e2
  refine gg_aload_n hx hb 0 rfl rfl dX2_lay_5 ?_
  refine gg_iload_n hx hb 2 rfl rfl dX2_lay_6 ?_
  refine gg_put (C := RX2) (T := TX2) (N := 3) hx hb hts hown hK iX2_lay_X2 tyX2 tyX2_ok nmX2 7 rfl rfl 2 (by decide) (List.mem_of_getElem? (i := 2) rfl) rfl rfl (Nat.le_of_ble_eq_true rfl) (cX_set_7_2 aa cI cZ cJ _ _) dX2_lay_7 (fun σ_7 e7 => ?_)
  have h := h σ_7 e7
  refine gg_iconst hx hb dX2_lay_10 ?_
  refine gg_istore_n (lv' := [(3, .int (xI 0)), (0, .ref (aa 7)), (1, .int (xI a1)), (2, .int (xI a2))]) hx hb rfl (by decide) rfl dX2_lay_11 ?_
  have h := h (fun (x3_12 : Int) (s12 : xSt) => GG p l e rmX2_lay s m args below meth c (QV below D (cX aa cI cZ cJ) A args s Post) A D (cX aa cI cZ cJ) 4 s12 12 [(0, .ref (aa 7)), (3, .int (xI x3_12))] [])
  have h := h (by
    intro x3_12 s12 h
    refine gg_iload_n hx hb 1 rfl rfl dX2_lay_12 ?_
    refine gg_sipush hx hb dX2_lay_13 rfl ?_
    refine gg_icmp_ge (tgt := 32) hx hb h.1 (by decide) dX2_lay_16 rfl (fun c16 => ?_) (fun c16 => ?_)
    · have h := h.2.1 c16
      exact gg_vret hx hb hr hlk h dX2_lay_32
    · have h := h.2.2 c16
      refine gg_aload_n hx hb 0 rfl rfl dX2_lay_19 ?_
      refine gg_get (C := RX2) (T := TX2) (N := 3) hx hb hts hown hK iX2_lay_X2 7 rfl rfl 0 (by decide) (List.mem_of_getElem? (i := 3) rfl) rfl dX2_lay_20 ?_
      refine gg_iload_n hx hb 1 rfl rfl dX2_lay_23 ?_
      refine gg_iconst hx hb dX2_lay_24 ?_
      refine gg_zast hx hb hK 8 1 rfl rfl (cX_st_8 aa cI cZ cJ _ _) (by decide) h.1 (Or.inl rfl) dX2_lay_25 (fun σ_25 e25 => ?_)
      have h := h.2 σ_25 e25
      refine gg_iinc (lv' := [(3, .int (xI (x3_12 + 1))), (0, .ref (aa 7))]) hx hb 1 rfl (by decide) rfl dX2_lay_26 ?_
      refine gg_goto (tgt := 12) hx hb dX2_lay_29 rfl ?_
      refine gg_lv [1, 0] rfl ?_
      exact h)
  refine gg_lv [1, 0] rfl ?_
  exact h
abbrev rmX2_fields : Room := { frames := 0, cells := 0, slots := 0, locals := 0 }
theorem iX2_fields_X2 : ∀ w ∈ u_ws RX2 TX2 3, w ∈ wsX2_fields := (fun _ h => List.mem_cons_of_mem _ (List.mem_append_right _ h))
theorem hd_X2_fields : (yX2_fields.cls = RX2 ∧ yX2_fields.cls ≠ "java/lang/invoke/MethodHandle" ∧ yX2_fields.cls ≠ "java/lang/invoke/VarHandle" ∧ (parseMethodDescriptor yX2_fields.desc).map (fun d => d.parameters.length) = some 0) := by decide +kernel
set_option maxRecDepth 100000 in
set_option maxHeartbeats 4000000 in
theorem c_X2_fields (l : Launch) (D : va_G) (aa : Nat → Nat) (cI cZ cJ : ClassId) (tR tU : Nat) (σ : xSt) (Post : Int → Prop) (h : wp_X2_fields σ Post) : MI l D (tyL cI cZ cJ) (cX aa cI cZ cJ) tR tU yX2_fields wsX2_fields rmX2_fields [.ref (aa 7)] σ (fun r9 σ9 => σ9 = σ ∧ Post r9) := by
  refine mi_of (cc := cX2_fields) (maxL := 1) (ret := (some .int)) (by decide) rfl (Nat.le_of_ble_eq_true rfl) ?_
  intro p e s m args below meth c A hF
  obtain ⟨hx, hb, hr, hml, hown, hts, hlk, hK, hZ, hA⟩ := hF
  have hown : s.vm.findClass RX2 = some m.cls := hown
  delta wp_X2_fields at h
  refine gg_lv (lv' := [(0, .ref (aa 7))]) [0] rfl ?_
  refine gg_aload_n hx hb 0 rfl rfl dX2_fields_0 ?_
  refine gg_get (C := RX2) (T := TX2) (N := 3) hx hb hts hown hK iX2_fields_X2 7 rfl rfl 1 (by decide) (List.mem_of_getElem? (i := 1) rfl) rfl dX2_fields_1 ?_
  refine gg_aload_n hx hb 0 rfl rfl dX2_fields_4 ?_
  refine gg_get (C := RX2) (T := TX2) (N := 3) hx hb hts hown hK iX2_fields_X2 7 rfl rfl 2 (by decide) (List.mem_of_getElem? (i := 2) rfl) rfl dX2_fields_5 ?_
  refine gg_imul hx hb dX2_fields_8 ?_
  exact gg_iret hx hb hr hlk ⟨rfl, h⟩ dX2_fields_9
abbrev rmX9_ground : Room := { frames := 1, cells := 0, slots := 0, locals := 23 }
theorem iX9_ground_X9 : ∀ w ∈ u_ws RX9 TX9 9, w ∈ wsX9_ground := (fun _ h => List.mem_cons_of_mem _ (List.mem_append_left _ (List.mem_append_right _ h)))
theorem hd_X9_ground : (yX9_ground.cls = RX9 ∧ yX9_ground.cls ≠ "java/lang/invoke/MethodHandle" ∧ yX9_ground.cls ≠ "java/lang/invoke/VarHandle" ∧ (parseMethodDescriptor yX9_ground.desc).map (fun d => d.parameters.length) = some 2) := by decide +kernel
set_option maxRecDepth 100000 in
set_option maxHeartbeats 4000000 in
theorem c_X9_ground (l : Launch) (D : va_G) (aa : Nat → Nat) (cI cZ cJ : ClassId) (tR tU : Nat) (a1 : Int) (a2 : Int) (σ : xSt) (Post : Int → xSt → Prop) (h : wp_X9_ground a1 a2 σ Post) : MI l D (tyL cI cZ cJ) (cX aa cI cZ cJ) tR tU yX9_ground wsX9_ground rmX9_ground [.ref (aa 0), .int (xI a1), .int (xI a2)] σ Post := by
  refine mi_of (cc := cX9_ground) (maxL := 3) (ret := (some .int)) (by decide) rfl (Nat.le_of_ble_eq_true rfl) ?_
  intro p e s m args below meth c A hF
  obtain ⟨hx, hb, hr, hml, hown, hts, hlk, hK, hZ, hA⟩ := hF
  have hown : s.vm.findClass RX9 = some m.cls := hown
  delta wp_X9_ground at h
  refine gg_lv (lv' := [(0, .ref (aa 0)), (1, .int (xI a1)), (2, .int (xI a2))]) [0, 1, 2] rfl ?_
  refine gg_iload_n hx hb 1 rfl rfl dX9_ground_0 ?_
  refine gg_iconst hx hb dX9_ground_1 ?_
  refine gg_icmp_lt (tgt := 22) hx hb h.1 (by decide) dX9_ground_2 rfl (fun c2 => ?_) (fun c2 => ?_)
  · have h := h.2.1 c2
    refine gg_sipush hx hb dX9_ground_22 rfl ?_
    exact gg_iret hx hb hr hlk h dX9_ground_25
  · have h := h.2.2 c2
    refine gg_iload_n hx hb 1 rfl rfl dX9_ground_5 ?_
    refine gg_bipush hx hb dX9_ground_6 rfl ?_
    refine gg_icmp_gt (tgt := 22) hx hb h.1 (by decide) dX9_ground_8 rfl (fun c8 => ?_) (fun c8 => ?_)
    · have h := h.2.1 c8
      refine gg_sipush hx hb dX9_ground_22 rfl ?_
      exact gg_iret hx hb hr hlk h dX9_ground_25
    · have h := h.2.2 c8
      refine gg_iload_n hx hb 2 rfl rfl dX9_ground_11 ?_
      refine gg_iconst hx hb dX9_ground_12 ?_
      refine gg_icmp_lt (tgt := 22) hx hb h.1 (by decide) dX9_ground_13 rfl (fun c13 => ?_) (fun c13 => ?_)
      · have h := h.2.1 c13
        refine gg_sipush hx hb dX9_ground_22 rfl ?_
        exact gg_iret hx hb hr hlk h dX9_ground_25
      · have h := h.2.2 c13
        refine gg_iload_n hx hb 2 rfl rfl dX9_ground_16 ?_
        refine gg_bipush hx hb dX9_ground_17 rfl ?_
        refine gg_icmp_le (tgt := 26) hx hb h.1 (by decide) dX9_ground_19 rfl (fun c19 => ?_) (fun c19 => ?_)
        · have h := h.2.1 c19
          refine gg_aload_n hx hb 0 rfl rfl dX9_ground_26 ?_
          refine gg_get (C := RX9) (T := TX9) (N := 9) hx hb hts hown hK iX9_ground_X9 0 rfl rfl 2 (by decide) (List.mem_of_getElem? (i := 1) rfl) rfl dX9_ground_27 ?_
          refine gg_iload_n hx hb 1 rfl rfl dX9_ground_30 ?_
          refine gg_iload_n hx hb 2 rfl rfl dX9_ground_31 ?_
          refine gg_callVv (As := [.int (xI a1), .int (xI a2)]) (rest := []) hx hb hml hown hts hK hZ hA (c_X2_lay l D aa cI cZ cJ tR tU a1 a2 σ _ h) (cwV 2 hts gX9_ground_X2_lay rfl rfl rfl hd_X2_lay ⟨Nat.le_of_ble_eq_true rfl, Nat.le_of_ble_eq_true rfl⟩) 7 rfl rfl rfl rfl (Nat.le_of_ble_eq_true rfl) dX9_ground_32 (fun t32 h => ?_)
          refine gg_aload_n hx hb 0 rfl rfl dX9_ground_35 ?_
          refine gg_get (C := RX9) (T := TX9) (N := 9) hx hb hts hown hK iX9_ground_X9 0 rfl rfl 2 (by decide) (List.mem_of_getElem? (i := 1) rfl) rfl dX9_ground_36 ?_
          refine gg_callVip (As := []) (rest := []) hx hb hml hown hts hK hZ hA (c_X2_fields l D aa cI cZ cJ tR tU t32 _ h) (cwV 0 hts gX9_ground_X2_fields rfl rfl rfl hd_X2_fields ⟨Nat.le_of_ble_eq_true rfl, Nat.le_of_ble_eq_true rfl⟩) 7 rfl rfl rfl rfl (Nat.le_of_ble_eq_true rfl) dX9_ground_39 (fun r39 h => ?_)
          exact gg_iret hx hb hr hlk h dX9_ground_42
        · have h := h.2.2 c19
          refine gg_sipush hx hb dX9_ground_22 rfl ?_
          exact gg_iret hx hb hr hlk h dX9_ground_25
abbrev rmX2_knows : Room := { frames := 1, cells := 0, slots := 0, locals := 20 }
theorem hd_X2_knows : (yX2_knows.cls = RX2 ∧ yX2_knows.cls ≠ "java/lang/invoke/MethodHandle" ∧ yX2_knows.cls ≠ "java/lang/invoke/VarHandle" ∧ (parseMethodDescriptor yX2_knows.desc).map (fun d => d.parameters.length) = some 1) := by decide +kernel
set_option maxRecDepth 100000 in
set_option maxHeartbeats 4000000 in
theorem c_X2_knows (l : Launch) (D : va_G) (aa : Nat → Nat) (cI cZ cJ : ClassId) (tR tU : Nat) (a1 : Int) (σ : xSt) (Post : Int → Prop) (h : wp_X2_knows a1 σ Post) : MI l D (tyL cI cZ cJ) (cX aa cI cZ cJ) tR tU yX2_knows wsX2_knows rmX2_knows [.ref (aa 7), .int (xI a1)] σ (fun r9 σ9 => σ9 = σ ∧ Post r9) := by
  refine mi_of (cc := cX2_knows) (maxL := 2) (ret := (some .boolean)) (by decide) rfl (Nat.le_of_ble_eq_true rfl) ?_
  intro p e s m args below meth c A hF
  obtain ⟨hx, hb, hr, hml, hown, hts, hlk, hK, hZ, hA⟩ := hF
  have hown : s.vm.findClass RX2 = some m.cls := hown
  delta wp_X2_knows at h
  refine gg_lv (lv' := [(0, .ref (aa 7)), (1, .int (xI a1))]) [0, 1] rfl ?_
  refine gg_iload_n hx hb 1 rfl rfl dX2_knows_0 ?_
  refine gg_if_lt (tgt := 16) hx hb h.1 dX2_knows_1 rfl (fun c1 => ?_) (fun c1 => ?_)
  · have h := h.2.1 c1
    refine gg_iconst hx hb dX2_knows_16 ?_
    exact gg_zret hx hb hr hlk (Or.inl rfl) ⟨rfl, h⟩ dX2_knows_17
  · have h := h.2.2 c1
    refine gg_iload_n hx hb 1 rfl rfl dX2_knows_4 ?_
    refine gg_aload_n hx hb 0 rfl rfl dX2_knows_5 ?_
    refine gg_callVip (As := []) (rest := [.int (xI a1)]) hx hb hml hown hts hK hZ hA (c_X2_fields l D aa cI cZ cJ tR tU σ _ h) (cwV 0 hts gX2_knows_X2_fields rfl rfl rfl hd_X2_fields ⟨Nat.le_of_ble_eq_true rfl, Nat.le_of_ble_eq_true rfl⟩) 7 rfl rfl rfl rfl (Nat.le_of_ble_eq_true rfl) dX2_knows_6 (fun r6 h => ?_)
    refine gg_icmp_ge (tgt := 16) hx hb h.1 h.2.1 dX2_knows_9 rfl (fun c9 => ?_) (fun c9 => ?_)
    · have h := h.2.2.1 c9
      refine gg_iconst hx hb dX2_knows_16 ?_
      exact gg_zret hx hb hr hlk (Or.inl rfl) ⟨rfl, h⟩ dX2_knows_17
    · have h := h.2.2.2 c9
      refine gg_iconst hx hb dX2_knows_12 ?_
      refine gg_goto (tgt := 17) hx hb dX2_knows_13 rfl ?_
      exact gg_zret hx hb hr hlk (Or.inr rfl) ⟨rfl, h⟩ dX2_knows_17
abbrev rmX2_holds : Room := { frames := 2, cells := 0, slots := 0, locals := 41 }
theorem iX2_holds_X2 : ∀ w ∈ u_ws RX2 TX2 3, w ∈ wsX2_holds := (fun _ h => List.mem_cons_of_mem _ (List.mem_append_right _ h))
theorem hd_X2_holds : (yX2_holds.cls = RX2 ∧ yX2_holds.cls ≠ "java/lang/invoke/MethodHandle" ∧ yX2_holds.cls ≠ "java/lang/invoke/VarHandle" ∧ (parseMethodDescriptor yX2_holds.desc).map (fun d => d.parameters.length) = some 1) := by decide +kernel
set_option maxRecDepth 100000 in
set_option maxHeartbeats 4000000 in
theorem c_X2_holds (l : Launch) (D : va_G) (aa : Nat → Nat) (cI cZ cJ : ClassId) (tR tU : Nat) (a1 : Int) (σ : xSt) (Post : Int → Prop) (h : wp_X2_holds a1 σ Post) : MI l D (tyL cI cZ cJ) (cX aa cI cZ cJ) tR tU yX2_holds wsX2_holds rmX2_holds [.ref (aa 7), .int (xI a1)] σ (fun r9 σ9 => σ9 = σ ∧ Post r9) := by
  refine mi_of (cc := cX2_holds) (maxL := 2) (ret := (some .boolean)) (by decide) rfl (Nat.le_of_ble_eq_true rfl) ?_
  intro p e s m args below meth c A hF
  obtain ⟨hx, hb, hr, hml, hown, hts, hlk, hK, hZ, hA⟩ := hF
  have hown : s.vm.findClass RX2 = some m.cls := hown
  delta wp_X2_holds at h
  refine gg_lv (lv' := [(0, .ref (aa 7)), (1, .int (xI a1))]) [0, 1] rfl ?_
  refine gg_aload_n hx hb 0 rfl rfl dX2_holds_0 ?_
  refine gg_iload_n hx hb 1 rfl rfl dX2_holds_1 ?_
  refine gg_callVip (As := [.int (xI a1)]) (rest := []) hx hb hml hown hts hK hZ hA (c_X2_knows l D aa cI cZ cJ tR tU a1 σ _ h) (cwV 1 hts gX2_holds_X2_knows rfl rfl rfl hd_X2_knows ⟨Nat.le_of_ble_eq_true rfl, Nat.le_of_ble_eq_true rfl⟩) 7 rfl rfl rfl rfl (Nat.le_of_ble_eq_true rfl) dX2_holds_2 (fun r2 h => ?_)
  refine gg_if_eq (tgt := 21) hx hb h.1 dX2_holds_5 rfl (fun c5 => ?_) (fun c5 => ?_)
  · have h := h.2.1 c5
    refine gg_iconst hx hb dX2_holds_21 ?_
    exact gg_zret hx hb hr hlk (Or.inl rfl) ⟨rfl, h⟩ dX2_holds_22
  · have h := h.2.2 c5
    refine gg_aload_n hx hb 0 rfl rfl dX2_holds_8 ?_
    refine gg_get (C := RX2) (T := TX2) (N := 3) hx hb hts hown hK iX2_holds_X2 7 rfl rfl 0 (by decide) (List.mem_of_getElem? (i := 1) rfl) rfl dX2_holds_9 ?_
    refine gg_iload_n hx hb 1 rfl rfl dX2_holds_12 ?_
    refine gg_zald hx hb hK 8 1 rfl rfl (by decide) h.1 dX2_holds_13 ?_
    have h := h.2
    refine gg_if_eq (tgt := 21) hx hb h.1 dX2_holds_14 rfl (fun c14 => ?_) (fun c14 => ?_)
    · have h := h.2.1 c14
      refine gg_iconst hx hb dX2_holds_21 ?_
      exact gg_zret hx hb hr hlk (Or.inl rfl) ⟨rfl, h⟩ dX2_holds_22
    · have h := h.2.2 c14
      refine gg_iconst hx hb dX2_holds_17 ?_
      refine gg_goto (tgt := 22) hx hb dX2_holds_18 rfl ?_
      exact gg_zret hx hb hr hlk (Or.inr rfl) ⟨rfl, h⟩ dX2_holds_22
abbrev rmX2_put : Room := { frames := 2, cells := 0, slots := 0, locals := 41 }
theorem iX2_put_X2 : ∀ w ∈ u_ws RX2 TX2 3, w ∈ wsX2_put := (fun _ h => List.mem_cons_of_mem _ (List.mem_append_right _ h))
theorem hd_X2_put : (yX2_put.cls = RX2 ∧ yX2_put.cls ≠ "java/lang/invoke/MethodHandle" ∧ yX2_put.cls ≠ "java/lang/invoke/VarHandle" ∧ (parseMethodDescriptor yX2_put.desc).map (fun d => d.parameters.length) = some 2) := by decide +kernel
set_option maxRecDepth 100000 in
set_option maxHeartbeats 4000000 in
theorem c_X2_put (l : Launch) (D : va_G) (aa : Nat → Nat) (cI cZ cJ : ClassId) (tR tU : Nat) (a1 : Int) (a2 : Int) (σ : xSt) (Post : xSt → Prop) (h : wp_X2_put a1 a2 σ Post) : MV l D (tyL cI cZ cJ) (cX aa cI cZ cJ) tR tU yX2_put wsX2_put rmX2_put [.ref (aa 7), .int (xI a1), .int (xI a2)] σ Post := by
  refine mv_of (cc := cX2_put) (maxL := 3) (ret := none) (by decide) rfl (Nat.le_of_ble_eq_true rfl) ?_
  intro p e s m args below meth c A hF
  obtain ⟨hx, hb, hr, hml, hown, hts, hlk, hK, hZ, hA⟩ := hF
  have hown : s.vm.findClass RX2 = some m.cls := hown
  delta wp_X2_put at h
  refine gg_lv (lv' := [(0, .ref (aa 7)), (1, .int (xI a1)), (2, .int (xI a2))]) [0, 1, 2] rfl ?_
  refine gg_aload_n hx hb 0 rfl rfl dX2_put_0 ?_
  refine gg_iload_n hx hb 1 rfl rfl dX2_put_1 ?_
  refine gg_callVip (As := [.int (xI a1)]) (rest := []) hx hb hml hown hts hK hZ hA (c_X2_knows l D aa cI cZ cJ tR tU a1 σ _ h) (cwV 1 hts gX2_put_X2_knows rfl rfl rfl hd_X2_knows ⟨Nat.le_of_ble_eq_true rfl, Nat.le_of_ble_eq_true rfl⟩) 7 rfl rfl rfl rfl (Nat.le_of_ble_eq_true rfl) dX2_put_2 (fun r2 h => ?_)
  refine gg_if_eq (tgt := 15) hx hb h.1 dX2_put_5 rfl (fun c5 => ?_) (fun c5 => ?_)
  · have h := h.2.1 c5
    exact gg_vret hx hb hr hlk h dX2_put_15
  · have h := h.2.2 c5
    refine gg_aload_n hx hb 0 rfl rfl dX2_put_8 ?_
    refine gg_get (C := RX2) (T := TX2) (N := 3) hx hb hts hown hK iX2_put_X2 7 rfl rfl 0 (by decide) (List.mem_of_getElem? (i := 1) rfl) rfl dX2_put_9 ?_
    refine gg_iload_n hx hb 1 rfl rfl dX2_put_12 ?_
    refine gg_iload_n hx hb 2 rfl rfl dX2_put_13 ?_
    refine gg_zast hx hb hK 8 1 rfl rfl (cX_st_8 aa cI cZ cJ _ _) (by decide) h.1 h.2.1 dX2_put_14 (fun σ_14 e14 => ?_)
    have h := h.2.2 σ_14 e14
    exact gg_vret hx hb hr hlk h dX2_put_15
abbrev rmX9_set : Room := { frames := 3, cells := 0, slots := 0, locals := 63 }
theorem iX9_set_X9 : ∀ w ∈ u_ws RX9 TX9 9, w ∈ wsX9_set := (fun _ h => List.mem_cons_of_mem _ (List.mem_append_left _ (List.mem_append_right _ h)))
theorem hd_X9_set : (yX9_set.cls = RX9 ∧ yX9_set.cls ≠ "java/lang/invoke/MethodHandle" ∧ yX9_set.cls ≠ "java/lang/invoke/VarHandle" ∧ (parseMethodDescriptor yX9_set.desc).map (fun d => d.parameters.length) = some 2) := by decide +kernel
set_option maxRecDepth 100000 in
set_option maxHeartbeats 4000000 in
theorem c_X9_set (l : Launch) (D : va_G) (aa : Nat → Nat) (cI cZ cJ : ClassId) (tR tU : Nat) (a1 : Int) (a2 : Int) (σ : xSt) (Post : Int → xSt → Prop) (h : wp_X9_set a1 a2 σ Post) : MI l D (tyL cI cZ cJ) (cX aa cI cZ cJ) tR tU yX9_set wsX9_set rmX9_set [.ref (aa 0), .int (xI a1), .int (xI a2)] σ Post := by
  refine mi_of (cc := cX9_set) (maxL := 4) (ret := (some .int)) (by decide) rfl (Nat.le_of_ble_eq_true rfl) ?_
  intro p e s m args below meth c A hF
  obtain ⟨hx, hb, hr, hml, hown, hts, hlk, hK, hZ, hA⟩ := hF
  have hown : s.vm.findClass RX9 = some m.cls := hown
  delta wp_X9_set at h
  refine gg_lv (lv' := [(0, .ref (aa 0)), (1, .int (xI a1)), (2, .int (xI a2))]) [0, 1, 2] rfl ?_
  refine gg_aload_n hx hb 0 rfl rfl dX9_set_0 ?_
  refine gg_get (C := RX9) (T := TX9) (N := 9) hx hb hts hown hK iX9_set_X9 0 rfl rfl 2 (by decide) (List.mem_of_getElem? (i := 1) rfl) rfl dX9_set_1 ?_
  refine gg_iload_n hx hb 1 rfl rfl dX9_set_4 ?_
  refine gg_callVip (As := [.int (xI a1)]) (rest := []) hx hb hml hown hts hK hZ hA (c_X2_knows l D aa cI cZ cJ tR tU a1 σ _ h) (cwV 1 hts gX9_set_X2_knows rfl rfl rfl hd_X2_knows ⟨Nat.le_of_ble_eq_true rfl, Nat.le_of_ble_eq_true rfl⟩) 7 rfl rfl rfl rfl (Nat.le_of_ble_eq_true rfl) dX9_set_5 (fun r5 h => ?_)
  refine gg_if_ne (tgt := 15) hx hb h.1 dX9_set_8 rfl (fun c8 => ?_) (fun c8 => ?_)
  · have h := h.2.1 c8
    refine gg_aload_n hx hb 0 rfl rfl dX9_set_15 ?_
    refine gg_get (C := RX9) (T := TX9) (N := 9) hx hb hts hown hK iX9_set_X9 0 rfl rfl 2 (by decide) (List.mem_of_getElem? (i := 1) rfl) rfl dX9_set_16 ?_
    refine gg_iload_n hx hb 1 rfl rfl dX9_set_19 ?_
    refine gg_callVip (As := [.int (xI a1)]) (rest := []) hx hb hml hown hts hK hZ hA (c_X2_holds l D aa cI cZ cJ tR tU a1 σ _ h) (cwV 1 hts gX9_set_X2_holds rfl rfl rfl hd_X2_holds ⟨Nat.le_of_ble_eq_true rfl, Nat.le_of_ble_eq_true rfl⟩) 7 rfl rfl rfl rfl (Nat.le_of_ble_eq_true rfl) dX9_set_20 (fun r20 h => ?_)
    have h := h (fun (y0_31 : Int) => GG p l e rmX9_set s m args below meth c (QI below D (cX aa cI cZ cJ) A args s Post) A D (cX aa cI cZ cJ) 4 σ 31 [(0, .ref (aa 0)), (1, .int (xI a1)), (2, .int (xI a2))] [.int (xI y0_31)])
    have h := h (by
      intro y0_31 h
      refine gg_istore_n (lv' := [(3, .int (xI y0_31)), (0, .ref (aa 0)), (1, .int (xI a1)), (2, .int (xI a2))]) hx hb rfl (by decide) rfl dX9_set_31 ?_
      refine gg_aload_n hx hb 1 rfl rfl dX9_set_32 ?_
      refine gg_get (C := RX9) (T := TX9) (N := 9) hx hb hts hown hK iX9_set_X9 0 rfl rfl 2 (by decide) (List.mem_of_getElem? (i := 1) rfl) rfl dX9_set_33 ?_
      refine gg_iload_n hx hb 2 rfl rfl dX9_set_36 ?_
      refine gg_iload_n hx hb 3 rfl rfl dX9_set_37 ?_
      refine gg_callVv (As := [.int (xI a1), .int (xI a2)]) (rest := []) hx hb hml hown hts hK hZ hA (c_X2_put l D aa cI cZ cJ tR tU a1 a2 σ _ h) (cwV 2 hts gX9_set_X2_put rfl rfl rfl hd_X2_put ⟨Nat.le_of_ble_eq_true rfl, Nat.le_of_ble_eq_true rfl⟩) 7 rfl rfl rfl rfl (Nat.le_of_ble_eq_true rfl) dX9_set_38 (fun t38 h => ?_)
      refine gg_iload_n hx hb 0 rfl rfl dX9_set_41 ?_
      exact gg_iret hx hb hr hlk h dX9_set_42)
    refine gg_if_eq (tgt := 30) hx hb h.1 dX9_set_23 rfl (fun c23 => ?_) (fun c23 => ?_)
    · have h := h.2.1 c23
      refine gg_iconst hx hb dX9_set_30 ?_
      exact h
    · have h := h.2.2 c23
      refine gg_iconst hx hb dX9_set_26 ?_
      refine gg_goto (tgt := 31) hx hb dX9_set_27 rfl ?_
      exact h
  · have h := h.2.2 c8
    refine gg_sipush hx hb dX9_set_11 rfl ?_
    exact gg_iret hx hb hr hlk h dX9_set_14
abbrev rmX9_has : Room := { frames := 3, cells := 0, slots := 0, locals := 62 }
theorem iX9_has_X9 : ∀ w ∈ u_ws RX9 TX9 9, w ∈ wsX9_has := (fun _ h => List.mem_cons_of_mem _ (List.mem_append_left _ (List.mem_append_right _ h)))
theorem hd_X9_has : (yX9_has.cls = RX9 ∧ yX9_has.cls ≠ "java/lang/invoke/MethodHandle" ∧ yX9_has.cls ≠ "java/lang/invoke/VarHandle" ∧ (parseMethodDescriptor yX9_has.desc).map (fun d => d.parameters.length) = some 1) := by decide +kernel
set_option maxRecDepth 100000 in
set_option maxHeartbeats 4000000 in
theorem c_X9_has (l : Launch) (D : va_G) (aa : Nat → Nat) (cI cZ cJ : ClassId) (tR tU : Nat) (a1 : Int) (σ : xSt) (Post : Int → Prop) (h : wp_X9_has a1 σ Post) : MI l D (tyL cI cZ cJ) (cX aa cI cZ cJ) tR tU yX9_has wsX9_has rmX9_has [.ref (aa 0), .int (xI a1)] σ (fun r9 σ9 => σ9 = σ ∧ Post r9) := by
  refine mi_of (cc := cX9_has) (maxL := 2) (ret := (some .int)) (by decide) rfl (Nat.le_of_ble_eq_true rfl) ?_
  intro p e s m args below meth c A hF
  obtain ⟨hx, hb, hr, hml, hown, hts, hlk, hK, hZ, hA⟩ := hF
  have hown : s.vm.findClass RX9 = some m.cls := hown
  delta wp_X9_has at h
  refine gg_lv (lv' := [(0, .ref (aa 0)), (1, .int (xI a1))]) [0, 1] rfl ?_
  refine gg_aload_n hx hb 0 rfl rfl dX9_has_0 ?_
  refine gg_get (C := RX9) (T := TX9) (N := 9) hx hb hts hown hK iX9_has_X9 0 rfl rfl 2 (by decide) (List.mem_of_getElem? (i := 1) rfl) rfl dX9_has_1 ?_
  refine gg_iload_n hx hb 1 rfl rfl dX9_has_4 ?_
  refine gg_callVip (As := [.int (xI a1)]) (rest := []) hx hb hml hown hts hK hZ hA (c_X2_knows l D aa cI cZ cJ tR tU a1 σ _ h) (cwV 1 hts gX9_has_X2_knows rfl rfl rfl hd_X2_knows ⟨Nat.le_of_ble_eq_true rfl, Nat.le_of_ble_eq_true rfl⟩) 7 rfl rfl rfl rfl (Nat.le_of_ble_eq_true rfl) dX9_has_5 (fun r5 h => ?_)
  refine gg_if_ne (tgt := 15) hx hb h.1 dX9_has_8 rfl (fun c8 => ?_) (fun c8 => ?_)
  · have h := h.2.1 c8
    refine gg_aload_n hx hb 0 rfl rfl dX9_has_15 ?_
    refine gg_get (C := RX9) (T := TX9) (N := 9) hx hb hts hown hK iX9_has_X9 0 rfl rfl 2 (by decide) (List.mem_of_getElem? (i := 1) rfl) rfl dX9_has_16 ?_
    refine gg_iload_n hx hb 1 rfl rfl dX9_has_19 ?_
    refine gg_callVip (As := [.int (xI a1)]) (rest := []) hx hb hml hown hts hK hZ hA (c_X2_holds l D aa cI cZ cJ tR tU a1 σ _ h) (cwV 1 hts gX9_has_X2_holds rfl rfl rfl hd_X2_holds ⟨Nat.le_of_ble_eq_true rfl, Nat.le_of_ble_eq_true rfl⟩) 7 rfl rfl rfl rfl (Nat.le_of_ble_eq_true rfl) dX9_has_20 (fun r20 h => ?_)
    refine gg_if_eq (tgt := 30) hx hb h.1 dX9_has_23 rfl (fun c23 => ?_) (fun c23 => ?_)
    · have h := h.2.1 c23
      refine gg_iconst hx hb dX9_has_30 ?_
      exact gg_iret hx hb hr hlk ⟨rfl, h⟩ dX9_has_31
    · have h := h.2.2 c23
      refine gg_iconst hx hb dX9_has_26 ?_
      refine gg_goto (tgt := 31) hx hb dX9_has_27 rfl ?_
      exact gg_iret hx hb hr hlk ⟨rfl, h⟩ dX9_has_31
  · have h := h.2.2 c8
    refine gg_sipush hx hb dX9_has_11 rfl ?_
    exact gg_iret hx hb hr hlk ⟨rfl, h⟩ dX9_has_14
abbrev rmX2_columnOf : Room := { frames := 0, cells := 0, slots := 0, locals := 0 }
theorem iX2_columnOf_X2 : ∀ w ∈ u_ws RX2 TX2 3, w ∈ wsX2_columnOf := (fun _ h => List.mem_cons_of_mem _ (List.mem_append_right _ h))
theorem hd_X2_columnOf : (yX2_columnOf.cls = RX2 ∧ yX2_columnOf.cls ≠ "java/lang/invoke/MethodHandle" ∧ yX2_columnOf.cls ≠ "java/lang/invoke/VarHandle" ∧ (parseMethodDescriptor yX2_columnOf.desc).map (fun d => d.parameters.length) = some 1) := by decide +kernel
set_option maxRecDepth 100000 in
set_option maxHeartbeats 4000000 in
theorem c_X2_columnOf (l : Launch) (D : va_G) (aa : Nat → Nat) (cI cZ cJ : ClassId) (tR tU : Nat) (a1 : Int) (σ : xSt) (Post : Int → Prop) (h : wp_X2_columnOf a1 σ Post) : MI l D (tyL cI cZ cJ) (cX aa cI cZ cJ) tR tU yX2_columnOf wsX2_columnOf rmX2_columnOf [.ref (aa 7), .int (xI a1)] σ (fun r9 σ9 => σ9 = σ ∧ Post r9) := by
  refine mi_of (cc := cX2_columnOf) (maxL := 2) (ret := (some .int)) (by decide) rfl (Nat.le_of_ble_eq_true rfl) ?_
  intro p e s m args below meth c A hF
  obtain ⟨hx, hb, hr, hml, hown, hts, hlk, hK, hZ, hA⟩ := hF
  have hown : s.vm.findClass RX2 = some m.cls := hown
  delta wp_X2_columnOf at h
  refine gg_lv (lv' := [(0, .ref (aa 7)), (1, .int (xI a1))]) [0, 1] rfl ?_
  refine gg_aload_n hx hb 0 rfl rfl dX2_columnOf_0 ?_
  refine gg_get (C := RX2) (T := TX2) (N := 3) hx hb hts hown hK iX2_columnOf_X2 7 rfl rfl 1 (by decide) (List.mem_of_getElem? (i := 1) rfl) rfl dX2_columnOf_1 ?_
  refine gg_if_le (tgt := 16) hx hb h.1 dX2_columnOf_4 rfl (fun c4 => ?_) (fun c4 => ?_)
  · have h := h.2.1 c4
    refine gg_iconst hx hb dX2_columnOf_16 ?_
    exact gg_iret hx hb hr hlk ⟨rfl, h⟩ dX2_columnOf_17
  · have h := h.2.2 c4
    refine gg_iload_n hx hb 1 rfl rfl dX2_columnOf_7 ?_
    refine gg_aload_n hx hb 0 rfl rfl dX2_columnOf_8 ?_
    refine gg_get (C := RX2) (T := TX2) (N := 3) hx hb hts hown hK iX2_columnOf_X2 7 rfl rfl 1 (by decide) (List.mem_of_getElem? (i := 1) rfl) rfl dX2_columnOf_9 ?_
    refine gg_irem hx hb h.1 h.2.1 h.2.2.1 dX2_columnOf_12 ?_
    have h := h.2.2.2
    refine gg_goto (tgt := 17) hx hb dX2_columnOf_13 rfl ?_
    exact gg_iret hx hb hr hlk ⟨rfl, h⟩ dX2_columnOf_17
abbrev rmX2_lineOf : Room := { frames := 0, cells := 0, slots := 0, locals := 0 }
theorem iX2_lineOf_X2 : ∀ w ∈ u_ws RX2 TX2 3, w ∈ wsX2_lineOf := (fun _ h => List.mem_cons_of_mem _ (List.mem_append_right _ h))
theorem hd_X2_lineOf : (yX2_lineOf.cls = RX2 ∧ yX2_lineOf.cls ≠ "java/lang/invoke/MethodHandle" ∧ yX2_lineOf.cls ≠ "java/lang/invoke/VarHandle" ∧ (parseMethodDescriptor yX2_lineOf.desc).map (fun d => d.parameters.length) = some 1) := by decide +kernel
set_option maxRecDepth 100000 in
set_option maxHeartbeats 4000000 in
theorem c_X2_lineOf (l : Launch) (D : va_G) (aa : Nat → Nat) (cI cZ cJ : ClassId) (tR tU : Nat) (a1 : Int) (σ : xSt) (Post : Int → Prop) (h : wp_X2_lineOf a1 σ Post) : MI l D (tyL cI cZ cJ) (cX aa cI cZ cJ) tR tU yX2_lineOf wsX2_lineOf rmX2_lineOf [.ref (aa 7), .int (xI a1)] σ (fun r9 σ9 => σ9 = σ ∧ Post r9) := by
  refine mi_of (cc := cX2_lineOf) (maxL := 2) (ret := (some .int)) (by decide) rfl (Nat.le_of_ble_eq_true rfl) ?_
  intro p e s m args below meth c A hF
  obtain ⟨hx, hb, hr, hml, hown, hts, hlk, hK, hZ, hA⟩ := hF
  have hown : s.vm.findClass RX2 = some m.cls := hown
  delta wp_X2_lineOf at h
  refine gg_lv (lv' := [(0, .ref (aa 7)), (1, .int (xI a1))]) [0, 1] rfl ?_
  refine gg_aload_n hx hb 0 rfl rfl dX2_lineOf_0 ?_
  refine gg_get (C := RX2) (T := TX2) (N := 3) hx hb hts hown hK iX2_lineOf_X2 7 rfl rfl 1 (by decide) (List.mem_of_getElem? (i := 1) rfl) rfl dX2_lineOf_1 ?_
  refine gg_if_le (tgt := 16) hx hb h.1 dX2_lineOf_4 rfl (fun c4 => ?_) (fun c4 => ?_)
  · have h := h.2.1 c4
    refine gg_iconst hx hb dX2_lineOf_16 ?_
    exact gg_iret hx hb hr hlk ⟨rfl, h⟩ dX2_lineOf_17
  · have h := h.2.2 c4
    refine gg_iload_n hx hb 1 rfl rfl dX2_lineOf_7 ?_
    refine gg_aload_n hx hb 0 rfl rfl dX2_lineOf_8 ?_
    refine gg_get (C := RX2) (T := TX2) (N := 3) hx hb hts hown hK iX2_lineOf_X2 7 rfl rfl 1 (by decide) (List.mem_of_getElem? (i := 1) rfl) rfl dX2_lineOf_9 ?_
    refine gg_idiv hx hb h.1 h.2.1 h.2.2.1 dX2_lineOf_12 ?_
    have h := h.2.2.2
    refine gg_goto (tgt := 17) hx hb dX2_lineOf_13 rfl ?_
    exact gg_iret hx hb hr hlk ⟨rfl, h⟩ dX2_lineOf_17
abbrev rmX2_fieldAt : Room := { frames := 0, cells := 0, slots := 0, locals := 0 }
theorem iX2_fieldAt_X2 : ∀ w ∈ u_ws RX2 TX2 3, w ∈ wsX2_fieldAt := (fun _ h => List.mem_cons_of_mem _ (List.mem_append_right _ h))
theorem hd_X2_fieldAt : (yX2_fieldAt.cls = RX2 ∧ yX2_fieldAt.cls ≠ "java/lang/invoke/MethodHandle" ∧ yX2_fieldAt.cls ≠ "java/lang/invoke/VarHandle" ∧ (parseMethodDescriptor yX2_fieldAt.desc).map (fun d => d.parameters.length) = some 2) := by decide +kernel
set_option maxRecDepth 100000 in
set_option maxHeartbeats 4000000 in
theorem c_X2_fieldAt (l : Launch) (D : va_G) (aa : Nat → Nat) (cI cZ cJ : ClassId) (tR tU : Nat) (a1 : Int) (a2 : Int) (σ : xSt) (Post : Int → Prop) (h : wp_X2_fieldAt a1 a2 σ Post) : MI l D (tyL cI cZ cJ) (cX aa cI cZ cJ) tR tU yX2_fieldAt wsX2_fieldAt rmX2_fieldAt [.ref (aa 7), .int (xI a1), .int (xI a2)] σ (fun r9 σ9 => σ9 = σ ∧ Post r9) := by
  refine mi_of (cc := cX2_fieldAt) (maxL := 3) (ret := (some .int)) (by decide) rfl (Nat.le_of_ble_eq_true rfl) ?_
  intro p e s m args below meth c A hF
  obtain ⟨hx, hb, hr, hml, hown, hts, hlk, hK, hZ, hA⟩ := hF
  have hown : s.vm.findClass RX2 = some m.cls := hown
  delta wp_X2_fieldAt at h
  refine gg_lv (lv' := [(0, .ref (aa 7)), (1, .int (xI a1)), (2, .int (xI a2))]) [0, 1, 2] rfl ?_
  refine gg_iload_n hx hb 1 rfl rfl dX2_fieldAt_0 ?_
  refine gg_if_lt (tgt := 35) hx hb h.1 dX2_fieldAt_1 rfl (fun c1 => ?_) (fun c1 => ?_)
  · have h := h.2.1 c1
    refine gg_sipush hx hb dX2_fieldAt_35 rfl ?_
    exact gg_iret hx hb hr hlk ⟨rfl, h⟩ dX2_fieldAt_38
  · have h := h.2.2 c1
    refine gg_iload_n hx hb 1 rfl rfl dX2_fieldAt_4 ?_
    refine gg_aload_n hx hb 0 rfl rfl dX2_fieldAt_5 ?_
    refine gg_get (C := RX2) (T := TX2) (N := 3) hx hb hts hown hK iX2_fieldAt_X2 7 rfl rfl 1 (by decide) (List.mem_of_getElem? (i := 1) rfl) rfl dX2_fieldAt_6 ?_
    refine gg_icmp_ge (tgt := 35) hx hb h.1 h.2.1 dX2_fieldAt_9 rfl (fun c9 => ?_) (fun c9 => ?_)
    · have h := h.2.2.1 c9
      refine gg_sipush hx hb dX2_fieldAt_35 rfl ?_
      exact gg_iret hx hb hr hlk ⟨rfl, h⟩ dX2_fieldAt_38
    · have h := h.2.2.2 c9
      refine gg_iload_n hx hb 2 rfl rfl dX2_fieldAt_12 ?_
      refine gg_if_lt (tgt := 35) hx hb h.1 dX2_fieldAt_13 rfl (fun c13 => ?_) (fun c13 => ?_)
      · have h := h.2.1 c13
        refine gg_sipush hx hb dX2_fieldAt_35 rfl ?_
        exact gg_iret hx hb hr hlk ⟨rfl, h⟩ dX2_fieldAt_38
      · have h := h.2.2 c13
        refine gg_iload_n hx hb 2 rfl rfl dX2_fieldAt_16 ?_
        refine gg_aload_n hx hb 0 rfl rfl dX2_fieldAt_17 ?_
        refine gg_get (C := RX2) (T := TX2) (N := 3) hx hb hts hown hK iX2_fieldAt_X2 7 rfl rfl 2 (by decide) (List.mem_of_getElem? (i := 2) rfl) rfl dX2_fieldAt_18 ?_
        refine gg_icmp_ge (tgt := 35) hx hb h.1 h.2.1 dX2_fieldAt_21 rfl (fun c21 => ?_) (fun c21 => ?_)
        · have h := h.2.2.1 c21
          refine gg_sipush hx hb dX2_fieldAt_35 rfl ?_
          exact gg_iret hx hb hr hlk ⟨rfl, h⟩ dX2_fieldAt_38
        · have h := h.2.2.2 c21
          refine gg_iload_n hx hb 2 rfl rfl dX2_fieldAt_24 ?_
          refine gg_aload_n hx hb 0 rfl rfl dX2_fieldAt_25 ?_
          refine gg_get (C := RX2) (T := TX2) (N := 3) hx hb hts hown hK iX2_fieldAt_X2 7 rfl rfl 1 (by decide) (List.mem_of_getElem? (i := 1) rfl) rfl dX2_fieldAt_26 ?_
          refine gg_imul hx hb dX2_fieldAt_29 ?_
          refine gg_iload_n hx hb 1 rfl rfl dX2_fieldAt_30 ?_
          refine gg_iadd hx hb dX2_fieldAt_31 ?_
          refine gg_goto (tgt := 38) hx hb dX2_fieldAt_32 rfl ?_
          exact gg_iret hx hb hr hlk ⟨rfl, h⟩ dX2_fieldAt_38
abbrev rmX8_follow : Room := { frames := 2, cells := 0, slots := 0, locals := 42 }
theorem iX8_follow_X8 : ∀ w ∈ u_ws RX8 TX8 1, w ∈ wsX8_follow := (fun _ h => List.mem_cons_of_mem _ (List.mem_append_left _ (List.mem_append_left _ (List.mem_append_right _ h))))
theorem hd_X8_follow : (yX8_follow.cls = RX8 ∧ yX8_follow.cls ≠ "java/lang/invoke/MethodHandle" ∧ yX8_follow.cls ≠ "java/lang/invoke/VarHandle" ∧ (parseMethodDescriptor yX8_follow.desc).map (fun d => d.parameters.length) = some 3) := by decide +kernel
set_option maxRecDepth 100000 in
set_option maxHeartbeats 4000000 in
theorem c_X8_follow (l : Launch) (D : va_G) (aa : Nat → Nat) (cI cZ cJ : ClassId) (tR tU : Nat) (a3 : Int) (σ : xSt) (Post : Int → xSt → Prop) (h : wp_X8_follow a3 σ Post) : MI l D (tyL cI cZ cJ) (cX aa cI cZ cJ) tR tU yX8_follow wsX8_follow rmX8_follow [.ref (aa 13), .ref (aa 1), .ref (aa 7), .int (xI a3)] σ Post := by
  refine mi_of (cc := cX8_follow) (maxL := 8) (ret := (some .boolean)) (by decide) rfl (Nat.le_of_ble_eq_true rfl) ?_
  intro p e s m args below meth c A hF
  obtain ⟨hx, hb, hr, hml, hown, hts, hlk, hK, hZ, hA⟩ := hF
  have hown : s.vm.findClass RX8 = some m.cls := hown
  delta wp_X8_follow at h
  refine gg_lv (lv' := [(0, .ref (aa 13)), (1, .ref (aa 1)), (2, .ref (aa 7)), (3, .int (xI a3))]) [0, 1, 2, 3] rfl ?_
  refine gg_iconst hx hb dX8_follow_0 ?_
  refine gg_istore (lv' := [(4, .int (xI 0)), (0, .ref (aa 13)), (1, .ref (aa 1)), (2, .ref (aa 7)), (3, .int (xI a3))]) hx hb (by decide) rfl dX8_follow_1 ?_
  have h := h (fun (x4_3 : Int) (s3 : xSt) => GG p l e rmX8_follow s m args below meth c (QI below D (cX aa cI cZ cJ) A args s Post) A D (cX aa cI cZ cJ) 8 s3 3 [(0, .ref (aa 13)), (1, .ref (aa 1)), (2, .ref (aa 7)), (3, .int (xI a3)), (4, .int (xI x4_3))] [])
  have h := h (by
    intro x4_3 s3 h
    refine gg_iload hx hb 4 rfl dX8_follow_3 ?_
    refine gg_sipush hx hb dX8_follow_5 rfl ?_
    refine gg_icmp_ge (tgt := 25) hx hb h.1 (by decide) dX8_follow_8 rfl (fun c8 => ?_) (fun c8 => ?_)
    · have h := h.2.1 c8
      refine gg_aload_n hx hb 2 rfl rfl dX8_follow_25 ?_
      refine gg_iload_n hx hb 3 rfl rfl dX8_follow_26 ?_
      refine gg_callVip (As := [.int (xI a3)]) (rest := []) hx hb hml hown hts hK hZ hA (c_X2_columnOf l D aa cI cZ cJ tR tU a3 s3 _ h) (cwV 1 hts gX8_follow_X2_columnOf rfl rfl rfl hd_X2_columnOf ⟨Nat.le_of_ble_eq_true rfl, Nat.le_of_ble_eq_true rfl⟩) 7 rfl rfl rfl rfl (Nat.le_of_ble_eq_true rfl) dX8_follow_27 (fun r27 h => ?_)
      refine gg_istore (lv' := [(4, .int (xI r27)), (0, .ref (aa 13)), (1, .ref (aa 1)), (2, .ref (aa 7)), (3, .int (xI a3))]) hx hb (by decide) rfl dX8_follow_30 ?_
      refine gg_aload_n hx hb 3 rfl rfl dX8_follow_32 ?_
      refine gg_iload_n hx hb 4 rfl rfl dX8_follow_33 ?_
      refine gg_callVip (As := [.int (xI a3)]) (rest := []) hx hb hml hown hts hK hZ hA (c_X2_lineOf l D aa cI cZ cJ tR tU a3 s3 _ h) (cwV 1 hts gX8_follow_X2_lineOf rfl rfl rfl hd_X2_lineOf ⟨Nat.le_of_ble_eq_true rfl, Nat.le_of_ble_eq_true rfl⟩) 7 rfl rfl rfl rfl (Nat.le_of_ble_eq_true rfl) dX8_follow_34 (fun r34 h => ?_)
      refine gg_istore (lv' := [(5, .int (xI r34)), (4, .int (xI r27)), (0, .ref (aa 13)), (1, .ref (aa 1)), (2, .ref (aa 7)), (3, .int (xI a3))]) hx hb (by decide) rfl dX8_follow_37 ?_
      refine gg_iconst hx hb dX8_follow_39 ?_
      refine gg_istore (lv' := [(6, .int (xI 0)), (5, .int (xI r34)), (4, .int (xI r27)), (0, .ref (aa 13)), (1, .ref (aa 1)), (2, .ref (aa 7)), (3, .int (xI a3))]) hx hb (by decide) rfl dX8_follow_40 ?_
      have h := h (fun (x6_42 : Int) (s42 : xSt) => GG p l e rmX8_follow s m args below meth c (QI below D (cX aa cI cZ cJ) A args s Post) A D (cX aa cI cZ cJ) 8 s42 42 [(0, .ref (aa 13)), (1, .ref (aa 1)), (2, .ref (aa 7)), (4, .int (xI r27)), (5, .int (xI r34)), (6, .int (xI x6_42))] [])
      have h := h (by
        intro x6_42 s42 h
        refine gg_iload hx hb 5 rfl dX8_follow_42 ?_
        refine gg_aload_n hx hb 1 rfl rfl dX8_follow_44 ?_
        refine gg_callVip (As := []) (rest := [.int (xI x6_42)]) hx hb hml hown hts hK hZ hA (c_X6_steps l D aa cI cZ cJ tR tU s42 _ h) (cwV 0 hts gX8_follow_X6_steps rfl rfl rfl hd_X6_steps ⟨Nat.le_of_ble_eq_true rfl, Nat.le_of_ble_eq_true rfl⟩) 1 rfl rfl rfl rfl (Nat.le_of_ble_eq_true rfl) dX8_follow_45 (fun r45 h => ?_)
        refine gg_icmp_gt (tgt := 100) hx hb h.1 h.2.1 dX8_follow_48 rfl (fun c48 => ?_) (fun c48 => ?_)
        · have h := h.2.2.1 c48
          refine gg_iconst hx hb dX8_follow_100 ?_
          exact gg_zret hx hb hr hlk (Or.inr rfl) h dX8_follow_101
        · have h := h.2.2.2 c48
          refine gg_aload_n hx hb 2 rfl rfl dX8_follow_51 ?_
          refine gg_iload hx hb 3 rfl dX8_follow_52 ?_
          refine gg_aload_n hx hb 1 rfl rfl dX8_follow_54 ?_
          refine gg_iload hx hb 5 rfl dX8_follow_55 ?_
          refine gg_callVip (As := [.int (xI x6_42)]) (rest := [.int (xI r27), .ref (aa 7)]) hx hb hml hown hts hK hZ hA (c_X6_xOf l D aa cI cZ cJ tR tU x6_42 s42 _ h) (cwV 1 hts gX8_follow_X6_xOf rfl rfl rfl hd_X6_xOf ⟨Nat.le_of_ble_eq_true rfl, Nat.le_of_ble_eq_true rfl⟩) 1 rfl rfl rfl rfl (Nat.le_of_ble_eq_true rfl) dX8_follow_57 (fun r57 h => ?_)
          refine gg_iadd hx hb dX8_follow_60 ?_
          refine gg_iload hx hb 4 rfl dX8_follow_61 ?_
          refine gg_aload_n hx hb 1 rfl rfl dX8_follow_63 ?_
          refine gg_iload hx hb 5 rfl dX8_follow_64 ?_
          refine gg_callVip (As := [.int (xI x6_42)]) (rest := [.int (xI r34), .int (xI (r27 + r57)), .ref (aa 7)]) hx hb hml hown hts hK hZ hA (c_X6_yOf l D aa cI cZ cJ tR tU x6_42 s42 _ h) (cwV 1 hts gX8_follow_X6_yOf rfl rfl rfl hd_X6_yOf ⟨Nat.le_of_ble_eq_true rfl, Nat.le_of_ble_eq_true rfl⟩) 1 rfl rfl rfl rfl (Nat.le_of_ble_eq_true rfl) dX8_follow_66 (fun r66 h => ?_)
          refine gg_iadd hx hb dX8_follow_69 ?_
          refine gg_callVip (As := [.int (xI (r27 + r57)), .int (xI (r34 + r66))]) (rest := []) hx hb hml hown hts hK hZ hA (c_X2_fieldAt l D aa cI cZ cJ tR tU (r27 + r57) (r34 + r66) s42 _ h) (cwV 2 hts gX8_follow_X2_fieldAt rfl rfl rfl hd_X2_fieldAt ⟨Nat.le_of_ble_eq_true rfl, Nat.le_of_ble_eq_true rfl⟩) 7 rfl rfl rfl rfl (Nat.le_of_ble_eq_true rfl) dX8_follow_70 (fun r70 h => ?_)
          refine gg_istore (lv' := [(7, .int (xI r70)), (0, .ref (aa 13)), (1, .ref (aa 1)), (2, .ref (aa 7)), (4, .int (xI r27)), (5, .int (xI r34)), (6, .int (xI x6_42))]) hx hb (by decide) rfl dX8_follow_73 ?_
          refine gg_aload_n hx hb 3 rfl rfl dX8_follow_75 ?_
          refine gg_iload hx hb 0 rfl dX8_follow_76 ?_
          refine gg_callVip (As := [.int (xI r70)]) (rest := []) hx hb hml hown hts hK hZ hA (c_X2_knows l D aa cI cZ cJ tR tU r70 s42 _ h) (cwV 1 hts gX8_follow_X2_knows rfl rfl rfl hd_X2_knows ⟨Nat.le_of_ble_eq_true rfl, Nat.le_of_ble_eq_true rfl⟩) 7 rfl rfl rfl rfl (Nat.le_of_ble_eq_true rfl) dX8_follow_78 (fun r78 h => ?_)
          refine gg_if_ne (tgt := 86) hx hb h.1 dX8_follow_81 rfl (fun c81 => ?_) (fun c81 => ?_)
          · have h := h.2.1 c81
            refine gg_aload_n hx hb 1 rfl rfl dX8_follow_86 ?_
            refine gg_get (C := RX8) (T := TX8) (N := 1) hx hb hts hown hK iX8_follow_X8 13 rfl rfl 0 (by decide) (List.mem_of_getElem? (i := 1) rfl) rfl dX8_follow_87 ?_
            refine gg_iload hx hb 0 rfl dX8_follow_90 ?_
            refine gg_iconst hx hb dX8_follow_92 ?_
            refine gg_zast hx hb hK 14 1 rfl rfl (cX_st_14 aa cI cZ cJ _ _) (by decide) h.1 (Or.inr rfl) dX8_follow_93 (fun σ_93 e93 => ?_)
            have h := h.2 σ_93 e93
            refine gg_iinc (lv' := [(6, .int (xI (x6_42 + 1))), (7, .int (xI r70)), (0, .ref (aa 13)), (1, .ref (aa 1)), (2, .ref (aa 7)), (4, .int (xI r27)), (5, .int (xI r34))]) hx hb 6 rfl (by decide) rfl dX8_follow_94 ?_
            refine gg_goto (tgt := 42) hx hb dX8_follow_97 rfl ?_
            refine gg_lv [2, 3, 4, 5, 6, 0] rfl ?_
            exact h
          · have h := h.2.2 c81
            refine gg_iconst hx hb dX8_follow_84 ?_
            exact gg_zret hx hb hr hlk (Or.inl rfl) h dX8_follow_85)
      refine gg_lv [3, 4, 5, 2, 1, 0] rfl ?_
      exact h
    · have h := h.2.2 c8
      refine gg_aload_n hx hb 0 rfl rfl dX8_follow_11 ?_
      refine gg_get (C := RX8) (T := TX8) (N := 1) hx hb hts hown hK iX8_follow_X8 13 rfl rfl 0 (by decide) (List.mem_of_getElem? (i := 1) rfl) rfl dX8_follow_12 ?_
      refine gg_iload hx hb 4 rfl dX8_follow_15 ?_
      refine gg_iconst hx hb dX8_follow_17 ?_
      refine gg_zast hx hb hK 14 1 rfl rfl (cX_st_14 aa cI cZ cJ _ _) (by decide) h.1 (Or.inl rfl) dX8_follow_18 (fun σ_18 e18 => ?_)
      have h := h.2 σ_18 e18
      refine gg_iinc (lv' := [(4, .int (xI (x4_3 + 1))), (0, .ref (aa 13)), (1, .ref (aa 1)), (2, .ref (aa 7)), (3, .int (xI a3))]) hx hb 4 rfl (by decide) rfl dX8_follow_19 ?_
      refine gg_goto (tgt := 3) hx hb dX8_follow_22 rfl ?_
      refine gg_lv [1, 2, 3, 4, 0] rfl ?_
      exact h)
  refine gg_lv [1, 2, 3, 4, 0] rfl ?_
  exact h
abbrev rmX6_comesBack : Room := { frames := 2, cells := 0, slots := 0, locals := 42 }
theorem iX6_comesBack_X6 : ∀ w ∈ u_ws RX6 TX6 4, w ∈ wsX6_comesBack := (fun _ h => List.mem_cons_of_mem _ (List.mem_append_right _ h))
theorem hd_X6_comesBack : (yX6_comesBack.cls = RX6 ∧ yX6_comesBack.cls ≠ "java/lang/invoke/MethodHandle" ∧ yX6_comesBack.cls ≠ "java/lang/invoke/VarHandle" ∧ (parseMethodDescriptor yX6_comesBack.desc).map (fun d => d.parameters.length) = some 0) := by decide +kernel
set_option maxRecDepth 100000 in
set_option maxHeartbeats 4000000 in
theorem c_X6_comesBack (l : Launch) (D : va_G) (aa : Nat → Nat) (cI cZ cJ : ClassId) (tR tU : Nat) (σ : xSt) (Post : Int → Prop) (h : wp_X6_comesBack σ Post) : MI l D (tyL cI cZ cJ) (cX aa cI cZ cJ) tR tU yX6_comesBack wsX6_comesBack rmX6_comesBack [.ref (aa 1)] σ (fun r9 σ9 => σ9 = σ ∧ Post r9) := by
  refine mi_of (cc := cX6_comesBack) (maxL := 1) (ret := (some .boolean)) (by decide) rfl (Nat.le_of_ble_eq_true rfl) ?_
  intro p e s m args below meth c A hF
  obtain ⟨hx, hb, hr, hml, hown, hts, hlk, hK, hZ, hA⟩ := hF
  have hown : s.vm.findClass RX6 = some m.cls := hown
  delta wp_X6_comesBack at h
  refine gg_lv (lv' := [(0, .ref (aa 1))]) [0] rfl ?_
  refine gg_aload_n hx hb 0 rfl rfl dX6_comesBack_0 ?_
  refine gg_aload_n hx hb 0 rfl rfl dX6_comesBack_1 ?_
  refine gg_get (C := RX6) (T := TX6) (N := 4) hx hb hts hown hK iX6_comesBack_X6 1 rfl rfl 3 (by decide) (List.mem_of_getElem? (i := 1) rfl) rfl dX6_comesBack_2 ?_
  refine gg_callVip (As := [.int (xI (σ 1 3))]) (rest := []) hx hb hml hown hts hK hZ hA (c_X6_xOf l D aa cI cZ cJ tR tU (σ 1 3) σ _ h) (cwV 1 hts gX6_comesBack_X6_xOf rfl rfl rfl hd_X6_xOf ⟨Nat.le_of_ble_eq_true rfl, Nat.le_of_ble_eq_true rfl⟩) 1 rfl rfl rfl rfl (Nat.le_of_ble_eq_true rfl) dX6_comesBack_5 (fun r5 h => ?_)
  refine gg_if_ne (tgt := 26) hx hb h.1 dX6_comesBack_8 rfl (fun c8 => ?_) (fun c8 => ?_)
  · have h := h.2.1 c8
    refine gg_iconst hx hb dX6_comesBack_26 ?_
    exact gg_zret hx hb hr hlk (Or.inl rfl) ⟨rfl, h⟩ dX6_comesBack_27
  · have h := h.2.2 c8
    refine gg_aload_n hx hb 0 rfl rfl dX6_comesBack_11 ?_
    refine gg_aload_n hx hb 0 rfl rfl dX6_comesBack_12 ?_
    refine gg_get (C := RX6) (T := TX6) (N := 4) hx hb hts hown hK iX6_comesBack_X6 1 rfl rfl 3 (by decide) (List.mem_of_getElem? (i := 1) rfl) rfl dX6_comesBack_13 ?_
    refine gg_callVip (As := [.int (xI (σ 1 3))]) (rest := []) hx hb hml hown hts hK hZ hA (c_X6_yOf l D aa cI cZ cJ tR tU (σ 1 3) σ _ h) (cwV 1 hts gX6_comesBack_X6_yOf rfl rfl rfl hd_X6_yOf ⟨Nat.le_of_ble_eq_true rfl, Nat.le_of_ble_eq_true rfl⟩) 1 rfl rfl rfl rfl (Nat.le_of_ble_eq_true rfl) dX6_comesBack_16 (fun r16 h => ?_)
    refine gg_if_ne (tgt := 26) hx hb h.1 dX6_comesBack_19 rfl (fun c19 => ?_) (fun c19 => ?_)
    · have h := h.2.1 c19
      refine gg_iconst hx hb dX6_comesBack_26 ?_
      exact gg_zret hx hb hr hlk (Or.inl rfl) ⟨rfl, h⟩ dX6_comesBack_27
    · have h := h.2.2 c19
      refine gg_iconst hx hb dX6_comesBack_22 ?_
      refine gg_goto (tgt := 27) hx hb dX6_comesBack_23 rfl ?_
      exact gg_zret hx hb hr hlk (Or.inr rfl) ⟨rfl, h⟩ dX6_comesBack_27
abbrev rmX4_gather : Room := { frames := 2, cells := 0, slots := 0, locals := 41 }
theorem iX4_gather_X4 : ∀ w ∈ u_ws RX4 TX4 3, w ∈ wsX4_gather := (fun _ h => List.mem_cons_of_mem _ (List.mem_append_left _ (List.mem_append_right _ h)))
theorem hd_X4_gather : (yX4_gather.cls = RX4 ∧ yX4_gather.cls ≠ "java/lang/invoke/MethodHandle" ∧ yX4_gather.cls ≠ "java/lang/invoke/VarHandle" ∧ (parseMethodDescriptor yX4_gather.desc).map (fun d => d.parameters.length) = some 4) := by decide +kernel
set_option maxRecDepth 100000 in
set_option maxHeartbeats 4000000 in
theorem c_X4_gather_8 (l : Launch) (D : va_G) (aa : Nat → Nat) (cI cZ cJ : ClassId) (tR tU : Nat) (a3 : Int) (a4 : Int) (σ : xSt) (Post : xSt → Prop) (h : wp_X4_gather 8 a3 a4 σ Post) : MV l D (tyL cI cZ cJ) (cX aa cI cZ cJ) tR tU yX4_gather wsX4_gather rmX4_gather [.ref (aa 9), .ref (aa 7), .ref (aa 8), .int (xI a3), .int (xI a4)] σ Post := by
  refine mv_of (cc := cX4_gather) (maxL := 12) (ret := none) (by decide) rfl (Nat.le_of_ble_eq_true rfl) ?_
  intro p e s m args below meth c A hF
  obtain ⟨hx, hb, hr, hml, hown, hts, hlk, hK, hZ, hA⟩ := hF
  have hown : s.vm.findClass RX4 = some m.cls := hown
  obtain ⟨hZ1, hZ2, hZ3, hZ4, hN1, hN2, hN3, hN4, hN5, hN6⟩ := id hZ
  delta wp_X4_gather at h
  refine gg_lv (lv' := [(0, .ref (aa 9)), (1, .ref (aa 7)), (2, .ref (aa 8)), (3, .int (xI a3)), (4, .int (xI a4))]) [0, 1, 2, 3, 4] rfl ?_
  refine gg_aload_n hx hb 0 rfl rfl dX4_gather_0 ?_
  refine gg_get (C := RX4) (T := TX4) (N := 3) hx hb hts hown hK iX4_gather_X4 9 rfl rfl 0 (by decide) (List.mem_of_getElem? (i := 1) rfl) rfl dX4_gather_1 ?_
  refine gg_iload_n hx hb 3 rfl rfl dX4_gather_4 ?_
  refine gg_iload_n hx hb 3 rfl rfl dX4_gather_5 ?_
  refine gg_iast hx hb hK 10 0 rfl rfl (cX_st_10 aa cI cZ cJ _ _) (by decide) h.1 dX4_gather_6 (fun σ_6 e6 => ?_)
  have h := h.2 σ_6 e6
  refine gg_aload_n hx hb 0 rfl rfl dX4_gather_7 ?_
  refine gg_get (C := RX4) (T := TX4) (N := 3) hx hb hts hown hK iX4_gather_X4 9 rfl rfl 1 (by decide) (List.mem_of_getElem? (i := 2) rfl) rfl dX4_gather_8 ?_
  refine gg_iconst hx hb dX4_gather_11 ?_
  refine gg_iload_n hx hb 3 rfl rfl dX4_gather_12 ?_
  refine gg_iast hx hb hK 11 0 rfl rfl (cX_st_11 aa cI cZ cJ _ _) (by decide) (by decide) dX4_gather_13 (fun σ_13 e13 => ?_)
  have h := h σ_13 e13
  refine gg_iconst hx hb dX4_gather_14 ?_
  refine gg_istore (lv' := [(5, .int (xI 1)), (0, .ref (aa 9)), (1, .ref (aa 7)), (2, .ref (aa 8)), (3, .int (xI a3)), (4, .int (xI a4))]) hx hb (by decide) rfl dX4_gather_15 ?_
  refine gg_iconst hx hb dX4_gather_17 ?_
  refine gg_istore (lv' := [(6, .int (xI 0)), (5, .int (xI 1)), (0, .ref (aa 9)), (1, .ref (aa 7)), (2, .ref (aa 8)), (3, .int (xI a3)), (4, .int (xI a4))]) hx hb (by decide) rfl dX4_gather_18 ?_
  have h := h (fun (x5_20 x6_20 : Int) (s20 : xSt) => GG p l e rmX4_gather s m args below meth c (QV below D (cX aa cI cZ cJ) A args s Post) A D (cX aa cI cZ cJ) 12 s20 20 [(0, .ref (aa 9)), (1, .ref (aa 7)), (2, .ref (aa 8)), (3, .int (xI a3)), (4, .int (xI a4)), (5, .int (xI x5_20)), (6, .int (xI x6_20))] [])
  have h := h (by
    intro x5_20 x6_20 s20 h
    refine gg_iload hx hb 6 rfl dX4_gather_20 ?_
    refine gg_iload hx hb 5 rfl dX4_gather_22 ?_
    refine gg_icmp_ge (tgt := 191) hx hb h.1 h.2.1 dX4_gather_24 rfl (fun c24 => ?_) (fun c24 => ?_)
    · have h := h.2.2.1 c24
      exact gg_vret hx hb hr hlk h dX4_gather_191
    · have h := h.2.2.2 c24
      refine gg_iload hx hb 6 rfl dX4_gather_27 ?_
      refine gg_sipush hx hb dX4_gather_29 rfl ?_
      refine gg_icmp_ge (tgt := 191) hx hb h.1 (by decide) dX4_gather_32 rfl (fun c32 => ?_) (fun c32 => ?_)
      · have h := h.2.1 c32
        exact gg_vret hx hb hr hlk h dX4_gather_191
      · have h := h.2.2 c32
        refine gg_aload_n hx hb 1 rfl rfl dX4_gather_35 ?_
        refine gg_aload_n hx hb 0 rfl rfl dX4_gather_36 ?_
        refine gg_get (C := RX4) (T := TX4) (N := 3) hx hb hts hown hK iX4_gather_X4 9 rfl rfl 1 (by decide) (List.mem_of_getElem? (i := 2) rfl) rfl dX4_gather_37 ?_
        refine gg_iload hx hb 6 rfl dX4_gather_40 ?_
        refine gg_iald hx hb hK 11 0 rfl rfl (by decide) h.1 dX4_gather_42 ?_
        have h := h.2
        refine gg_callVip (As := [.int (xI (s20 11 (x6_20).toNat))]) (rest := []) hx hb hml hown hts hK hZ hA (c_X2_columnOf l D aa cI cZ cJ tR tU (s20 11 (x6_20).toNat) s20 _ h) (cwV 1 hts gX4_gather_X2_columnOf rfl rfl rfl hd_X2_columnOf ⟨Nat.le_of_ble_eq_true rfl, Nat.le_of_ble_eq_true rfl⟩) 7 rfl rfl rfl rfl (Nat.le_of_ble_eq_true rfl) dX4_gather_43 (fun r43 h => ?_)
        refine gg_istore (lv' := [(7, .int (xI r43)), (0, .ref (aa 9)), (1, .ref (aa 7)), (2, .ref (aa 8)), (3, .int (xI a3)), (4, .int (xI a4)), (5, .int (xI x5_20)), (6, .int (xI x6_20))]) hx hb (by decide) rfl dX4_gather_46 ?_
        refine gg_aload_n hx hb 2 rfl rfl dX4_gather_48 ?_
        refine gg_aload_n hx hb 1 rfl rfl dX4_gather_49 ?_
        refine gg_get (C := RX4) (T := TX4) (N := 3) hx hb hts hown hK iX4_gather_X4 9 rfl rfl 1 (by decide) (List.mem_of_getElem? (i := 2) rfl) rfl dX4_gather_50 ?_
        refine gg_iload hx hb 7 rfl dX4_gather_53 ?_
        refine gg_iald hx hb hK 11 0 rfl rfl (by decide) h.1 dX4_gather_55 ?_
        have h := h.2
        refine gg_callVip (As := [.int (xI (s20 11 (x6_20).toNat))]) (rest := []) hx hb hml hown hts hK hZ hA (c_X2_lineOf l D aa cI cZ cJ tR tU (s20 11 (x6_20).toNat) s20 _ h) (cwV 1 hts gX4_gather_X2_lineOf rfl rfl rfl hd_X2_lineOf ⟨Nat.le_of_ble_eq_true rfl, Nat.le_of_ble_eq_true rfl⟩) 7 rfl rfl rfl rfl (Nat.le_of_ble_eq_true rfl) dX4_gather_56 (fun r56 h => ?_)
        refine gg_istore (lv' := [(8, .int (xI r56)), (7, .int (xI r43)), (0, .ref (aa 9)), (1, .ref (aa 7)), (2, .ref (aa 8)), (3, .int (xI a3)), (4, .int (xI a4)), (5, .int (xI x5_20)), (6, .int (xI x6_20))]) hx hb (by decide) rfl dX4_gather_59 ?_
        refine gg_iconst hx hb dX4_gather_61 ?_
        refine gg_istore (lv' := [(9, .int (xI 0)), (8, .int (xI r56)), (7, .int (xI r43)), (0, .ref (aa 9)), (1, .ref (aa 7)), (2, .ref (aa 8)), (3, .int (xI a3)), (4, .int (xI a4)), (5, .int (xI x5_20)), (6, .int (xI x6_20))]) hx hb (by decide) rfl dX4_gather_62 ?_
        have h := h (fun (x5_64 x9_64 : Int) (s64 : xSt) => GG p l e rmX4_gather s m args below meth c (QV below D (cX aa cI cZ cJ) A args s Post) A D (cX aa cI cZ cJ) 12 s64 64 [(0, .ref (aa 9)), (1, .ref (aa 7)), (2, .ref (aa 8)), (3, .int (xI a3)), (4, .int (xI a4)), (5, .int (xI x5_64)), (6, .int (xI x6_20)), (7, .int (xI r43)), (8, .int (xI r56)), (9, .int (xI x9_64))] [])
        have h := h (by
          intro x5_64 x9_64 s64 h
          refine gg_iload hx hb 9 rfl dX4_gather_64 ?_
          refine gg_bipush hx hb dX4_gather_66 rfl ?_
          refine gg_icmp_ge (tgt := 185) hx hb h.1 (by decide) dX4_gather_68 rfl (fun c68 => ?_) (fun c68 => ?_)
          · have h := h.2.1 c68
            refine gg_iinc (lv' := [(6, .int (xI (x6_20 + 1))), (0, .ref (aa 9)), (1, .ref (aa 7)), (2, .ref (aa 8)), (3, .int (xI a3)), (4, .int (xI a4)), (5, .int (xI x5_64)), (7, .int (xI r43)), (8, .int (xI r56)), (9, .int (xI x9_64))]) hx hb 6 rfl (by decide) rfl dX4_gather_185 ?_
            refine gg_goto (tgt := 20) hx hb dX4_gather_188 rfl ?_
            refine gg_lv [1, 2, 3, 4, 5, 6, 0] rfl ?_
            exact h
          · have h := h.2.2 c68
            refine gg_aload_n hx hb 1 rfl rfl dX4_gather_71 ?_
            refine gg_iload hx hb 7 rfl dX4_gather_72 ?_
            refine gg_gets hx hb hZ1 hown hN3 dX4_gather_74 ?_
            refine gg_iload hx hb 9 rfl dX4_gather_77 ?_
            refine gg_tald hx hb xRt hZ2 (by decide) h.1 dX4_gather_79 ?_
            have h := h.2
            refine gg_iadd hx hb dX4_gather_80 ?_
            refine gg_iload hx hb 8 rfl dX4_gather_81 ?_
            refine gg_gets hx hb hZ3 hown hN4 dX4_gather_83 ?_
            refine gg_iload hx hb 9 rfl dX4_gather_86 ?_
            refine gg_tald hx hb xUp hZ4 (by decide) h.1 dX4_gather_88 ?_
            have h := h.2
            refine gg_iadd hx hb dX4_gather_89 ?_
            refine gg_callVip (As := [.int (xI (r43 + (xRt (x9_64).toNat))), .int (xI (r56 + (xUp (x9_64).toNat)))]) (rest := []) hx hb hml hown hts hK hZ hA (c_X2_fieldAt l D aa cI cZ cJ tR tU (r43 + (xRt (x9_64).toNat)) (r56 + (xUp (x9_64).toNat)) s64 _ h) (cwV 2 hts gX4_gather_X2_fieldAt rfl rfl rfl hd_X2_fieldAt ⟨Nat.le_of_ble_eq_true rfl, Nat.le_of_ble_eq_true rfl⟩) 7 rfl rfl rfl rfl (Nat.le_of_ble_eq_true rfl) dX4_gather_90 (fun r90 h => ?_)
            refine gg_istore (lv' := [(10, .int (xI r90)), (0, .ref (aa 9)), (1, .ref (aa 7)), (2, .ref (aa 8)), (3, .int (xI a3)), (4, .int (xI a4)), (5, .int (xI x5_64)), (6, .int (xI x6_20)), (7, .int (xI r43)), (8, .int (xI r56)), (9, .int (xI x9_64))]) hx hb (by decide) rfl dX4_gather_93 ?_
            refine gg_aload_n hx hb 2 rfl rfl dX4_gather_95 ?_
            refine gg_iload hx hb 0 rfl dX4_gather_96 ?_
            refine gg_callVip (As := [.int (xI r90)]) (rest := []) hx hb hml hown hts hK hZ hA (c_X2_knows l D aa cI cZ cJ tR tU r90 s64 _ h) (cwV 1 hts gX4_gather_X2_knows rfl rfl rfl hd_X2_knows ⟨Nat.le_of_ble_eq_true rfl, Nat.le_of_ble_eq_true rfl⟩) 7 rfl rfl rfl rfl (Nat.le_of_ble_eq_true rfl) dX4_gather_98 (fun r98 h => ?_)
            have h := h (fun (y0_132 : Int) => GG p l e rmX4_gather s m args below meth c (QV below D (cX aa cI cZ cJ) A args s Post) A D (cX aa cI cZ cJ) 12 s64 132 [(0, .ref (aa 9)), (1, .ref (aa 7)), (2, .ref (aa 8)), (3, .int (xI a3)), (4, .int (xI a4)), (5, .int (xI x5_64)), (6, .int (xI x6_20)), (7, .int (xI r43)), (8, .int (xI r56)), (9, .int (xI x9_64)), (10, .int (xI r90))] [.int (xI y0_132)])
            have h := h (by
              intro y0_132 h
              refine gg_istore (lv' := [(11, .int (xI y0_132)), (0, .ref (aa 9)), (1, .ref (aa 7)), (2, .ref (aa 8)), (3, .int (xI a3)), (4, .int (xI a4)), (5, .int (xI x5_64)), (6, .int (xI x6_20)), (7, .int (xI r43)), (8, .int (xI r56)), (9, .int (xI x9_64)), (10, .int (xI r90))]) hx hb (by decide) rfl dX4_gather_132 ?_
              refine gg_iload hx hb 0 rfl dX4_gather_134 ?_
              have h := h (fun (x5_167 : Int) (s167 : xSt) => GG p l e rmX4_gather s m args below meth c (QV below D (cX aa cI cZ cJ) A args s Post) A D (cX aa cI cZ cJ) 12 s167 167 [(0, .ref (aa 9)), (1, .ref (aa 7)), (2, .ref (aa 8)), (3, .int (xI a3)), (4, .int (xI a4)), (5, .int (xI x5_167)), (6, .int (xI x6_20)), (7, .int (xI r43)), (8, .int (xI r56)), (9, .int (xI x9_64))] [])
              have h := h (by
                intro x5_167 s167 h
                refine gg_iload hx hb 9 rfl dX4_gather_167 ?_
                refine gg_iload hx hb 4 rfl dX4_gather_169 ?_
                refine gg_if_eq (tgt := 178) hx hb h.1 dX4_gather_171 rfl (fun c171 => ?_) (fun c171 => ?_)
                · have h := h.2.1 c171
                  refine gg_iconst hx hb dX4_gather_178 ?_
                  refine gg_iadd hx hb dX4_gather_179 ?_
                  refine gg_istore (lv' := [(9, .int (xI (x9_64 + 2))), (0, .ref (aa 9)), (1, .ref (aa 7)), (2, .ref (aa 8)), (3, .int (xI a3)), (4, .int (xI a4)), (5, .int (xI x5_167)), (6, .int (xI x6_20)), (7, .int (xI r43)), (8, .int (xI r56))]) hx hb (by decide) rfl dX4_gather_180 ?_
                  refine gg_goto (tgt := 64) hx hb dX4_gather_182 rfl ?_
                  refine gg_lv [1, 2, 3, 4, 5, 6, 7, 8, 9, 0] rfl ?_
                  exact h
                · have h := h.2.2 c171
                  refine gg_iconst hx hb dX4_gather_174 ?_
                  refine gg_goto (tgt := 179) hx hb dX4_gather_175 rfl ?_
                  refine gg_iadd hx hb dX4_gather_179 ?_
                  refine gg_istore (lv' := [(9, .int (xI (x9_64 + 1))), (0, .ref (aa 9)), (1, .ref (aa 7)), (2, .ref (aa 8)), (3, .int (xI a3)), (4, .int (xI a4)), (5, .int (xI x5_167)), (6, .int (xI x6_20)), (7, .int (xI r43)), (8, .int (xI r56))]) hx hb (by decide) rfl dX4_gather_180 ?_
                  refine gg_goto (tgt := 64) hx hb dX4_gather_182 rfl ?_
                  refine gg_lv [1, 2, 3, 4, 5, 6, 7, 8, 9, 0] rfl ?_
                  exact h)
              refine gg_if_eq (tgt := 167) hx hb h.1 dX4_gather_136 rfl (fun c136 => ?_) (fun c136 => ?_)
              · have h := h.2.1 c136
                refine gg_lv [1, 2, 3, 4, 5, 6, 7, 8, 9, 10] rfl ?_
                exact h
              · have h := h.2.2 c136
                refine gg_iload hx hb 6 rfl dX4_gather_139 ?_
                refine gg_sipush hx hb dX4_gather_141 rfl ?_
                refine gg_icmp_ge (tgt := 167) hx hb h.1 (by decide) dX4_gather_144 rfl (fun c144 => ?_) (fun c144 => ?_)
                · have h := h.2.1 c144
                  refine gg_lv [1, 2, 3, 4, 5, 6, 7, 8, 9, 10] rfl ?_
                  exact h
                · have h := h.2.2 c144
                  refine gg_aload_n hx hb 1 rfl rfl dX4_gather_147 ?_
                  refine gg_get (C := RX4) (T := TX4) (N := 3) hx hb hts hown hK iX4_gather_X4 9 rfl rfl 0 (by decide) (List.mem_of_getElem? (i := 1) rfl) rfl dX4_gather_148 ?_
                  refine gg_iload hx hb 11 rfl dX4_gather_151 ?_
                  refine gg_iload_n hx hb 4 rfl rfl dX4_gather_153 ?_
                  refine gg_iast hx hb hK 10 0 rfl rfl (cX_st_10 aa cI cZ cJ _ _) (by decide) h.1 dX4_gather_154 (fun σ_154 e154 => ?_)
                  have h := h.2 σ_154 e154
                  refine gg_aload_n hx hb 1 rfl rfl dX4_gather_155 ?_
                  refine gg_get (C := RX4) (T := TX4) (N := 3) hx hb hts hown hK iX4_gather_X4 9 rfl rfl 1 (by decide) (List.mem_of_getElem? (i := 2) rfl) rfl dX4_gather_156 ?_
                  refine gg_iload hx hb 6 rfl dX4_gather_159 ?_
                  refine gg_iload hx hb 11 rfl dX4_gather_161 ?_
                  refine gg_iast hx hb hK 11 0 rfl rfl (cX_st_11 aa cI cZ cJ _ _) (by decide) h.1 dX4_gather_163 (fun σ_163 e163 => ?_)
                  have h := h.2 σ_163 e163
                  refine gg_iinc (lv' := [(5, .int (xI (x5_64 + 1))), (11, .int (xI y0_132)), (0, .ref (aa 9)), (1, .ref (aa 7)), (2, .ref (aa 8)), (3, .int (xI a3)), (4, .int (xI a4)), (6, .int (xI x6_20)), (7, .int (xI r43)), (8, .int (xI r56)), (9, .int (xI x9_64)), (10, .int (xI r90))]) hx hb 6 rfl (by decide) rfl dX4_gather_164 ?_
                  refine gg_lv [2, 3, 4, 5, 6, 0, 7, 8, 9, 10] rfl ?_
                  exact h)
            refine gg_if_eq (tgt := 131) hx hb h.1 dX4_gather_101 rfl (fun c101 => ?_) (fun c101 => ?_)
            · have h := h.2.1 c101
              refine gg_iconst hx hb dX4_gather_131 ?_
              refine gg_lv [1, 2, 3, 4, 5, 6, 7, 8, 9, 10, 0] rfl ?_
              exact h
            · have h := h.2.2 c101
              refine gg_aload_n hx hb 3 rfl rfl dX4_gather_104 ?_
              refine gg_iload hx hb 0 rfl dX4_gather_105 ?_
              refine gg_zald hx hb hK 8 1 rfl rfl (by decide) h.1 dX4_gather_107 ?_
              have h := h.2
              refine gg_aload_n hx hb 3 rfl rfl dX4_gather_108 ?_
              refine gg_iload_n hx hb 4 rfl rfl dX4_gather_109 ?_
              refine gg_zald hx hb hK 8 1 rfl rfl (by decide) h.1 dX4_gather_110 ?_
              have h := h.2
              refine gg_icmp_ne (tgt := 131) hx hb h.1 h.2.1 dX4_gather_111 rfl (fun c111 => ?_) (fun c111 => ?_)
              · have h := h.2.2.1 c111
                refine gg_iconst hx hb dX4_gather_131 ?_
                refine gg_lv [1, 2, 3, 4, 5, 6, 7, 8, 9, 10, 0] rfl ?_
                exact h
              · have h := h.2.2.2 c111
                refine gg_aload_n hx hb 1 rfl rfl dX4_gather_114 ?_
                refine gg_get (C := RX4) (T := TX4) (N := 3) hx hb hts hown hK iX4_gather_X4 9 rfl rfl 0 (by decide) (List.mem_of_getElem? (i := 1) rfl) rfl dX4_gather_115 ?_
                refine gg_iload hx hb 0 rfl dX4_gather_118 ?_
                refine gg_iald hx hb hK 10 0 rfl rfl (by decide) h.1 dX4_gather_120 ?_
                have h := h.2
                refine gg_sipush hx hb dX4_gather_121 rfl ?_
                refine gg_icmp_ne (tgt := 131) hx hb h.1 (by decide) dX4_gather_124 rfl (fun c124 => ?_) (fun c124 => ?_)
                · have h := h.2.1 c124
                  refine gg_iconst hx hb dX4_gather_131 ?_
                  refine gg_lv [1, 2, 3, 4, 5, 6, 7, 8, 9, 10, 0] rfl ?_
                  exact h
                · have h := h.2.2 c124
                  refine gg_iconst hx hb dX4_gather_127 ?_
                  refine gg_goto (tgt := 132) hx hb dX4_gather_128 rfl ?_
                  refine gg_lv [1, 2, 3, 4, 5, 6, 7, 8, 9, 10, 0] rfl ?_
                  exact h)
        refine gg_lv [3, 4, 5, 6, 7, 8, 9, 2, 1, 0] rfl ?_
        exact h)
  refine gg_lv [2, 3, 4, 5, 6, 1, 0] rfl ?_
  exact h
set_option maxRecDepth 100000 in
set_option maxHeartbeats 4000000 in
theorem c_X4_gather_14 (l : Launch) (D : va_G) (aa : Nat → Nat) (cI cZ cJ : ClassId) (tR tU : Nat) (a3 : Int) (a4 : Int) (σ : xSt) (Post : xSt → Prop) (h : wp_X4_gather 14 a3 a4 σ Post) : MV l D (tyL cI cZ cJ) (cX aa cI cZ cJ) tR tU yX4_gather wsX4_gather rmX4_gather [.ref (aa 9), .ref (aa 7), .ref (aa 14), .int (xI a3), .int (xI a4)] σ Post := by
  refine mv_of (cc := cX4_gather) (maxL := 12) (ret := none) (by decide) rfl (Nat.le_of_ble_eq_true rfl) ?_
  intro p e s m args below meth c A hF
  obtain ⟨hx, hb, hr, hml, hown, hts, hlk, hK, hZ, hA⟩ := hF
  have hown : s.vm.findClass RX4 = some m.cls := hown
  obtain ⟨hZ1, hZ2, hZ3, hZ4, hN1, hN2, hN3, hN4, hN5, hN6⟩ := id hZ
  delta wp_X4_gather at h
  refine gg_lv (lv' := [(0, .ref (aa 9)), (1, .ref (aa 7)), (2, .ref (aa 14)), (3, .int (xI a3)), (4, .int (xI a4))]) [0, 1, 2, 3, 4] rfl ?_
  refine gg_aload_n hx hb 0 rfl rfl dX4_gather_0 ?_
  refine gg_get (C := RX4) (T := TX4) (N := 3) hx hb hts hown hK iX4_gather_X4 9 rfl rfl 0 (by decide) (List.mem_of_getElem? (i := 1) rfl) rfl dX4_gather_1 ?_
  refine gg_iload_n hx hb 3 rfl rfl dX4_gather_4 ?_
  refine gg_iload_n hx hb 3 rfl rfl dX4_gather_5 ?_
  refine gg_iast hx hb hK 10 0 rfl rfl (cX_st_10 aa cI cZ cJ _ _) (by decide) h.1 dX4_gather_6 (fun σ_6 e6 => ?_)
  have h := h.2 σ_6 e6
  refine gg_aload_n hx hb 0 rfl rfl dX4_gather_7 ?_
  refine gg_get (C := RX4) (T := TX4) (N := 3) hx hb hts hown hK iX4_gather_X4 9 rfl rfl 1 (by decide) (List.mem_of_getElem? (i := 2) rfl) rfl dX4_gather_8 ?_
  refine gg_iconst hx hb dX4_gather_11 ?_
  refine gg_iload_n hx hb 3 rfl rfl dX4_gather_12 ?_
  refine gg_iast hx hb hK 11 0 rfl rfl (cX_st_11 aa cI cZ cJ _ _) (by decide) (by decide) dX4_gather_13 (fun σ_13 e13 => ?_)
  have h := h σ_13 e13
  refine gg_iconst hx hb dX4_gather_14 ?_
  refine gg_istore (lv' := [(5, .int (xI 1)), (0, .ref (aa 9)), (1, .ref (aa 7)), (2, .ref (aa 14)), (3, .int (xI a3)), (4, .int (xI a4))]) hx hb (by decide) rfl dX4_gather_15 ?_
  refine gg_iconst hx hb dX4_gather_17 ?_
  refine gg_istore (lv' := [(6, .int (xI 0)), (5, .int (xI 1)), (0, .ref (aa 9)), (1, .ref (aa 7)), (2, .ref (aa 14)), (3, .int (xI a3)), (4, .int (xI a4))]) hx hb (by decide) rfl dX4_gather_18 ?_
  have h := h (fun (x5_20 x6_20 : Int) (s20 : xSt) => GG p l e rmX4_gather s m args below meth c (QV below D (cX aa cI cZ cJ) A args s Post) A D (cX aa cI cZ cJ) 12 s20 20 [(0, .ref (aa 9)), (1, .ref (aa 7)), (2, .ref (aa 14)), (3, .int (xI a3)), (4, .int (xI a4)), (5, .int (xI x5_20)), (6, .int (xI x6_20))] [])
  have h := h (by
    intro x5_20 x6_20 s20 h
    refine gg_iload hx hb 6 rfl dX4_gather_20 ?_
    refine gg_iload hx hb 5 rfl dX4_gather_22 ?_
    refine gg_icmp_ge (tgt := 191) hx hb h.1 h.2.1 dX4_gather_24 rfl (fun c24 => ?_) (fun c24 => ?_)
    · have h := h.2.2.1 c24
      exact gg_vret hx hb hr hlk h dX4_gather_191
    · have h := h.2.2.2 c24
      refine gg_iload hx hb 6 rfl dX4_gather_27 ?_
      refine gg_sipush hx hb dX4_gather_29 rfl ?_
      refine gg_icmp_ge (tgt := 191) hx hb h.1 (by decide) dX4_gather_32 rfl (fun c32 => ?_) (fun c32 => ?_)
      · have h := h.2.1 c32
        exact gg_vret hx hb hr hlk h dX4_gather_191
      · have h := h.2.2 c32
        refine gg_aload_n hx hb 1 rfl rfl dX4_gather_35 ?_
        refine gg_aload_n hx hb 0 rfl rfl dX4_gather_36 ?_
        refine gg_get (C := RX4) (T := TX4) (N := 3) hx hb hts hown hK iX4_gather_X4 9 rfl rfl 1 (by decide) (List.mem_of_getElem? (i := 2) rfl) rfl dX4_gather_37 ?_
        refine gg_iload hx hb 6 rfl dX4_gather_40 ?_
        refine gg_iald hx hb hK 11 0 rfl rfl (by decide) h.1 dX4_gather_42 ?_
        have h := h.2
        refine gg_callVip (As := [.int (xI (s20 11 (x6_20).toNat))]) (rest := []) hx hb hml hown hts hK hZ hA (c_X2_columnOf l D aa cI cZ cJ tR tU (s20 11 (x6_20).toNat) s20 _ h) (cwV 1 hts gX4_gather_X2_columnOf rfl rfl rfl hd_X2_columnOf ⟨Nat.le_of_ble_eq_true rfl, Nat.le_of_ble_eq_true rfl⟩) 7 rfl rfl rfl rfl (Nat.le_of_ble_eq_true rfl) dX4_gather_43 (fun r43 h => ?_)
        refine gg_istore (lv' := [(7, .int (xI r43)), (0, .ref (aa 9)), (1, .ref (aa 7)), (2, .ref (aa 14)), (3, .int (xI a3)), (4, .int (xI a4)), (5, .int (xI x5_20)), (6, .int (xI x6_20))]) hx hb (by decide) rfl dX4_gather_46 ?_
        refine gg_aload_n hx hb 2 rfl rfl dX4_gather_48 ?_
        refine gg_aload_n hx hb 1 rfl rfl dX4_gather_49 ?_
        refine gg_get (C := RX4) (T := TX4) (N := 3) hx hb hts hown hK iX4_gather_X4 9 rfl rfl 1 (by decide) (List.mem_of_getElem? (i := 2) rfl) rfl dX4_gather_50 ?_
        refine gg_iload hx hb 7 rfl dX4_gather_53 ?_
        refine gg_iald hx hb hK 11 0 rfl rfl (by decide) h.1 dX4_gather_55 ?_
        have h := h.2
        refine gg_callVip (As := [.int (xI (s20 11 (x6_20).toNat))]) (rest := []) hx hb hml hown hts hK hZ hA (c_X2_lineOf l D aa cI cZ cJ tR tU (s20 11 (x6_20).toNat) s20 _ h) (cwV 1 hts gX4_gather_X2_lineOf rfl rfl rfl hd_X2_lineOf ⟨Nat.le_of_ble_eq_true rfl, Nat.le_of_ble_eq_true rfl⟩) 7 rfl rfl rfl rfl (Nat.le_of_ble_eq_true rfl) dX4_gather_56 (fun r56 h => ?_)
        refine gg_istore (lv' := [(8, .int (xI r56)), (7, .int (xI r43)), (0, .ref (aa 9)), (1, .ref (aa 7)), (2, .ref (aa 14)), (3, .int (xI a3)), (4, .int (xI a4)), (5, .int (xI x5_20)), (6, .int (xI x6_20))]) hx hb (by decide) rfl dX4_gather_59 ?_
        refine gg_iconst hx hb dX4_gather_61 ?_
        refine gg_istore (lv' := [(9, .int (xI 0)), (8, .int (xI r56)), (7, .int (xI r43)), (0, .ref (aa 9)), (1, .ref (aa 7)), (2, .ref (aa 14)), (3, .int (xI a3)), (4, .int (xI a4)), (5, .int (xI x5_20)), (6, .int (xI x6_20))]) hx hb (by decide) rfl dX4_gather_62 ?_
        have h := h (fun (x5_64 x9_64 : Int) (s64 : xSt) => GG p l e rmX4_gather s m args below meth c (QV below D (cX aa cI cZ cJ) A args s Post) A D (cX aa cI cZ cJ) 12 s64 64 [(0, .ref (aa 9)), (1, .ref (aa 7)), (2, .ref (aa 14)), (3, .int (xI a3)), (4, .int (xI a4)), (5, .int (xI x5_64)), (6, .int (xI x6_20)), (7, .int (xI r43)), (8, .int (xI r56)), (9, .int (xI x9_64))] [])
        have h := h (by
          intro x5_64 x9_64 s64 h
          refine gg_iload hx hb 9 rfl dX4_gather_64 ?_
          refine gg_bipush hx hb dX4_gather_66 rfl ?_
          refine gg_icmp_ge (tgt := 185) hx hb h.1 (by decide) dX4_gather_68 rfl (fun c68 => ?_) (fun c68 => ?_)
          · have h := h.2.1 c68
            refine gg_iinc (lv' := [(6, .int (xI (x6_20 + 1))), (0, .ref (aa 9)), (1, .ref (aa 7)), (2, .ref (aa 14)), (3, .int (xI a3)), (4, .int (xI a4)), (5, .int (xI x5_64)), (7, .int (xI r43)), (8, .int (xI r56)), (9, .int (xI x9_64))]) hx hb 6 rfl (by decide) rfl dX4_gather_185 ?_
            refine gg_goto (tgt := 20) hx hb dX4_gather_188 rfl ?_
            refine gg_lv [1, 2, 3, 4, 5, 6, 0] rfl ?_
            exact h
          · have h := h.2.2 c68
            refine gg_aload_n hx hb 1 rfl rfl dX4_gather_71 ?_
            refine gg_iload hx hb 7 rfl dX4_gather_72 ?_
            refine gg_gets hx hb hZ1 hown hN3 dX4_gather_74 ?_
            refine gg_iload hx hb 9 rfl dX4_gather_77 ?_
            refine gg_tald hx hb xRt hZ2 (by decide) h.1 dX4_gather_79 ?_
            have h := h.2
            refine gg_iadd hx hb dX4_gather_80 ?_
            refine gg_iload hx hb 8 rfl dX4_gather_81 ?_
            refine gg_gets hx hb hZ3 hown hN4 dX4_gather_83 ?_
            refine gg_iload hx hb 9 rfl dX4_gather_86 ?_
            refine gg_tald hx hb xUp hZ4 (by decide) h.1 dX4_gather_88 ?_
            have h := h.2
            refine gg_iadd hx hb dX4_gather_89 ?_
            refine gg_callVip (As := [.int (xI (r43 + (xRt (x9_64).toNat))), .int (xI (r56 + (xUp (x9_64).toNat)))]) (rest := []) hx hb hml hown hts hK hZ hA (c_X2_fieldAt l D aa cI cZ cJ tR tU (r43 + (xRt (x9_64).toNat)) (r56 + (xUp (x9_64).toNat)) s64 _ h) (cwV 2 hts gX4_gather_X2_fieldAt rfl rfl rfl hd_X2_fieldAt ⟨Nat.le_of_ble_eq_true rfl, Nat.le_of_ble_eq_true rfl⟩) 7 rfl rfl rfl rfl (Nat.le_of_ble_eq_true rfl) dX4_gather_90 (fun r90 h => ?_)
            refine gg_istore (lv' := [(10, .int (xI r90)), (0, .ref (aa 9)), (1, .ref (aa 7)), (2, .ref (aa 14)), (3, .int (xI a3)), (4, .int (xI a4)), (5, .int (xI x5_64)), (6, .int (xI x6_20)), (7, .int (xI r43)), (8, .int (xI r56)), (9, .int (xI x9_64))]) hx hb (by decide) rfl dX4_gather_93 ?_
            refine gg_aload_n hx hb 2 rfl rfl dX4_gather_95 ?_
            refine gg_iload hx hb 0 rfl dX4_gather_96 ?_
            refine gg_callVip (As := [.int (xI r90)]) (rest := []) hx hb hml hown hts hK hZ hA (c_X2_knows l D aa cI cZ cJ tR tU r90 s64 _ h) (cwV 1 hts gX4_gather_X2_knows rfl rfl rfl hd_X2_knows ⟨Nat.le_of_ble_eq_true rfl, Nat.le_of_ble_eq_true rfl⟩) 7 rfl rfl rfl rfl (Nat.le_of_ble_eq_true rfl) dX4_gather_98 (fun r98 h => ?_)
            have h := h (fun (y0_132 : Int) => GG p l e rmX4_gather s m args below meth c (QV below D (cX aa cI cZ cJ) A args s Post) A D (cX aa cI cZ cJ) 12 s64 132 [(0, .ref (aa 9)), (1, .ref (aa 7)), (2, .ref (aa 14)), (3, .int (xI a3)), (4, .int (xI a4)), (5, .int (xI x5_64)), (6, .int (xI x6_20)), (7, .int (xI r43)), (8, .int (xI r56)), (9, .int (xI x9_64)), (10, .int (xI r90))] [.int (xI y0_132)])
            have h := h (by
              intro y0_132 h
              refine gg_istore (lv' := [(11, .int (xI y0_132)), (0, .ref (aa 9)), (1, .ref (aa 7)), (2, .ref (aa 14)), (3, .int (xI a3)), (4, .int (xI a4)), (5, .int (xI x5_64)), (6, .int (xI x6_20)), (7, .int (xI r43)), (8, .int (xI r56)), (9, .int (xI x9_64)), (10, .int (xI r90))]) hx hb (by decide) rfl dX4_gather_132 ?_
              refine gg_iload hx hb 0 rfl dX4_gather_134 ?_
              have h := h (fun (x5_167 : Int) (s167 : xSt) => GG p l e rmX4_gather s m args below meth c (QV below D (cX aa cI cZ cJ) A args s Post) A D (cX aa cI cZ cJ) 12 s167 167 [(0, .ref (aa 9)), (1, .ref (aa 7)), (2, .ref (aa 14)), (3, .int (xI a3)), (4, .int (xI a4)), (5, .int (xI x5_167)), (6, .int (xI x6_20)), (7, .int (xI r43)), (8, .int (xI r56)), (9, .int (xI x9_64))] [])
              have h := h (by
                intro x5_167 s167 h
                refine gg_iload hx hb 9 rfl dX4_gather_167 ?_
                refine gg_iload hx hb 4 rfl dX4_gather_169 ?_
                refine gg_if_eq (tgt := 178) hx hb h.1 dX4_gather_171 rfl (fun c171 => ?_) (fun c171 => ?_)
                · have h := h.2.1 c171
                  refine gg_iconst hx hb dX4_gather_178 ?_
                  refine gg_iadd hx hb dX4_gather_179 ?_
                  refine gg_istore (lv' := [(9, .int (xI (x9_64 + 2))), (0, .ref (aa 9)), (1, .ref (aa 7)), (2, .ref (aa 14)), (3, .int (xI a3)), (4, .int (xI a4)), (5, .int (xI x5_167)), (6, .int (xI x6_20)), (7, .int (xI r43)), (8, .int (xI r56))]) hx hb (by decide) rfl dX4_gather_180 ?_
                  refine gg_goto (tgt := 64) hx hb dX4_gather_182 rfl ?_
                  refine gg_lv [1, 2, 3, 4, 5, 6, 7, 8, 9, 0] rfl ?_
                  exact h
                · have h := h.2.2 c171
                  refine gg_iconst hx hb dX4_gather_174 ?_
                  refine gg_goto (tgt := 179) hx hb dX4_gather_175 rfl ?_
                  refine gg_iadd hx hb dX4_gather_179 ?_
                  refine gg_istore (lv' := [(9, .int (xI (x9_64 + 1))), (0, .ref (aa 9)), (1, .ref (aa 7)), (2, .ref (aa 14)), (3, .int (xI a3)), (4, .int (xI a4)), (5, .int (xI x5_167)), (6, .int (xI x6_20)), (7, .int (xI r43)), (8, .int (xI r56))]) hx hb (by decide) rfl dX4_gather_180 ?_
                  refine gg_goto (tgt := 64) hx hb dX4_gather_182 rfl ?_
                  refine gg_lv [1, 2, 3, 4, 5, 6, 7, 8, 9, 0] rfl ?_
                  exact h)
              refine gg_if_eq (tgt := 167) hx hb h.1 dX4_gather_136 rfl (fun c136 => ?_) (fun c136 => ?_)
              · have h := h.2.1 c136
                refine gg_lv [1, 2, 3, 4, 5, 6, 7, 8, 9, 10] rfl ?_
                exact h
              · have h := h.2.2 c136
                refine gg_iload hx hb 6 rfl dX4_gather_139 ?_
                refine gg_sipush hx hb dX4_gather_141 rfl ?_
                refine gg_icmp_ge (tgt := 167) hx hb h.1 (by decide) dX4_gather_144 rfl (fun c144 => ?_) (fun c144 => ?_)
                · have h := h.2.1 c144
                  refine gg_lv [1, 2, 3, 4, 5, 6, 7, 8, 9, 10] rfl ?_
                  exact h
                · have h := h.2.2 c144
                  refine gg_aload_n hx hb 1 rfl rfl dX4_gather_147 ?_
                  refine gg_get (C := RX4) (T := TX4) (N := 3) hx hb hts hown hK iX4_gather_X4 9 rfl rfl 0 (by decide) (List.mem_of_getElem? (i := 1) rfl) rfl dX4_gather_148 ?_
                  refine gg_iload hx hb 11 rfl dX4_gather_151 ?_
                  refine gg_iload_n hx hb 4 rfl rfl dX4_gather_153 ?_
                  refine gg_iast hx hb hK 10 0 rfl rfl (cX_st_10 aa cI cZ cJ _ _) (by decide) h.1 dX4_gather_154 (fun σ_154 e154 => ?_)
                  have h := h.2 σ_154 e154
                  refine gg_aload_n hx hb 1 rfl rfl dX4_gather_155 ?_
                  refine gg_get (C := RX4) (T := TX4) (N := 3) hx hb hts hown hK iX4_gather_X4 9 rfl rfl 1 (by decide) (List.mem_of_getElem? (i := 2) rfl) rfl dX4_gather_156 ?_
                  refine gg_iload hx hb 6 rfl dX4_gather_159 ?_
                  refine gg_iload hx hb 11 rfl dX4_gather_161 ?_
                  refine gg_iast hx hb hK 11 0 rfl rfl (cX_st_11 aa cI cZ cJ _ _) (by decide) h.1 dX4_gather_163 (fun σ_163 e163 => ?_)
                  have h := h.2 σ_163 e163
                  refine gg_iinc (lv' := [(5, .int (xI (x5_64 + 1))), (11, .int (xI y0_132)), (0, .ref (aa 9)), (1, .ref (aa 7)), (2, .ref (aa 14)), (3, .int (xI a3)), (4, .int (xI a4)), (6, .int (xI x6_20)), (7, .int (xI r43)), (8, .int (xI r56)), (9, .int (xI x9_64)), (10, .int (xI r90))]) hx hb 6 rfl (by decide) rfl dX4_gather_164 ?_
                  refine gg_lv [2, 3, 4, 5, 6, 0, 7, 8, 9, 10] rfl ?_
                  exact h)
            refine gg_if_eq (tgt := 131) hx hb h.1 dX4_gather_101 rfl (fun c101 => ?_) (fun c101 => ?_)
            · have h := h.2.1 c101
              refine gg_iconst hx hb dX4_gather_131 ?_
              refine gg_lv [1, 2, 3, 4, 5, 6, 7, 8, 9, 10, 0] rfl ?_
              exact h
            · have h := h.2.2 c101
              refine gg_aload_n hx hb 3 rfl rfl dX4_gather_104 ?_
              refine gg_iload hx hb 0 rfl dX4_gather_105 ?_
              refine gg_zald hx hb hK 14 1 rfl rfl (by decide) h.1 dX4_gather_107 ?_
              have h := h.2
              refine gg_aload_n hx hb 3 rfl rfl dX4_gather_108 ?_
              refine gg_iload_n hx hb 4 rfl rfl dX4_gather_109 ?_
              refine gg_zald hx hb hK 14 1 rfl rfl (by decide) h.1 dX4_gather_110 ?_
              have h := h.2
              refine gg_icmp_ne (tgt := 131) hx hb h.1 h.2.1 dX4_gather_111 rfl (fun c111 => ?_) (fun c111 => ?_)
              · have h := h.2.2.1 c111
                refine gg_iconst hx hb dX4_gather_131 ?_
                refine gg_lv [1, 2, 3, 4, 5, 6, 7, 8, 9, 10, 0] rfl ?_
                exact h
              · have h := h.2.2.2 c111
                refine gg_aload_n hx hb 1 rfl rfl dX4_gather_114 ?_
                refine gg_get (C := RX4) (T := TX4) (N := 3) hx hb hts hown hK iX4_gather_X4 9 rfl rfl 0 (by decide) (List.mem_of_getElem? (i := 1) rfl) rfl dX4_gather_115 ?_
                refine gg_iload hx hb 0 rfl dX4_gather_118 ?_
                refine gg_iald hx hb hK 10 0 rfl rfl (by decide) h.1 dX4_gather_120 ?_
                have h := h.2
                refine gg_sipush hx hb dX4_gather_121 rfl ?_
                refine gg_icmp_ne (tgt := 131) hx hb h.1 (by decide) dX4_gather_124 rfl (fun c124 => ?_) (fun c124 => ?_)
                · have h := h.2.1 c124
                  refine gg_iconst hx hb dX4_gather_131 ?_
                  refine gg_lv [1, 2, 3, 4, 5, 6, 7, 8, 9, 10, 0] rfl ?_
                  exact h
                · have h := h.2.2 c124
                  refine gg_iconst hx hb dX4_gather_127 ?_
                  refine gg_goto (tgt := 132) hx hb dX4_gather_128 rfl ?_
                  refine gg_lv [1, 2, 3, 4, 5, 6, 7, 8, 9, 10, 0] rfl ?_
                  exact h)
        refine gg_lv [3, 4, 5, 6, 7, 8, 9, 2, 1, 0] rfl ?_
        exact h)
  refine gg_lv [2, 3, 4, 5, 6, 1, 0] rfl ?_
  exact h
abbrev rmX4_split : Room := { frames := 3, cells := 0, slots := 0, locals := 72 }
theorem iX4_split_X4 : ∀ w ∈ u_ws RX4 TX4 3, w ∈ wsX4_split := (fun _ h => List.mem_cons_of_mem _ (List.mem_append_left _ (List.mem_append_right _ h)))
theorem hd_X4_split : (yX4_split.cls = RX4 ∧ yX4_split.cls ≠ "java/lang/invoke/MethodHandle" ∧ yX4_split.cls ≠ "java/lang/invoke/VarHandle" ∧ (parseMethodDescriptor yX4_split.desc).map (fun d => d.parameters.length) = some 4) := by decide +kernel
set_option maxRecDepth 100000 in
set_option maxHeartbeats 4000000 in
theorem c_X4_split_8 (l : Launch) (D : va_G) (aa : Nat → Nat) (cI cZ cJ : ClassId) (tR tU : Nat) (a3 : Int) (a4 : Int) (σ : xSt) (Post : Int → xSt → Prop) (h : wp_X4_split 8 a3 a4 σ Post) : MI l D (tyL cI cZ cJ) (cX aa cI cZ cJ) tR tU yX4_split wsX4_split rmX4_split [.ref (aa 9), .ref (aa 7), .ref (aa 8), .int (xI a3), .int (xI a4)] σ Post := by
  refine mi_of (cc := cX4_split) (maxL := 8) (ret := (some .int)) (by decide) rfl (Nat.le_of_ble_eq_true rfl) ?_
  intro p e s m args below meth c A hF
  obtain ⟨hx, hb, hr, hml, hown, hts, hlk, hK, hZ, hA⟩ := hF
  have hown : s.vm.findClass RX4 = some m.cls := hown
  delta wp_X4_split at h
  refine gg_lv (lv' := [(0, .ref (aa 9)), (1, .ref (aa 7)), (2, .ref (aa 8)), (3, .int (xI a3)), (4, .int (xI a4))]) [0, 1, 2, 3, 4] rfl ?_
  refine gg_aload_n hx hb 1 rfl rfl dX4_split_0 ?_
  refine gg_callVip (As := []) (rest := []) hx hb hml hown hts hK hZ hA (c_X2_fields l D aa cI cZ cJ tR tU σ _ h) (cwV 0 hts gX4_split_X2_fields rfl rfl rfl hd_X2_fields ⟨Nat.le_of_ble_eq_true rfl, Nat.le_of_ble_eq_true rfl⟩) 7 rfl rfl rfl rfl (Nat.le_of_ble_eq_true rfl) dX4_split_1 (fun r1 h => ?_)
  refine gg_aload_n hx hb 2 rfl rfl dX4_split_4 ?_
  refine gg_alen (z := 144) hx hb hK 8 1 rfl rfl rfl dX4_split_5 ?_
  refine gg_mmin hx hb hml hown hts h.1 h.2.1 (List.mem_of_getElem? (i := 1) rfl) (List.mem_of_getElem? (i := 2) rfl) (List.mem_of_getElem? (i := 3) rfl) (List.mem_of_getElem? (i := 4) rfl) (Nat.le_of_ble_eq_true rfl) (Nat.le_of_ble_eq_true rfl) dX4_split_6 ?_
  have h := h.2.2
  refine gg_istore (lv' := [(5, .int (xI (xMin r1 144))), (0, .ref (aa 9)), (1, .ref (aa 7)), (2, .ref (aa 8)), (3, .int (xI a3)), (4, .int (xI a4))]) hx hb (by decide) rfl dX4_split_9 ?_
  refine gg_iconst hx hb dX4_split_11 ?_
  refine gg_istore (lv' := [(6, .int (xI 0)), (5, .int (xI (xMin r1 144))), (0, .ref (aa 9)), (1, .ref (aa 7)), (2, .ref (aa 8)), (3, .int (xI a3)), (4, .int (xI a4))]) hx hb (by decide) rfl dX4_split_12 ?_
  have h := h (fun (x6_14 : Int) (s14 : xSt) => GG p l e rmX4_split s m args below meth c (QI below D (cX aa cI cZ cJ) A args s Post) A D (cX aa cI cZ cJ) 8 s14 14 [(0, .ref (aa 9)), (1, .ref (aa 7)), (2, .ref (aa 8)), (3, .int (xI a3)), (4, .int (xI a4)), (5, .int (xI (xMin r1 144))), (6, .int (xI x6_14))] [])
  have h := h (by
    intro x6_14 s14 h
    refine gg_iload hx hb 6 rfl dX4_split_14 ?_
    refine gg_iload hx hb 5 rfl dX4_split_16 ?_
    refine gg_icmp_ge (tgt := 37) hx hb h.1 h.2.1 dX4_split_18 rfl (fun c18 => ?_) (fun c18 => ?_)
    · have h := h.2.2.1 c18
      refine gg_iconst hx hb dX4_split_37 ?_
      refine gg_istore (lv' := [(6, .int (xI 0)), (0, .ref (aa 9)), (1, .ref (aa 7)), (2, .ref (aa 8)), (3, .int (xI a3)), (4, .int (xI a4)), (5, .int (xI (xMin r1 144)))]) hx hb (by decide) rfl dX4_split_38 ?_
      refine gg_iconst hx hb dX4_split_40 ?_
      refine gg_istore (lv' := [(7, .int (xI 0)), (6, .int (xI 0)), (0, .ref (aa 9)), (1, .ref (aa 7)), (2, .ref (aa 8)), (3, .int (xI a3)), (4, .int (xI a4)), (5, .int (xI (xMin r1 144)))]) hx hb (by decide) rfl dX4_split_41 ?_
      have h := h (fun (x6_43 x7_43 : Int) (s43 : xSt) => GG p l e rmX4_split s m args below meth c (QI below D (cX aa cI cZ cJ) A args s Post) A D (cX aa cI cZ cJ) 8 s43 43 [(0, .ref (aa 9)), (1, .ref (aa 7)), (2, .ref (aa 8)), (3, .int (xI a3)), (4, .int (xI a4)), (5, .int (xI (xMin r1 144))), (6, .int (xI x6_43)), (7, .int (xI x7_43))] [])
      have h := h (by
        intro x6_43 x7_43 s43 h
        refine gg_iload hx hb 7 rfl dX4_split_43 ?_
        refine gg_iload hx hb 5 rfl dX4_split_45 ?_
        refine gg_icmp_ge (tgt := 90) hx hb h.1 h.2.1 dX4_split_47 rfl (fun c47 => ?_) (fun c47 => ?_)
        · have h := h.2.2.1 c47
          refine gg_iload hx hb 6 rfl dX4_split_90 ?_
          exact gg_iret hx hb hr hlk h dX4_split_92
        · have h := h.2.2.2 c47
          refine gg_aload_n hx hb 2 rfl rfl dX4_split_50 ?_
          refine gg_iload hx hb 7 rfl dX4_split_51 ?_
          refine gg_zald hx hb hK 8 1 rfl rfl (by decide) h.1 dX4_split_53 ?_
          have h := h.2
          refine gg_iload_n hx hb 3 rfl rfl dX4_split_54 ?_
          refine gg_icmp_ne (tgt := 84) hx hb h.1 h.2.1 dX4_split_55 rfl (fun c55 => ?_) (fun c55 => ?_)
          · have h := h.2.2.1 c55
            refine gg_iinc (lv' := [(7, .int (xI (x7_43 + 1))), (0, .ref (aa 9)), (1, .ref (aa 7)), (2, .ref (aa 8)), (3, .int (xI a3)), (4, .int (xI a4)), (5, .int (xI (xMin r1 144))), (6, .int (xI x6_43))]) hx hb 7 rfl (by decide) rfl dX4_split_84 ?_
            refine gg_goto (tgt := 43) hx hb dX4_split_87 rfl ?_
            refine gg_lv [1, 2, 3, 4, 5, 6, 7, 0] rfl ?_
            exact h
          · have h := h.2.2.2 c55
            refine gg_aload_n hx hb 0 rfl rfl dX4_split_58 ?_
            refine gg_get (C := RX4) (T := TX4) (N := 3) hx hb hts hown hK iX4_split_X4 9 rfl rfl 0 (by decide) (List.mem_of_getElem? (i := 5) rfl) rfl dX4_split_59 ?_
            refine gg_iload hx hb 7 rfl dX4_split_62 ?_
            refine gg_iald hx hb hK 10 0 rfl rfl (by decide) h.1 dX4_split_64 ?_
            have h := h.2
            refine gg_sipush hx hb dX4_split_65 rfl ?_
            refine gg_icmp_ne (tgt := 84) hx hb h.1 (by decide) dX4_split_68 rfl (fun c68 => ?_) (fun c68 => ?_)
            · have h := h.2.1 c68
              refine gg_iinc (lv' := [(7, .int (xI (x7_43 + 1))), (0, .ref (aa 9)), (1, .ref (aa 7)), (2, .ref (aa 8)), (3, .int (xI a3)), (4, .int (xI a4)), (5, .int (xI (xMin r1 144))), (6, .int (xI x6_43))]) hx hb 7 rfl (by decide) rfl dX4_split_84 ?_
              refine gg_goto (tgt := 43) hx hb dX4_split_87 rfl ?_
              refine gg_lv [1, 2, 3, 4, 5, 6, 7, 0] rfl ?_
              exact h
            · have h := h.2.2 c68
              refine gg_aload_n hx hb 0 rfl rfl dX4_split_71 ?_
              refine gg_aload_n hx hb 1 rfl rfl dX4_split_72 ?_
              refine gg_aload_n hx hb 2 rfl rfl dX4_split_73 ?_
              refine gg_iload hx hb 7 rfl dX4_split_74 ?_
              refine gg_iload hx hb 4 rfl dX4_split_76 ?_
              refine gg_callVv (As := [.ref (aa 7), .ref (aa 8), .int (xI x7_43), .int (xI a4)]) (rest := []) hx hb hml hown hts hK hZ hA (c_X4_gather_8 l D aa cI cZ cJ tR tU x7_43 a4 s43 _ h) (cwV 4 hts gX4_split_X4_gather rfl rfl rfl hd_X4_gather ⟨Nat.le_of_ble_eq_true rfl, Nat.le_of_ble_eq_true rfl⟩) 9 rfl rfl rfl rfl (Nat.le_of_ble_eq_true rfl) dX4_split_78 (fun t78 h => ?_)
              refine gg_iinc (lv' := [(6, .int (xI (x6_43 + 1))), (0, .ref (aa 9)), (1, .ref (aa 7)), (2, .ref (aa 8)), (3, .int (xI a3)), (4, .int (xI a4)), (5, .int (xI (xMin r1 144))), (7, .int (xI x7_43))]) hx hb 6 rfl (by decide) rfl dX4_split_81 ?_
              refine gg_iinc (lv' := [(7, .int (xI (x7_43 + 1))), (6, .int (xI (x6_43 + 1))), (0, .ref (aa 9)), (1, .ref (aa 7)), (2, .ref (aa 8)), (3, .int (xI a3)), (4, .int (xI a4)), (5, .int (xI (xMin r1 144)))]) hx hb 7 rfl (by decide) rfl dX4_split_84 ?_
              refine gg_goto (tgt := 43) hx hb dX4_split_87 rfl ?_
              refine gg_lv [2, 3, 4, 5, 6, 7, 1, 0] rfl ?_
              exact h)
      refine gg_lv [2, 3, 4, 5, 6, 7, 1, 0] rfl ?_
      exact h
    · have h := h.2.2.2 c18
      refine gg_aload_n hx hb 0 rfl rfl dX4_split_21 ?_
      refine gg_get (C := RX4) (T := TX4) (N := 3) hx hb hts hown hK iX4_split_X4 9 rfl rfl 0 (by decide) (List.mem_of_getElem? (i := 5) rfl) rfl dX4_split_22 ?_
      refine gg_iload hx hb 6 rfl dX4_split_25 ?_
      refine gg_sipush hx hb dX4_split_27 rfl ?_
      refine gg_iast hx hb hK 10 0 rfl rfl (cX_st_10 aa cI cZ cJ _ _) (by decide) h.1 dX4_split_30 (fun σ_30 e30 => ?_)
      have h := h.2 σ_30 e30
      refine gg_iinc (lv' := [(6, .int (xI (x6_14 + 1))), (0, .ref (aa 9)), (1, .ref (aa 7)), (2, .ref (aa 8)), (3, .int (xI a3)), (4, .int (xI a4)), (5, .int (xI (xMin r1 144)))]) hx hb 6 rfl (by decide) rfl dX4_split_31 ?_
      refine gg_goto (tgt := 14) hx hb dX4_split_34 rfl ?_
      refine gg_lv [1, 2, 3, 4, 5, 6, 0] rfl ?_
      exact h)
  refine gg_lv [2, 3, 4, 5, 6, 1, 0] rfl ?_
  exact h
set_option maxRecDepth 100000 in
set_option maxHeartbeats 4000000 in
theorem c_X4_split_14 (l : Launch) (D : va_G) (aa : Nat → Nat) (cI cZ cJ : ClassId) (tR tU : Nat) (a3 : Int) (a4 : Int) (σ : xSt) (Post : Int → xSt → Prop) (h : wp_X4_split 14 a3 a4 σ Post) : MI l D (tyL cI cZ cJ) (cX aa cI cZ cJ) tR tU yX4_split wsX4_split rmX4_split [.ref (aa 9), .ref (aa 7), .ref (aa 14), .int (xI a3), .int (xI a4)] σ Post := by
  refine mi_of (cc := cX4_split) (maxL := 8) (ret := (some .int)) (by decide) rfl (Nat.le_of_ble_eq_true rfl) ?_
  intro p e s m args below meth c A hF
  obtain ⟨hx, hb, hr, hml, hown, hts, hlk, hK, hZ, hA⟩ := hF
  have hown : s.vm.findClass RX4 = some m.cls := hown
  delta wp_X4_split at h
  refine gg_lv (lv' := [(0, .ref (aa 9)), (1, .ref (aa 7)), (2, .ref (aa 14)), (3, .int (xI a3)), (4, .int (xI a4))]) [0, 1, 2, 3, 4] rfl ?_
  refine gg_aload_n hx hb 1 rfl rfl dX4_split_0 ?_
  refine gg_callVip (As := []) (rest := []) hx hb hml hown hts hK hZ hA (c_X2_fields l D aa cI cZ cJ tR tU σ _ h) (cwV 0 hts gX4_split_X2_fields rfl rfl rfl hd_X2_fields ⟨Nat.le_of_ble_eq_true rfl, Nat.le_of_ble_eq_true rfl⟩) 7 rfl rfl rfl rfl (Nat.le_of_ble_eq_true rfl) dX4_split_1 (fun r1 h => ?_)
  refine gg_aload_n hx hb 2 rfl rfl dX4_split_4 ?_
  refine gg_alen (z := 144) hx hb hK 14 1 rfl rfl rfl dX4_split_5 ?_
  refine gg_mmin hx hb hml hown hts h.1 h.2.1 (List.mem_of_getElem? (i := 1) rfl) (List.mem_of_getElem? (i := 2) rfl) (List.mem_of_getElem? (i := 3) rfl) (List.mem_of_getElem? (i := 4) rfl) (Nat.le_of_ble_eq_true rfl) (Nat.le_of_ble_eq_true rfl) dX4_split_6 ?_
  have h := h.2.2
  refine gg_istore (lv' := [(5, .int (xI (xMin r1 144))), (0, .ref (aa 9)), (1, .ref (aa 7)), (2, .ref (aa 14)), (3, .int (xI a3)), (4, .int (xI a4))]) hx hb (by decide) rfl dX4_split_9 ?_
  refine gg_iconst hx hb dX4_split_11 ?_
  refine gg_istore (lv' := [(6, .int (xI 0)), (5, .int (xI (xMin r1 144))), (0, .ref (aa 9)), (1, .ref (aa 7)), (2, .ref (aa 14)), (3, .int (xI a3)), (4, .int (xI a4))]) hx hb (by decide) rfl dX4_split_12 ?_
  have h := h (fun (x6_14 : Int) (s14 : xSt) => GG p l e rmX4_split s m args below meth c (QI below D (cX aa cI cZ cJ) A args s Post) A D (cX aa cI cZ cJ) 8 s14 14 [(0, .ref (aa 9)), (1, .ref (aa 7)), (2, .ref (aa 14)), (3, .int (xI a3)), (4, .int (xI a4)), (5, .int (xI (xMin r1 144))), (6, .int (xI x6_14))] [])
  have h := h (by
    intro x6_14 s14 h
    refine gg_iload hx hb 6 rfl dX4_split_14 ?_
    refine gg_iload hx hb 5 rfl dX4_split_16 ?_
    refine gg_icmp_ge (tgt := 37) hx hb h.1 h.2.1 dX4_split_18 rfl (fun c18 => ?_) (fun c18 => ?_)
    · have h := h.2.2.1 c18
      refine gg_iconst hx hb dX4_split_37 ?_
      refine gg_istore (lv' := [(6, .int (xI 0)), (0, .ref (aa 9)), (1, .ref (aa 7)), (2, .ref (aa 14)), (3, .int (xI a3)), (4, .int (xI a4)), (5, .int (xI (xMin r1 144)))]) hx hb (by decide) rfl dX4_split_38 ?_
      refine gg_iconst hx hb dX4_split_40 ?_
      refine gg_istore (lv' := [(7, .int (xI 0)), (6, .int (xI 0)), (0, .ref (aa 9)), (1, .ref (aa 7)), (2, .ref (aa 14)), (3, .int (xI a3)), (4, .int (xI a4)), (5, .int (xI (xMin r1 144)))]) hx hb (by decide) rfl dX4_split_41 ?_
      have h := h (fun (x6_43 x7_43 : Int) (s43 : xSt) => GG p l e rmX4_split s m args below meth c (QI below D (cX aa cI cZ cJ) A args s Post) A D (cX aa cI cZ cJ) 8 s43 43 [(0, .ref (aa 9)), (1, .ref (aa 7)), (2, .ref (aa 14)), (3, .int (xI a3)), (4, .int (xI a4)), (5, .int (xI (xMin r1 144))), (6, .int (xI x6_43)), (7, .int (xI x7_43))] [])
      have h := h (by
        intro x6_43 x7_43 s43 h
        refine gg_iload hx hb 7 rfl dX4_split_43 ?_
        refine gg_iload hx hb 5 rfl dX4_split_45 ?_
        refine gg_icmp_ge (tgt := 90) hx hb h.1 h.2.1 dX4_split_47 rfl (fun c47 => ?_) (fun c47 => ?_)
        · have h := h.2.2.1 c47
          refine gg_iload hx hb 6 rfl dX4_split_90 ?_
          exact gg_iret hx hb hr hlk h dX4_split_92
        · have h := h.2.2.2 c47
          refine gg_aload_n hx hb 2 rfl rfl dX4_split_50 ?_
          refine gg_iload hx hb 7 rfl dX4_split_51 ?_
          refine gg_zald hx hb hK 14 1 rfl rfl (by decide) h.1 dX4_split_53 ?_
          have h := h.2
          refine gg_iload_n hx hb 3 rfl rfl dX4_split_54 ?_
          refine gg_icmp_ne (tgt := 84) hx hb h.1 h.2.1 dX4_split_55 rfl (fun c55 => ?_) (fun c55 => ?_)
          · have h := h.2.2.1 c55
            refine gg_iinc (lv' := [(7, .int (xI (x7_43 + 1))), (0, .ref (aa 9)), (1, .ref (aa 7)), (2, .ref (aa 14)), (3, .int (xI a3)), (4, .int (xI a4)), (5, .int (xI (xMin r1 144))), (6, .int (xI x6_43))]) hx hb 7 rfl (by decide) rfl dX4_split_84 ?_
            refine gg_goto (tgt := 43) hx hb dX4_split_87 rfl ?_
            refine gg_lv [1, 2, 3, 4, 5, 6, 7, 0] rfl ?_
            exact h
          · have h := h.2.2.2 c55
            refine gg_aload_n hx hb 0 rfl rfl dX4_split_58 ?_
            refine gg_get (C := RX4) (T := TX4) (N := 3) hx hb hts hown hK iX4_split_X4 9 rfl rfl 0 (by decide) (List.mem_of_getElem? (i := 5) rfl) rfl dX4_split_59 ?_
            refine gg_iload hx hb 7 rfl dX4_split_62 ?_
            refine gg_iald hx hb hK 10 0 rfl rfl (by decide) h.1 dX4_split_64 ?_
            have h := h.2
            refine gg_sipush hx hb dX4_split_65 rfl ?_
            refine gg_icmp_ne (tgt := 84) hx hb h.1 (by decide) dX4_split_68 rfl (fun c68 => ?_) (fun c68 => ?_)
            · have h := h.2.1 c68
              refine gg_iinc (lv' := [(7, .int (xI (x7_43 + 1))), (0, .ref (aa 9)), (1, .ref (aa 7)), (2, .ref (aa 14)), (3, .int (xI a3)), (4, .int (xI a4)), (5, .int (xI (xMin r1 144))), (6, .int (xI x6_43))]) hx hb 7 rfl (by decide) rfl dX4_split_84 ?_
              refine gg_goto (tgt := 43) hx hb dX4_split_87 rfl ?_
              refine gg_lv [1, 2, 3, 4, 5, 6, 7, 0] rfl ?_
              exact h
            · have h := h.2.2 c68
              refine gg_aload_n hx hb 0 rfl rfl dX4_split_71 ?_
              refine gg_aload_n hx hb 1 rfl rfl dX4_split_72 ?_
              refine gg_aload_n hx hb 2 rfl rfl dX4_split_73 ?_
              refine gg_iload hx hb 7 rfl dX4_split_74 ?_
              refine gg_iload hx hb 4 rfl dX4_split_76 ?_
              refine gg_callVv (As := [.ref (aa 7), .ref (aa 14), .int (xI x7_43), .int (xI a4)]) (rest := []) hx hb hml hown hts hK hZ hA (c_X4_gather_14 l D aa cI cZ cJ tR tU x7_43 a4 s43 _ h) (cwV 4 hts gX4_split_X4_gather rfl rfl rfl hd_X4_gather ⟨Nat.le_of_ble_eq_true rfl, Nat.le_of_ble_eq_true rfl⟩) 9 rfl rfl rfl rfl (Nat.le_of_ble_eq_true rfl) dX4_split_78 (fun t78 h => ?_)
              refine gg_iinc (lv' := [(6, .int (xI (x6_43 + 1))), (0, .ref (aa 9)), (1, .ref (aa 7)), (2, .ref (aa 14)), (3, .int (xI a3)), (4, .int (xI a4)), (5, .int (xI (xMin r1 144))), (7, .int (xI x7_43))]) hx hb 6 rfl (by decide) rfl dX4_split_81 ?_
              refine gg_iinc (lv' := [(7, .int (xI (x7_43 + 1))), (6, .int (xI (x6_43 + 1))), (0, .ref (aa 9)), (1, .ref (aa 7)), (2, .ref (aa 14)), (3, .int (xI a3)), (4, .int (xI a4)), (5, .int (xI (xMin r1 144)))]) hx hb 7 rfl (by decide) rfl dX4_split_84 ?_
              refine gg_goto (tgt := 43) hx hb dX4_split_87 rfl ?_
              refine gg_lv [2, 3, 4, 5, 6, 7, 1, 0] rfl ?_
              exact h)
      refine gg_lv [2, 3, 4, 5, 6, 7, 1, 0] rfl ?_
      exact h
    · have h := h.2.2.2 c18
      refine gg_aload_n hx hb 0 rfl rfl dX4_split_21 ?_
      refine gg_get (C := RX4) (T := TX4) (N := 3) hx hb hts hown hK iX4_split_X4 9 rfl rfl 0 (by decide) (List.mem_of_getElem? (i := 5) rfl) rfl dX4_split_22 ?_
      refine gg_iload hx hb 6 rfl dX4_split_25 ?_
      refine gg_sipush hx hb dX4_split_27 rfl ?_
      refine gg_iast hx hb hK 10 0 rfl rfl (cX_st_10 aa cI cZ cJ _ _) (by decide) h.1 dX4_split_30 (fun σ_30 e30 => ?_)
      have h := h.2 σ_30 e30
      refine gg_iinc (lv' := [(6, .int (xI (x6_14 + 1))), (0, .ref (aa 9)), (1, .ref (aa 7)), (2, .ref (aa 14)), (3, .int (xI a3)), (4, .int (xI a4)), (5, .int (xI (xMin r1 144)))]) hx hb 6 rfl (by decide) rfl dX4_split_31 ?_
      refine gg_goto (tgt := 14) hx hb dX4_split_34 rfl ?_
      refine gg_lv [1, 2, 3, 4, 5, 6, 0] rfl ?_
      exact h)
  refine gg_lv [2, 3, 4, 5, 6, 1, 0] rfl ?_
  exact h
abbrev rmX2_onEdge : Room := { frames := 1, cells := 0, slots := 0, locals := 21 }
theorem iX2_onEdge_X2 : ∀ w ∈ u_ws RX2 TX2 3, w ∈ wsX2_onEdge := (fun _ h => List.mem_cons_of_mem _ (List.mem_append_right _ h))
theorem hd_X2_onEdge : (yX2_onEdge.cls = RX2 ∧ yX2_onEdge.cls ≠ "java/lang/invoke/MethodHandle" ∧ yX2_onEdge.cls ≠ "java/lang/invoke/VarHandle" ∧ (parseMethodDescriptor yX2_onEdge.desc).map (fun d => d.parameters.length) = some 1) := by decide +kernel
set_option maxRecDepth 100000 in
set_option maxHeartbeats 4000000 in
theorem c_X2_onEdge (l : Launch) (D : va_G) (aa : Nat → Nat) (cI cZ cJ : ClassId) (tR tU : Nat) (a1 : Int) (σ : xSt) (Post : Int → Prop) (h : wp_X2_onEdge a1 σ Post) : MI l D (tyL cI cZ cJ) (cX aa cI cZ cJ) tR tU yX2_onEdge wsX2_onEdge rmX2_onEdge [.ref (aa 7), .int (xI a1)] σ (fun r9 σ9 => σ9 = σ ∧ Post r9) := by
  refine mi_of (cc := cX2_onEdge) (maxL := 4) (ret := (some .boolean)) (by decide) rfl (Nat.le_of_ble_eq_true rfl) ?_
  intro p e s m args below meth c A hF
  obtain ⟨hx, hb, hr, hml, hown, hts, hlk, hK, hZ, hA⟩ := hF
  have hown : s.vm.findClass RX2 = some m.cls := hown
  delta wp_X2_onEdge at h
  refine gg_lv (lv' := [(0, .ref (aa 7)), (1, .int (xI a1))]) [0, 1] rfl ?_
  refine gg_aload_n hx hb 0 rfl rfl dX2_onEdge_0 ?_
  refine gg_iload_n hx hb 1 rfl rfl dX2_onEdge_1 ?_
  refine gg_callVip (As := [.int (xI a1)]) (rest := []) hx hb hml hown hts hK hZ hA (c_X2_columnOf l D aa cI cZ cJ tR tU a1 σ _ h) (cwV 1 hts gX2_onEdge_X2_columnOf rfl rfl rfl hd_X2_columnOf ⟨Nat.le_of_ble_eq_true rfl, Nat.le_of_ble_eq_true rfl⟩) 7 rfl rfl rfl rfl (Nat.le_of_ble_eq_true rfl) dX2_onEdge_2 (fun r2 h => ?_)
  refine gg_istore_n (lv' := [(2, .int (xI r2)), (0, .ref (aa 7)), (1, .int (xI a1))]) hx hb rfl (by decide) rfl dX2_onEdge_5 ?_
  refine gg_aload_n hx hb 1 rfl rfl dX2_onEdge_6 ?_
  refine gg_iload_n hx hb 2 rfl rfl dX2_onEdge_7 ?_
  refine gg_callVip (As := [.int (xI a1)]) (rest := []) hx hb hml hown hts hK hZ hA (c_X2_lineOf l D aa cI cZ cJ tR tU a1 σ _ h) (cwV 1 hts gX2_onEdge_X2_lineOf rfl rfl rfl hd_X2_lineOf ⟨Nat.le_of_ble_eq_true rfl, Nat.le_of_ble_eq_true rfl⟩) 7 rfl rfl rfl rfl (Nat.le_of_ble_eq_true rfl) dX2_onEdge_8 (fun r8 h => ?_)
  refine gg_istore_n (lv' := [(3, .int (xI r8)), (2, .int (xI r2)), (0, .ref (aa 7)), (1, .int (xI a1))]) hx hb rfl (by decide) rfl dX2_onEdge_11 ?_
  refine gg_iload_n hx hb 1 rfl rfl dX2_onEdge_12 ?_
  refine gg_if_eq (tgt := 40) hx hb h.1 dX2_onEdge_13 rfl (fun c13 => ?_) (fun c13 => ?_)
  · have h := h.2.1 c13
    refine gg_iconst hx hb dX2_onEdge_40 ?_
    refine gg_goto (tgt := 45) hx hb dX2_onEdge_41 rfl ?_
    exact gg_zret hx hb hr hlk (Or.inr rfl) ⟨rfl, h⟩ dX2_onEdge_45
  · have h := h.2.2 c13
    refine gg_iload_n hx hb 0 rfl rfl dX2_onEdge_16 ?_
    refine gg_if_eq (tgt := 40) hx hb h.1 dX2_onEdge_17 rfl (fun c17 => ?_) (fun c17 => ?_)
    · have h := h.2.1 c17
      refine gg_iconst hx hb dX2_onEdge_40 ?_
      refine gg_goto (tgt := 45) hx hb dX2_onEdge_41 rfl ?_
      exact gg_zret hx hb hr hlk (Or.inr rfl) ⟨rfl, h⟩ dX2_onEdge_45
    · have h := h.2.2 c17
      refine gg_iload_n hx hb 1 rfl rfl dX2_onEdge_20 ?_
      refine gg_aload_n hx hb 2 rfl rfl dX2_onEdge_21 ?_
      refine gg_get (C := RX2) (T := TX2) (N := 3) hx hb hts hown hK iX2_onEdge_X2 7 rfl rfl 1 (by decide) (List.mem_of_getElem? (i := 1) rfl) rfl dX2_onEdge_22 ?_
      refine gg_iconst hx hb dX2_onEdge_25 ?_
      refine gg_isub hx hb dX2_onEdge_26 ?_
      refine gg_icmp_eq (tgt := 40) hx hb h.1 h.2.1 dX2_onEdge_27 rfl (fun c27 => ?_) (fun c27 => ?_)
      · have h := h.2.2.1 c27
        refine gg_iconst hx hb dX2_onEdge_40 ?_
        refine gg_goto (tgt := 45) hx hb dX2_onEdge_41 rfl ?_
        exact gg_zret hx hb hr hlk (Or.inr rfl) ⟨rfl, h⟩ dX2_onEdge_45
      · have h := h.2.2.2 c27
        refine gg_iload_n hx hb 0 rfl rfl dX2_onEdge_30 ?_
        refine gg_aload_n hx hb 2 rfl rfl dX2_onEdge_31 ?_
        refine gg_get (C := RX2) (T := TX2) (N := 3) hx hb hts hown hK iX2_onEdge_X2 7 rfl rfl 2 (by decide) (List.mem_of_getElem? (i := 2) rfl) rfl dX2_onEdge_32 ?_
        refine gg_iconst hx hb dX2_onEdge_35 ?_
        refine gg_isub hx hb dX2_onEdge_36 ?_
        refine gg_icmp_ne (tgt := 44) hx hb h.1 h.2.1 dX2_onEdge_37 rfl (fun c37 => ?_) (fun c37 => ?_)
        · have h := h.2.2.1 c37
          refine gg_iconst hx hb dX2_onEdge_44 ?_
          exact gg_zret hx hb hr hlk (Or.inl rfl) ⟨rfl, h⟩ dX2_onEdge_45
        · have h := h.2.2.2 c37
          refine gg_iconst hx hb dX2_onEdge_40 ?_
          refine gg_goto (tgt := 45) hx hb dX2_onEdge_41 rfl ?_
          exact gg_zret hx hb hr hlk (Or.inr rfl) ⟨rfl, h⟩ dX2_onEdge_45
abbrev rmX4_findOpen : Room := { frames := 2, cells := 0, slots := 0, locals := 44 }
theorem iX4_findOpen_X4 : ∀ w ∈ u_ws RX4 TX4 3, w ∈ wsX4_findOpen := (fun _ h => List.mem_cons_of_mem _ (List.mem_append_left _ (List.mem_append_right _ h)))
theorem hd_X4_findOpen : (yX4_findOpen.cls = RX4 ∧ yX4_findOpen.cls ≠ "java/lang/invoke/MethodHandle" ∧ yX4_findOpen.cls ≠ "java/lang/invoke/VarHandle" ∧ (parseMethodDescriptor yX4_findOpen.desc).map (fun d => d.parameters.length) = some 1) := by decide +kernel
set_option maxRecDepth 100000 in
set_option maxHeartbeats 4000000 in
theorem c_X4_findOpen (l : Launch) (D : va_G) (aa : Nat → Nat) (cI cZ cJ : ClassId) (tR tU : Nat) (σ : xSt) (Post : xSt → Prop) (h : wp_X4_findOpen σ Post) : MV l D (tyL cI cZ cJ) (cX aa cI cZ cJ) tR tU yX4_findOpen wsX4_findOpen rmX4_findOpen [.ref (aa 9), .ref (aa 7)] σ Post := by
  refine mv_of (cc := cX4_findOpen) (maxL := 4) (ret := none) (by decide) rfl (Nat.le_of_ble_eq_true rfl) ?_
  intro p e s m args below meth c A hF
  obtain ⟨hx, hb, hr, hml, hown, hts, hlk, hK, hZ, hA⟩ := hF
  have hown : s.vm.findClass RX4 = some m.cls := hown
  delta wp_X4_findOpen at h
  refine gg_lv (lv' := [(0, .ref (aa 9)), (1, .ref (aa 7))]) [0, 1] rfl ?_
  refine gg_iconst hx hb dX4_findOpen_0 ?_
  refine gg_istore_n (lv' := [(2, .int (xI 0)), (0, .ref (aa 9)), (1, .ref (aa 7))]) hx hb rfl (by decide) rfl dX4_findOpen_1 ?_
  have h := h (fun (x2_2 : Int) (s2 : xSt) => GG p l e rmX4_findOpen s m args below meth c (QV below D (cX aa cI cZ cJ) A args s Post) A D (cX aa cI cZ cJ) 4 s2 2 [(0, .ref (aa 9)), (1, .ref (aa 7)), (2, .int (xI x2_2))] [])
  have h := h (by
    intro x2_2 s2 h
    refine gg_iload_n hx hb 2 rfl rfl dX4_findOpen_2 ?_
    refine gg_aload_n hx hb 1 rfl rfl dX4_findOpen_3 ?_
    refine gg_callVip (As := []) (rest := [.int (xI x2_2)]) hx hb hml hown hts hK hZ hA (c_X2_fields l D aa cI cZ cJ tR tU s2 _ h) (cwV 0 hts gX4_findOpen_X2_fields rfl rfl rfl hd_X2_fields ⟨Nat.le_of_ble_eq_true rfl, Nat.le_of_ble_eq_true rfl⟩) 7 rfl rfl rfl rfl (Nat.le_of_ble_eq_true rfl) dX4_findOpen_4 (fun r4 h => ?_)
    refine gg_icmp_ge (tgt := 23) hx hb h.1 h.2.1 dX4_findOpen_7 rfl (fun c7 => ?_) (fun c7 => ?_)
    · have h := h.2.2.1 c7
      refine gg_iconst hx hb dX4_findOpen_23 ?_
      refine gg_istore_n (lv' := [(2, .int (xI 0)), (0, .ref (aa 9)), (1, .ref (aa 7))]) hx hb rfl (by decide) rfl dX4_findOpen_24 ?_
      have h := h (fun (x2_25 : Int) (s25 : xSt) => GG p l e rmX4_findOpen s m args below meth c (QV below D (cX aa cI cZ cJ) A args s Post) A D (cX aa cI cZ cJ) 4 s25 25 [(0, .ref (aa 9)), (1, .ref (aa 7)), (2, .int (xI x2_25))] [])
      have h := h (by
        intro x2_25 s25 h
        refine gg_iload_n hx hb 2 rfl rfl dX4_findOpen_25 ?_
        refine gg_aload_n hx hb 1 rfl rfl dX4_findOpen_26 ?_
        refine gg_callVip (As := []) (rest := [.int (xI x2_25)]) hx hb hml hown hts hK hZ hA (c_X2_fields l D aa cI cZ cJ tR tU s25 _ h) (cwV 0 hts gX4_findOpen_X2_fields rfl rfl rfl hd_X2_fields ⟨Nat.le_of_ble_eq_true rfl, Nat.le_of_ble_eq_true rfl⟩) 7 rfl rfl rfl rfl (Nat.le_of_ble_eq_true rfl) dX4_findOpen_27 (fun r27 h => ?_)
        refine gg_icmp_ge (tgt := 72) hx hb h.1 h.2.1 dX4_findOpen_30 rfl (fun c30 => ?_) (fun c30 => ?_)
        · have h := h.2.2.1 c30
          exact gg_vret hx hb hr hlk h dX4_findOpen_72
        · have h := h.2.2.2 c30
          refine gg_aload_n hx hb 0 rfl rfl dX4_findOpen_33 ?_
          refine gg_get (C := RX4) (T := TX4) (N := 3) hx hb hts hown hK iX4_findOpen_X4 9 rfl rfl 0 (by decide) (List.mem_of_getElem? (i := 2) rfl) rfl dX4_findOpen_34 ?_
          refine gg_iload_n hx hb 2 rfl rfl dX4_findOpen_37 ?_
          refine gg_iald hx hb hK 10 0 rfl rfl (by decide) h.1 dX4_findOpen_38 ?_
          have h := h.2
          refine gg_istore_n (lv' := [(3, .int (xI (s25 10 (x2_25).toNat))), (0, .ref (aa 9)), (1, .ref (aa 7)), (2, .int (xI x2_25))]) hx hb rfl (by decide) rfl dX4_findOpen_39 ?_
          refine gg_iload_n hx hb 0 rfl rfl dX4_findOpen_40 ?_
          refine gg_if_lt (tgt := 66) hx hb h.1 dX4_findOpen_41 rfl (fun c41 => ?_) (fun c41 => ?_)
          · have h := h.2.1 c41
            refine gg_iinc (lv' := [(2, .int (xI (x2_25 + 1))), (3, .int (xI (s25 10 (x2_25).toNat))), (0, .ref (aa 9)), (1, .ref (aa 7))]) hx hb 3 rfl (by decide) rfl dX4_findOpen_66 ?_
            refine gg_goto (tgt := 25) hx hb dX4_findOpen_69 rfl ?_
            refine gg_lv [2, 3, 0] rfl ?_
            exact h
          · have h := h.2.2 c41
            refine gg_iload_n hx hb 0 rfl rfl dX4_findOpen_44 ?_
            refine gg_sipush hx hb dX4_findOpen_45 rfl ?_
            refine gg_icmp_ge (tgt := 66) hx hb h.1 (by decide) dX4_findOpen_48 rfl (fun c48 => ?_) (fun c48 => ?_)
            · have h := h.2.1 c48
              refine gg_iinc (lv' := [(2, .int (xI (x2_25 + 1))), (3, .int (xI (s25 10 (x2_25).toNat))), (0, .ref (aa 9)), (1, .ref (aa 7))]) hx hb 3 rfl (by decide) rfl dX4_findOpen_66 ?_
              refine gg_goto (tgt := 25) hx hb dX4_findOpen_69 rfl ?_
              refine gg_lv [2, 3, 0] rfl ?_
              exact h
            · have h := h.2.2 c48
              refine gg_aload_n hx hb 2 rfl rfl dX4_findOpen_51 ?_
              refine gg_iload_n hx hb 3 rfl rfl dX4_findOpen_52 ?_
              refine gg_callVip (As := [.int (xI x2_25)]) (rest := []) hx hb hml hown hts hK hZ hA (c_X2_onEdge l D aa cI cZ cJ tR tU x2_25 s25 _ h) (cwV 1 hts gX4_findOpen_X2_onEdge rfl rfl rfl hd_X2_onEdge ⟨Nat.le_of_ble_eq_true rfl, Nat.le_of_ble_eq_true rfl⟩) 7 rfl rfl rfl rfl (Nat.le_of_ble_eq_true rfl) dX4_findOpen_53 (fun r53 h => ?_)
              refine gg_if_eq (tgt := 66) hx hb h.1 dX4_findOpen_56 rfl (fun c56 => ?_) (fun c56 => ?_)
              · have h := h.2.1 c56
                refine gg_iinc (lv' := [(2, .int (xI (x2_25 + 1))), (3, .int (xI (s25 10 (x2_25).toNat))), (0, .ref (aa 9)), (1, .ref (aa 7))]) hx hb 3 rfl (by decide) rfl dX4_findOpen_66 ?_
                refine gg_goto (tgt := 25) hx hb dX4_findOpen_69 rfl ?_
                refine gg_lv [2, 3, 0] rfl ?_
                exact h
              · have h := h.2.2 c56
                refine gg_aload_n hx hb 1 rfl rfl dX4_findOpen_59 ?_
                refine gg_get (C := RX4) (T := TX4) (N := 3) hx hb hts hown hK iX4_findOpen_X4 9 rfl rfl 2 (by decide) (List.mem_of_getElem? (i := 1) rfl) rfl dX4_findOpen_60 ?_
                refine gg_iload_n hx hb 0 rfl rfl dX4_findOpen_63 ?_
                refine gg_iconst hx hb dX4_findOpen_64 ?_
                refine gg_zast hx hb hK 12 1 rfl rfl (cX_st_12 aa cI cZ cJ _ _) (by decide) h.1 (Or.inr rfl) dX4_findOpen_65 (fun σ_65 e65 => ?_)
                have h := h.2 σ_65 e65
                refine gg_iinc (lv' := [(2, .int (xI (x2_25 + 1))), (3, .int (xI (s25 10 (x2_25).toNat))), (0, .ref (aa 9)), (1, .ref (aa 7))]) hx hb 3 rfl (by decide) rfl dX4_findOpen_66 ?_
                refine gg_goto (tgt := 25) hx hb dX4_findOpen_69 rfl ?_
                refine gg_lv [2, 3, 0] rfl ?_
                exact h)
      refine gg_lv [1, 2, 0] rfl ?_
      exact h
    · have h := h.2.2.2 c7
      refine gg_aload_n hx hb 0 rfl rfl dX4_findOpen_10 ?_
      refine gg_get (C := RX4) (T := TX4) (N := 3) hx hb hts hown hK iX4_findOpen_X4 9 rfl rfl 2 (by decide) (List.mem_of_getElem? (i := 1) rfl) rfl dX4_findOpen_11 ?_
      refine gg_iload_n hx hb 2 rfl rfl dX4_findOpen_14 ?_
      refine gg_iconst hx hb dX4_findOpen_15 ?_
      refine gg_zast hx hb hK 12 1 rfl rfl (cX_st_12 aa cI cZ cJ _ _) (by decide) h.1 (Or.inl rfl) dX4_findOpen_16 (fun σ_16 e16 => ?_)
      have h := h.2 σ_16 e16
      refine gg_iinc (lv' := [(2, .int (xI (x2_2 + 1))), (0, .ref (aa 9)), (1, .ref (aa 7))]) hx hb 2 rfl (by decide) rfl dX4_findOpen_17 ?_
      refine gg_goto (tgt := 2) hx hb dX4_findOpen_20 rfl ?_
      refine gg_lv [1, 2, 0] rfl ?_
      exact h)
  refine gg_lv [1, 2, 0] rfl ?_
  exact h
