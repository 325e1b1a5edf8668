abbrev rmX4_leastOf : Room := { frames := 0, cells := 0, slots := 0, locals := 0 }
theorem iX4_leastOf_X4 : ∀ w ∈ u_ws RX4 TX4 3, w ∈ wsX4_leastOf := (fun _ h => List.mem_cons_of_mem _ (List.mem_append_right _ h))
theorem hd_X4_leastOf : (yX4_leastOf.cls = RX4 ∧ yX4_leastOf.cls ≠ "java/lang/invoke/MethodHandle" ∧ yX4_leastOf.cls ≠ "java/lang/invoke/VarHandle" ∧ (parseMethodDescriptor yX4_leastOf.desc).map (fun d => d.parameters.length) = some 1) := by decide +kernel
set_option maxRecDepth 100000 in
set_option maxHeartbeats 4000000 in
theorem c_X4_leastOf (l : Launch) (D : va_G) (aa : Nat → Nat) (cI cZ cJ : ClassId) (tR tU : Nat) (a1 : Int) (σ : xSt) (Post : Int → Prop) (h : wp_X4_leastOf a1 σ Post) : MI l D (tyL cI cZ cJ) (cX aa cI cZ cJ) tR tU yX4_leastOf wsX4_leastOf rmX4_leastOf [.ref (aa 9), .int (xI a1)] σ (fun r9 σ9 => σ9 = σ ∧ Post r9) := by
  refine mi_of (cc := cX4_leastOf) (maxL := 2) (ret := (some .int)) (by decide) rfl (Nat.le_of_ble_eq_true rfl) ?_
  intro p e s m args below meth c A hF
  obtain ⟨hx, hb, hr, hml, hown, hts, hlk, hK, hZ, hA⟩ := hF
  have hown : s.vm.findClass RX4 = some m.cls := hown
  delta wp_X4_leastOf at h
  refine gg_lv (lv' := [(0, .ref (aa 9)), (1, .int (xI a1))]) [0, 1] rfl ?_
  refine gg_iload_n hx hb 1 rfl rfl dX4_leastOf_0 ?_
  refine gg_if_lt (tgt := 20) hx hb h.1 dX4_leastOf_1 rfl (fun c1 => ?_) (fun c1 => ?_)
  · have h := h.2.1 c1
    refine gg_sipush hx hb dX4_leastOf_20 rfl ?_
    exact gg_iret hx hb hr hlk ⟨rfl, h⟩ dX4_leastOf_23
  · have h := h.2.2 c1
    refine gg_iload_n hx hb 1 rfl rfl dX4_leastOf_4 ?_
    refine gg_sipush hx hb dX4_leastOf_5 rfl ?_
    refine gg_icmp_ge (tgt := 20) hx hb h.1 (by decide) dX4_leastOf_8 rfl (fun c8 => ?_) (fun c8 => ?_)
    · have h := h.2.1 c8
      refine gg_sipush hx hb dX4_leastOf_20 rfl ?_
      exact gg_iret hx hb hr hlk ⟨rfl, h⟩ dX4_leastOf_23
    · have h := h.2.2 c8
      refine gg_aload_n hx hb 0 rfl rfl dX4_leastOf_11 ?_
      refine gg_get (C := RX4) (T := TX4) (N := 3) hx hb hts hown hK iX4_leastOf_X4 9 rfl rfl 0 (by decide) (List.mem_of_getElem? (i := 1) rfl) rfl dX4_leastOf_12 ?_
      refine gg_iload_n hx hb 1 rfl rfl dX4_leastOf_15 ?_
      refine gg_iald hx hb hK 10 0 rfl rfl (by decide) h.1 dX4_leastOf_16 ?_
      have h := h.2
      refine gg_goto (tgt := 23) hx hb dX4_leastOf_17 rfl ?_
      exact gg_iret hx hb hr hlk ⟨rfl, h⟩ dX4_leastOf_23
abbrev rmX4_comesToEdge : Room := { frames := 1, cells := 0, slots := 0, locals := 21 }
theorem iX4_comesToEdge_X4 : ∀ w ∈ u_ws RX4 TX4 3, w ∈ wsX4_comesToEdge := (fun _ h => List.mem_cons_of_mem _ (List.mem_append_right _ h))
theorem hd_X4_comesToEdge : (yX4_comesToEdge.cls = RX4 ∧ yX4_comesToEdge.cls ≠ "java/lang/invoke/MethodHandle" ∧ yX4_comesToEdge.cls ≠ "java/lang/invoke/VarHandle" ∧ (parseMethodDescriptor yX4_comesToEdge.desc).map (fun d => d.parameters.length) = some 1) := by decide +kernel
set_option maxRecDepth 100000 in
set_option maxHeartbeats 4000000 in
theorem c_X4_comesToEdge (l : Launch) (D : va_G) (aa : Nat → Nat) (cI cZ cJ : ClassId) (tR tU : Nat) (a1 : Int) (σ : xSt) (Post : Int → Prop) (h : wp_X4_comesToEdge a1 σ Post) : MI l D (tyL cI cZ cJ) (cX aa cI cZ cJ) tR tU yX4_comesToEdge wsX4_comesToEdge rmX4_comesToEdge [.ref (aa 9), .int (xI a1)] σ (fun r9 σ9 => σ9 = σ ∧ Post r9) := by
  refine mi_of (cc := cX4_comesToEdge) (maxL := 3) (ret := (some .boolean)) (by decide) rfl (Nat.le_of_ble_eq_true rfl) ?_
  intro p e s m args below meth c A hF
  obtain ⟨hx, hb, hr, hml, hown, hts, hlk, hK, hZ, hA⟩ := hF
  have hown : s.vm.findClass RX4 = some m.cls := hown
  delta wp_X4_comesToEdge at h
  refine gg_lv (lv' := [(0, .ref (aa 9)), (1, .int (xI a1))]) [0, 1] rfl ?_
  refine gg_aload_n hx hb 0 rfl rfl dX4_comesToEdge_0 ?_
  refine gg_iload_n hx hb 1 rfl rfl dX4_comesToEdge_1 ?_
  refine gg_callVip (As := [.int (xI a1)]) (rest := []) hx hb hml hown hts hK hZ hA (c_X4_leastOf l D aa cI cZ cJ tR tU a1 σ _ h) (cwV 1 hts gX4_comesToEdge_X4_leastOf rfl rfl rfl hd_X4_leastOf ⟨Nat.le_of_ble_eq_true rfl, Nat.le_of_ble_eq_true rfl⟩) 9 rfl rfl rfl rfl (Nat.le_of_ble_eq_true rfl) dX4_comesToEdge_2 (fun r2 h => ?_)
  refine gg_istore_n (lv' := [(2, .int (xI r2)), (0, .ref (aa 9)), (1, .int (xI a1))]) hx hb rfl (by decide) rfl dX4_comesToEdge_5 ?_
  refine gg_iload_n hx hb 0 rfl rfl dX4_comesToEdge_6 ?_
  refine gg_if_lt (tgt := 30) hx hb h.1 dX4_comesToEdge_7 rfl (fun c7 => ?_) (fun c7 => ?_)
  · have h := h.2.1 c7
    refine gg_iconst hx hb dX4_comesToEdge_30 ?_
    exact gg_zret hx hb hr hlk (Or.inl rfl) ⟨rfl, h⟩ dX4_comesToEdge_31
  · have h := h.2.2 c7
    refine gg_iload_n hx hb 0 rfl rfl dX4_comesToEdge_10 ?_
    refine gg_sipush hx hb dX4_comesToEdge_11 rfl ?_
    refine gg_icmp_ge (tgt := 30) hx hb h.1 (by decide) dX4_comesToEdge_14 rfl (fun c14 => ?_) (fun c14 => ?_)
    · have h := h.2.1 c14
      refine gg_iconst hx hb dX4_comesToEdge_30 ?_
      exact gg_zret hx hb hr hlk (Or.inl rfl) ⟨rfl, h⟩ dX4_comesToEdge_31
    · have h := h.2.2 c14
      refine gg_aload_n hx hb 1 rfl rfl dX4_comesToEdge_17 ?_
      refine gg_get (C := RX4) (T := TX4) (N := 3) hx hb hts hown hK iX4_comesToEdge_X4 9 rfl rfl 2 (by decide) (List.mem_of_getElem? (i := 1) rfl) rfl dX4_comesToEdge_18 ?_
      refine gg_iload_n hx hb 0 rfl rfl dX4_comesToEdge_21 ?_
      refine gg_zald hx hb hK 12 1 rfl rfl (by decide) h.1 dX4_comesToEdge_22 ?_
      have h := h.2
      refine gg_if_eq (tgt := 30) hx hb h.1 dX4_comesToEdge_23 rfl (fun c23 => ?_) (fun c23 => ?_)
      · have h := h.2.1 c23
        refine gg_iconst hx hb dX4_comesToEdge_30 ?_
        exact gg_zret hx hb hr hlk (Or.inl rfl) ⟨rfl, h⟩ dX4_comesToEdge_31
      · have h := h.2.2 c23
        refine gg_iconst hx hb dX4_comesToEdge_26 ?_
        refine gg_goto (tgt := 31) hx hb dX4_comesToEdge_27 rfl ?_
        exact gg_zret hx hb hr hlk (Or.inr rfl) ⟨rfl, h⟩ dX4_comesToEdge_31
abbrev rmX8_shutIn : Room := { frames := 4, cells := 0, slots := 0, locals := 99 }
theorem iX8_shutIn_X8 : ∀ w ∈ u_ws RX8 TX8 1, w ∈ wsX8_shutIn := (fun _ h => List.mem_cons_of_mem _ (List.mem_append_left _ (List.mem_append_left _ (List.mem_append_right _ h))))
theorem hd_X8_shutIn : (yX8_shutIn.cls = RX8 ∧ yX8_shutIn.cls ≠ "java/lang/invoke/MethodHandle" ∧ yX8_shutIn.cls ≠ "java/lang/invoke/VarHandle" ∧ (parseMethodDescriptor yX8_shutIn.desc).map (fun d => d.parameters.length) = some 2) := by decide +kernel
set_option maxRecDepth 100000 in
set_option maxHeartbeats 4000000 in
theorem c_X8_shutIn (l : Launch) (D : va_G) (aa : Nat → Nat) (cI cZ cJ : ClassId) (tR tU : Nat) (σ : xSt) (Post : xSt → Prop) (h : wp_X8_shutIn σ Post) : MV l D (tyL cI cZ cJ) (cX aa cI cZ cJ) tR tU yX8_shutIn wsX8_shutIn rmX8_shutIn [.ref (aa 13), .ref (aa 7), .ref (aa 9)] σ Post := by
  refine mv_of (cc := cX8_shutIn) (maxL := 4) (ret := none) (by decide) rfl (Nat.le_of_ble_eq_true rfl) ?_
  intro p e s m args below meth c A hF
  obtain ⟨hx, hb, hr, hml, hown, hts, hlk, hK, hZ, hA⟩ := hF
  have hown : s.vm.findClass RX8 = some m.cls := hown
  delta wp_X8_shutIn at h
  refine gg_lv (lv' := [(0, .ref (aa 13)), (1, .ref (aa 7)), (2, .ref (aa 9))]) [0, 1, 2] rfl ?_
  refine gg_aload_n hx hb 2 rfl rfl dX8_shutIn_0 ?_
  refine gg_aload_n hx hb 1 rfl rfl dX8_shutIn_1 ?_
  refine gg_aload_n hx hb 0 rfl rfl dX8_shutIn_2 ?_
  refine gg_get (C := RX8) (T := TX8) (N := 1) hx hb hts hown hK iX8_shutIn_X8 13 rfl rfl 0 (by decide) (List.mem_of_getElem? (i := 1) rfl) rfl dX8_shutIn_3 ?_
  refine gg_iconst hx hb dX8_shutIn_6 ?_
  refine gg_iconst hx hb dX8_shutIn_7 ?_
  refine gg_callVi (As := [.ref (aa 7), .ref (aa 14), .int (xI 0), .int (xI 0)]) (rest := []) hx hb hml hown hts hK hZ hA (c_X4_split_14 l D aa cI cZ cJ tR tU 0 0 σ _ h) (cwV 4 hts gX8_shutIn_X4_split rfl rfl rfl hd_X4_split ⟨Nat.le_of_ble_eq_true rfl, Nat.le_of_ble_eq_true rfl⟩) 9 rfl rfl rfl rfl (Nat.le_of_ble_eq_true rfl) dX8_shutIn_8 (fun r8 t8 h => ?_)
  refine gg_pop hx hb rfl dX8_shutIn_11 ?_
  refine gg_aload_n hx hb 2 rfl rfl dX8_shutIn_12 ?_
  refine gg_aload_n hx hb 1 rfl rfl dX8_shutIn_13 ?_
  refine gg_callVv (As := [.ref (aa 7)]) (rest := []) hx hb hml hown hts hK hZ hA (c_X4_findOpen l D aa cI cZ cJ tR tU t8 _ h) (cwV 1 hts gX8_shutIn_X4_findOpen rfl rfl rfl hd_X4_findOpen ⟨Nat.le_of_ble_eq_true rfl, Nat.le_of_ble_eq_true rfl⟩) 9 rfl rfl rfl rfl (Nat.le_of_ble_eq_true rfl) dX8_shutIn_14 (fun t14 h => ?_)
  refine gg_iconst hx hb dX8_shutIn_17 ?_
  refine gg_istore_n (lv' := [(3, .int (xI 0)), (0, .ref (aa 13)), (1, .ref (aa 7)), (2, .ref (aa 9))]) hx hb rfl (by decide) rfl dX8_shutIn_18 ?_
  have h := h (fun (x3_19 : Int) (s19 : xSt) => GG p l e rmX8_shutIn s m args below meth c (QV below D (cX aa cI cZ cJ) A args s Post) A D (cX aa cI cZ cJ) 4 s19 19 [(0, .ref (aa 13)), (1, .ref (aa 7)), (2, .ref (aa 9)), (3, .int (xI x3_19))] [])
  have h := h (by
    intro x3_19 s19 h
    refine gg_iload_n hx hb 3 rfl rfl dX8_shutIn_19 ?_
    refine gg_aload_n hx hb 1 rfl rfl dX8_shutIn_20 ?_
    refine gg_callVip (As := []) (rest := [.int (xI x3_19)]) hx hb hml hown hts hK hZ hA (c_X2_fields l D aa cI cZ cJ tR tU s19 _ h) (cwV 0 hts gX8_shutIn_X2_fields rfl rfl rfl hd_X2_fields ⟨Nat.le_of_ble_eq_true rfl, Nat.le_of_ble_eq_true rfl⟩) 7 rfl rfl rfl rfl (Nat.le_of_ble_eq_true rfl) dX8_shutIn_21 (fun r21 h => ?_)
    refine gg_icmp_ge (tgt := 48) hx hb h.1 h.2.1 dX8_shutIn_24 rfl (fun c24 => ?_) (fun c24 => ?_)
    · have h := h.2.2.1 c24
      exact gg_vret hx hb hr hlk h dX8_shutIn_48
    · have h := h.2.2.2 c24
      refine gg_aload_n hx hb 2 rfl rfl dX8_shutIn_27 ?_
      refine gg_iload_n hx hb 3 rfl rfl dX8_shutIn_28 ?_
      refine gg_callVip (As := [.int (xI x3_19)]) (rest := []) hx hb hml hown hts hK hZ hA (c_X4_comesToEdge l D aa cI cZ cJ tR tU x3_19 s19 _ h) (cwV 1 hts gX8_shutIn_X4_comesToEdge rfl rfl rfl hd_X4_comesToEdge ⟨Nat.le_of_ble_eq_true rfl, Nat.le_of_ble_eq_true rfl⟩) 9 rfl rfl rfl rfl (Nat.le_of_ble_eq_true rfl) dX8_shutIn_29 (fun r29 h => ?_)
      refine gg_if_ne (tgt := 42) hx hb h.1 dX8_shutIn_32 rfl (fun c32 => ?_) (fun c32 => ?_)
      · have h := h.2.1 c32
        refine gg_iinc (lv' := [(3, .int (xI (x3_19 + 1))), (0, .ref (aa 13)), (1, .ref (aa 7)), (2, .ref (aa 9))]) hx hb 3 rfl (by decide) rfl dX8_shutIn_42 ?_
        refine gg_goto (tgt := 19) hx hb dX8_shutIn_45 rfl ?_
        refine gg_lv [1, 2, 3, 0] rfl ?_
        exact h
      · have h := h.2.2 c32
        refine gg_aload_n hx hb 0 rfl rfl dX8_shutIn_35 ?_
        refine gg_get (C := RX8) (T := TX8) (N := 1) hx hb hts hown hK iX8_shutIn_X8 13 rfl rfl 0 (by decide) (List.mem_of_getElem? (i := 1) rfl) rfl dX8_shutIn_36 ?_
        refine gg_iload_n hx hb 3 rfl rfl dX8_shutIn_39 ?_
        refine gg_iconst hx hb dX8_shutIn_40 ?_
        refine gg_zast hx hb hK 14 1 rfl rfl (cX_st_14 aa cI cZ cJ _ _) (by decide) h.1 (Or.inr rfl) dX8_shutIn_41 (fun σ_41 e41 => ?_)
        have h := h.2 σ_41 e41
        refine gg_iinc (lv' := [(3, .int (xI (x3_19 + 1))), (0, .ref (aa 13)), (1, .ref (aa 7)), (2, .ref (aa 9))]) hx hb 3 rfl (by decide) rfl dX8_shutIn_42 ?_
        refine gg_goto (tgt := 19) hx hb dX8_shutIn_45 rfl ?_
        refine gg_lv [1, 2, 3, 0] rfl ?_
        exact h)
  refine gg_lv [1, 2, 3, 0] rfl ?_
  exact h
abbrev rmX8_pourInto : Room := { frames := 3, cells := 0, slots := 0, locals := 63 }
theorem iX8_pourInto_X8 : ∀ w ∈ u_ws RX8 TX8 1, w ∈ wsX8_pourInto := (fun _ h => List.mem_cons_of_mem _ (List.mem_append_left _ (List.mem_append_right _ h)))
theorem hd_X8_pourInto : (yX8_pourInto.cls = RX8 ∧ yX8_pourInto.cls ≠ "java/lang/invoke/MethodHandle" ∧ yX8_pourInto.cls ≠ "java/lang/invoke/VarHandle" ∧ (parseMethodDescriptor yX8_pourInto.desc).map (fun d => d.parameters.length) = some 1) := by decide +kernel
set_option maxRecDepth 100000 in
set_option maxHeartbeats 4000000 in
theorem c_X8_pourInto (l : Launch) (D : va_G) (aa : Nat → Nat) (cI cZ cJ : ClassId) (tR tU : Nat) (σ : xSt) (Post : xSt → Prop) (h : wp_X8_pourInto σ Post) : MV l D (tyL cI cZ cJ) (cX aa cI cZ cJ) tR tU yX8_pourInto wsX8_pourInto rmX8_pourInto [.ref (aa 13), .ref (aa 7)] σ Post := by
  refine mv_of (cc := cX8_pourInto) (maxL := 3) (ret := none) (by decide) rfl (Nat.le_of_ble_eq_true rfl) ?_
  intro p e s m args below meth c A hF
  obtain ⟨hx, hb, hr, hml, hown, hts, hlk, hK, hZ, hA⟩ := hF
  have hown : s.vm.findClass RX8 = some m.cls := hown
  delta wp_X8_pourInto at h
  refine gg_lv (lv' := [(0, .ref (aa 13)), (1, .ref (aa 7))]) [0, 1] rfl ?_
  refine gg_iconst hx hb dX8_pourInto_0 ?_
  refine gg_istore_n (lv' := [(2, .int (xI 0)), (0, .ref (aa 13)), (1, .ref (aa 7))]) hx hb rfl (by decide) rfl dX8_pourInto_1 ?_
  have h := h (fun (x2_2 : Int) (s2 : xSt) => GG p l e rmX8_pourInto s m args below meth c (QV below D (cX aa cI cZ cJ) A args s Post) A D (cX aa cI cZ cJ) 3 s2 2 [(0, .ref (aa 13)), (1, .ref (aa 7)), (2, .int (xI x2_2))] [])
  have h := h (by
    intro x2_2 s2 h
    refine gg_iload_n hx hb 2 rfl rfl dX8_pourInto_2 ?_
    refine gg_aload_n hx hb 1 rfl rfl dX8_pourInto_3 ?_
    refine gg_callVip (As := []) (rest := [.int (xI x2_2)]) hx hb hml hown hts hK hZ hA (c_X2_fields l D aa cI cZ cJ tR tU s2 _ h) (cwV 0 hts gX8_pourInto_X2_fields rfl rfl rfl hd_X2_fields ⟨Nat.le_of_ble_eq_true rfl, Nat.le_of_ble_eq_true rfl⟩) 7 rfl rfl rfl rfl (Nat.le_of_ble_eq_true rfl) dX8_pourInto_4 (fun r4 h => ?_)
    refine gg_icmp_ge (tgt := 31) hx hb h.1 h.2.1 dX8_pourInto_7 rfl (fun c7 => ?_) (fun c7 => ?_)
    · have h := h.2.2.1 c7
      exact gg_vret hx hb hr hlk h dX8_pourInto_31
    · have h := h.2.2.2 c7
      refine gg_aload_n hx hb 0 rfl rfl dX8_pourInto_10 ?_
      refine gg_get (C := RX8) (T := TX8) (N := 1) hx hb hts hown hK iX8_pourInto_X8 13 rfl rfl 0 (by decide) (List.mem_of_getElem? (i := 1) rfl) rfl dX8_pourInto_11 ?_
      refine gg_iload_n hx hb 2 rfl rfl dX8_pourInto_14 ?_
      refine gg_zald hx hb hK 14 1 rfl rfl (by decide) h.1 dX8_pourInto_15 ?_
      have h := h.2
      refine gg_if_eq (tgt := 25) hx hb h.1 dX8_pourInto_16 rfl (fun c16 => ?_) (fun c16 => ?_)
      · have h := h.2.1 c16
        refine gg_iinc (lv' := [(2, .int (xI (x2_2 + 1))), (0, .ref (aa 13)), (1, .ref (aa 7))]) hx hb 2 rfl (by decide) rfl dX8_pourInto_25 ?_
        refine gg_goto (tgt := 2) hx hb dX8_pourInto_28 rfl ?_
        refine gg_lv [1, 2, 0] rfl ?_
        exact h
      · have h := h.2.2 c16
        refine gg_aload_n hx hb 1 rfl rfl dX8_pourInto_19 ?_
        refine gg_iload_n hx hb 2 rfl rfl dX8_pourInto_20 ?_
        refine gg_iconst hx hb dX8_pourInto_21 ?_
        refine gg_callVv (As := [.int (xI x2_2), .int (xI 1)]) (rest := []) hx hb hml hown hts hK hZ hA (c_X2_put l D aa cI cZ cJ tR tU x2_2 1 s2 _ h) (cwV 2 hts gX8_pourInto_X2_put rfl rfl rfl hd_X2_put ⟨Nat.le_of_ble_eq_true rfl, Nat.le_of_ble_eq_true rfl⟩) 7 rfl rfl rfl rfl (Nat.le_of_ble_eq_true rfl) dX8_pourInto_22 (fun t22 h => ?_)
        refine gg_iinc (lv' := [(2, .int (xI (x2_2 + 1))), (0, .ref (aa 13)), (1, .ref (aa 7))]) hx hb 2 rfl (by decide) rfl dX8_pourInto_25 ?_
        refine gg_goto (tgt := 2) hx hb dX8_pourInto_28 rfl ?_
        refine gg_lv [1, 2, 0] rfl ?_
        exact h)
  refine gg_lv [1, 2, 0] rfl ?_
  exact h
abbrev rmX2_heapSize : Room := { frames := 3, cells := 0, slots := 0, locals := 62 }
theorem hd_X2_heapSize : (yX2_heapSize.cls = RX2 ∧ yX2_heapSize.cls ≠ "java/lang/invoke/MethodHandle" ∧ yX2_heapSize.cls ≠ "java/lang/invoke/VarHandle" ∧ (parseMethodDescriptor yX2_heapSize.desc).map (fun d => d.parameters.length) = some 0) := by decide +kernel
set_option maxRecDepth 100000 in
set_option maxHeartbeats 4000000 in
theorem c_X2_heapSize (l : Launch) (D : va_G) (aa : Nat → Nat) (cI cZ cJ : ClassId) (tR tU : Nat) (σ : xSt) (Post : Int → Prop) (h : wp_X2_heapSize σ Post) : MI l D (tyL cI cZ cJ) (cX aa cI cZ cJ) tR tU yX2_heapSize wsX2_heapSize rmX2_heapSize [.ref (aa 7)] σ (fun r9 σ9 => σ9 = σ ∧ Post r9) := by
  refine mi_of (cc := cX2_heapSize) (maxL := 3) (ret := (some .int)) (by decide) rfl (Nat.le_of_ble_eq_true rfl) ?_
  intro p e s m args below meth c A hF
  obtain ⟨hx, hb, hr, hml, hown, hts, hlk, hK, hZ, hA⟩ := hF
  have hown : s.vm.findClass RX2 = some m.cls := hown
  delta wp_X2_heapSize at h
  refine gg_lv (lv' := [(0, .ref (aa 7))]) [0] rfl ?_
  refine gg_iconst hx hb dX2_heapSize_0 ?_
  refine gg_istore_n (lv' := [(1, .int (xI 0)), (0, .ref (aa 7))]) hx hb rfl (by decide) rfl dX2_heapSize_1 ?_
  refine gg_iconst hx hb dX2_heapSize_2 ?_
  refine gg_istore_n (lv' := [(2, .int (xI 0)), (1, .int (xI 0)), (0, .ref (aa 7))]) hx hb rfl (by decide) rfl dX2_heapSize_3 ?_
  have h := h (fun (x1_4 x2_4 : Int) => GG p l e rmX2_heapSize s m args below meth c (QI below D (cX aa cI cZ cJ) A args s (fun r9 σ9 => σ9 = σ ∧ Post r9)) A D (cX aa cI cZ cJ) 3 σ 4 [(0, .ref (aa 7)), (1, .int (xI x1_4)), (2, .int (xI x2_4))] [])
  have h := h (by
    intro x1_4 x2_4 h
    refine gg_iload_n hx hb 2 rfl rfl dX2_heapSize_4 ?_
    refine gg_aload_n hx hb 0 rfl rfl dX2_heapSize_5 ?_
    refine gg_callVip (As := []) (rest := [.int (xI x2_4)]) hx hb hml hown hts hK hZ hA (c_X2_fields l D aa cI cZ cJ tR tU σ _ h) (cwV 0 hts gX2_heapSize_X2_fields rfl rfl rfl hd_X2_fields ⟨Nat.le_of_ble_eq_true rfl, Nat.le_of_ble_eq_true rfl⟩) 7 rfl rfl rfl rfl (Nat.le_of_ble_eq_true rfl) dX2_heapSize_6 (fun r6 h => ?_)
    refine gg_icmp_ge (tgt := 29) hx hb h.1 h.2.1 dX2_heapSize_9 rfl (fun c9 => ?_) (fun c9 => ?_)
    · have h := h.2.2.1 c9
      refine gg_iload_n hx hb 1 rfl rfl dX2_heapSize_29 ?_
      exact gg_iret hx hb hr hlk ⟨rfl, h⟩ dX2_heapSize_30
    · have h := h.2.2.2 c9
      refine gg_aload_n hx hb 0 rfl rfl dX2_heapSize_12 ?_
      refine gg_iload_n hx hb 2 rfl rfl dX2_heapSize_13 ?_
      refine gg_callVip (As := [.int (xI x2_4)]) (rest := []) hx hb hml hown hts hK hZ hA (c_X2_holds l D aa cI cZ cJ tR tU x2_4 σ _ h) (cwV 1 hts gX2_heapSize_X2_holds rfl rfl rfl hd_X2_holds ⟨Nat.le_of_ble_eq_true rfl, Nat.le_of_ble_eq_true rfl⟩) 7 rfl rfl rfl rfl (Nat.le_of_ble_eq_true rfl) dX2_heapSize_14 (fun r14 h => ?_)
      refine gg_if_eq (tgt := 23) hx hb h.1 dX2_heapSize_17 rfl (fun c17 => ?_) (fun c17 => ?_)
      · have h := h.2.1 c17
        refine gg_iinc (lv' := [(2, .int (xI (x2_4 + 1))), (0, .ref (aa 7)), (1, .int (xI x1_4))]) hx hb 2 rfl (by decide) rfl dX2_heapSize_23 ?_
        refine gg_goto (tgt := 4) hx hb dX2_heapSize_26 rfl ?_
        refine gg_lv [1, 2, 0] rfl ?_
        exact h
      · have h := h.2.2 c17
        refine gg_iinc (lv' := [(1, .int (xI (x1_4 + 1))), (0, .ref (aa 7)), (2, .int (xI x2_4))]) hx hb 1 rfl (by decide) rfl dX2_heapSize_20 ?_
        refine gg_iinc (lv' := [(2, .int (xI (x2_4 + 1))), (1, .int (xI (x1_4 + 1))), (0, .ref (aa 7))]) hx hb 2 rfl (by decide) rfl dX2_heapSize_23 ?_
        refine gg_goto (tgt := 4) hx hb dX2_heapSize_26 rfl ?_
        refine gg_lv [2, 1, 0] rfl ?_
        exact h)
  refine gg_lv [2, 1, 0] rfl ?_
  exact h
abbrev rmX9_fill : Room := { frames := 5, cells := 0, slots := 0, locals := 122 }
theorem iX9_fill_X9 : ∀ w ∈ u_ws RX9 TX9 9, w ∈ wsX9_fill := (fun _ h => List.mem_cons_of_mem _ (List.mem_append_left _ (List.mem_append_left _ (List.mem_append_left _ (List.mem_append_left _ (List.mem_append_right _ h))))))
theorem hd_X9_fill : (yX9_fill.cls = RX9 ∧ yX9_fill.cls ≠ "java/lang/invoke/MethodHandle" ∧ yX9_fill.cls ≠ "java/lang/invoke/VarHandle" ∧ (parseMethodDescriptor yX9_fill.desc).map (fun d => d.parameters.length) = some 2) := by decide +kernel
set_option maxRecDepth 100000 in
set_option maxHeartbeats 4000000 in
theorem c_X9_fill (l : Launch) (D : va_G) (aa : Nat → Nat) (cI cZ cJ : ClassId) (tR tU : Nat) (a1 : Int) (a2 : Int) (σ : xSt) (Post : Int → xSt → Prop) (h : wp_X9_fill a1 a2 σ Post) : MI l D (tyL cI cZ cJ) (cX aa cI cZ cJ) tR tU yX9_fill wsX9_fill rmX9_fill [.ref (aa 0), .int (xI a1), .int (xI a2)] σ Post := by
  refine mi_of (cc := cX9_fill) (maxL := 3) (ret := (some .int)) (by decide) rfl (Nat.le_of_ble_eq_true rfl) ?_
  intro p e s m args below meth c A hF
  obtain ⟨hx, hb, hr, hml, hown, hts, hlk, hK, hZ, hA⟩ := hF
  have hown : s.vm.findClass RX9 = some m.cls := hown
  delta wp_X9_fill at h
  refine gg_lv (lv' := [(0, .ref (aa 0)), (1, .int (xI a1)), (2, .int (xI a2))]) [0, 1, 2] rfl ?_
  refine gg_aload_n hx hb 0 rfl rfl dX9_fill_0 ?_
  refine gg_get (C := RX9) (T := TX9) (N := 9) hx hb hts hown hK iX9_fill_X9 0 rfl rfl 2 (by decide) (List.mem_of_getElem? (i := 1) rfl) rfl dX9_fill_1 ?_
  refine gg_iload_n hx hb 1 rfl rfl dX9_fill_4 ?_
  refine gg_callVip (As := [.int (xI a1)]) (rest := []) hx hb hml hown hts hK hZ hA (c_X2_knows l D aa cI cZ cJ tR tU a1 σ _ h) (cwV 1 hts gX9_fill_X2_knows rfl rfl rfl hd_X2_knows ⟨Nat.le_of_ble_eq_true rfl, Nat.le_of_ble_eq_true rfl⟩) 7 rfl rfl rfl rfl (Nat.le_of_ble_eq_true rfl) dX9_fill_5 (fun r5 h => ?_)
  refine gg_if_ne (tgt := 15) hx hb h.1 dX9_fill_8 rfl (fun c8 => ?_) (fun c8 => ?_)
  · have h := h.2.1 c8
    refine gg_aload_n hx hb 0 rfl rfl dX9_fill_15 ?_
    refine gg_get (C := RX9) (T := TX9) (N := 9) hx hb hts hown hK iX9_fill_X9 0 rfl rfl 4 (by decide) (List.mem_of_getElem? (i := 2) rfl) rfl dX9_fill_16 ?_
    refine gg_aload_n hx hb 0 rfl rfl dX9_fill_19 ?_
    refine gg_get (C := RX9) (T := TX9) (N := 9) hx hb hts hown hK iX9_fill_X9 0 rfl rfl 0 (by decide) (List.mem_of_getElem? (i := 3) rfl) rfl dX9_fill_20 ?_
    refine gg_aload_n hx hb 0 rfl rfl dX9_fill_23 ?_
    refine gg_get (C := RX9) (T := TX9) (N := 9) hx hb hts hown hK iX9_fill_X9 0 rfl rfl 2 (by decide) (List.mem_of_getElem? (i := 1) rfl) rfl dX9_fill_24 ?_
    refine gg_iload_n hx hb 1 rfl rfl dX9_fill_27 ?_
    refine gg_callVi (As := [.ref (aa 1), .ref (aa 7), .int (xI a1)]) (rest := []) hx hb hml hown hts hK hZ hA (c_X8_follow l D aa cI cZ cJ tR tU a1 σ _ h) (cwV 3 hts gX9_fill_X8_follow rfl rfl rfl hd_X8_follow ⟨Nat.le_of_ble_eq_true rfl, Nat.le_of_ble_eq_true rfl⟩) 13 rfl rfl rfl rfl (Nat.le_of_ble_eq_true rfl) dX9_fill_28 (fun r28 t28 h => ?_)
    refine gg_if_ne (tgt := 38) hx hb h.1 dX9_fill_31 rfl (fun c31 => ?_) (fun c31 => ?_)
    · have h := h.2.1 c31
      refine gg_iload_n hx hb 2 rfl rfl dX9_fill_38 ?_
      have h := h (GG p l e rmX9_fill s m args below meth c (QI below D (cX aa cI cZ cJ) A args s Post) A D (cX aa cI cZ cJ) 3 t28 56 [(0, .ref (aa 0)), (2, .int (xI a2))] [])
      have h := h (by
        intro h
        refine gg_iload_n hx hb 1 rfl rfl dX9_fill_56 ?_
        have h := h (fun (s75 : xSt) => GG p l e rmX9_fill s m args below meth c (QI below D (cX aa cI cZ cJ) A args s Post) A D (cX aa cI cZ cJ) 3 s75 75 [(0, .ref (aa 0))] [])
        have h := h (by
          intro s75 h
          refine gg_aload_n hx hb 0 rfl rfl dX9_fill_75 ?_
          refine gg_get (C := RX9) (T := TX9) (N := 9) hx hb hts hown hK iX9_fill_X9 0 rfl rfl 4 (by decide) (List.mem_of_getElem? (i := 2) rfl) rfl dX9_fill_76 ?_
          refine gg_aload_n hx hb 0 rfl rfl dX9_fill_79 ?_
          refine gg_get (C := RX9) (T := TX9) (N := 9) hx hb hts hown hK iX9_fill_X9 0 rfl rfl 2 (by decide) (List.mem_of_getElem? (i := 1) rfl) rfl dX9_fill_80 ?_
          refine gg_callVv (As := [.ref (aa 7)]) (rest := []) hx hb hml hown hts hK hZ hA (c_X8_pourInto l D aa cI cZ cJ tR tU s75 _ h) (cwV 1 hts gX9_fill_X8_pourInto rfl rfl rfl hd_X8_pourInto ⟨Nat.le_of_ble_eq_true rfl, Nat.le_of_ble_eq_true rfl⟩) 13 rfl rfl rfl rfl (Nat.le_of_ble_eq_true rfl) dX9_fill_83 (fun t83 h => ?_)
          refine gg_aload_n hx hb 0 rfl rfl dX9_fill_86 ?_
          refine gg_get (C := RX9) (T := TX9) (N := 9) hx hb hts hown hK iX9_fill_X9 0 rfl rfl 2 (by decide) (List.mem_of_getElem? (i := 1) rfl) rfl dX9_fill_87 ?_
          refine gg_callVip (As := []) (rest := []) hx hb hml hown hts hK hZ hA (c_X2_heapSize l D aa cI cZ cJ tR tU t83 _ h) (cwV 0 hts gX9_fill_X2_heapSize rfl rfl rfl hd_X2_heapSize ⟨Nat.le_of_ble_eq_true rfl, Nat.le_of_ble_eq_true rfl⟩) 7 rfl rfl rfl rfl (Nat.le_of_ble_eq_true rfl) dX9_fill_90 (fun r90 h => ?_)
          exact gg_iret hx hb hr hlk h dX9_fill_93)
        refine gg_if_eq (tgt := 75) hx hb h.1 dX9_fill_57 rfl (fun c57 => ?_) (fun c57 => ?_)
        · have h := h.2.1 c57
          refine gg_lv [0] rfl ?_
          exact h
        · have h := h.2.2 c57
          refine gg_aload_n hx hb 0 rfl rfl dX9_fill_60 ?_
          refine gg_get (C := RX9) (T := TX9) (N := 9) hx hb hts hown hK iX9_fill_X9 0 rfl rfl 4 (by decide) (List.mem_of_getElem? (i := 2) rfl) rfl dX9_fill_61 ?_
          refine gg_aload_n hx hb 0 rfl rfl dX9_fill_64 ?_
          refine gg_get (C := RX9) (T := TX9) (N := 9) hx hb hts hown hK iX9_fill_X9 0 rfl rfl 2 (by decide) (List.mem_of_getElem? (i := 1) rfl) rfl dX9_fill_65 ?_
          refine gg_aload_n hx hb 0 rfl rfl dX9_fill_68 ?_
          refine gg_get (C := RX9) (T := TX9) (N := 9) hx hb hts hown hK iX9_fill_X9 0 rfl rfl 3 (by decide) (List.mem_of_getElem? (i := 4) rfl) rfl dX9_fill_69 ?_
          refine gg_callVv (As := [.ref (aa 7), .ref (aa 9)]) (rest := []) hx hb hml hown hts hK hZ hA (c_X8_shutIn l D aa cI cZ cJ tR tU t28 _ h) (cwV 2 hts gX9_fill_X8_shutIn rfl rfl rfl hd_X8_shutIn ⟨Nat.le_of_ble_eq_true rfl, Nat.le_of_ble_eq_true rfl⟩) 13 rfl rfl rfl rfl (Nat.le_of_ble_eq_true rfl) dX9_fill_72 (fun t72 h => ?_)
          refine gg_lv [0] rfl ?_
          exact h)
      refine gg_if_eq (tgt := 56) hx hb h.1 dX9_fill_39 rfl (fun c39 => ?_) (fun c39 => ?_)
      · have h := h.2.1 c39
        refine gg_lv [0, 2] rfl ?_
        exact h
      · have h := h.2.2 c39
        refine gg_aload_n hx hb 0 rfl rfl dX9_fill_42 ?_
        refine gg_get (C := RX9) (T := TX9) (N := 9) hx hb hts hown hK iX9_fill_X9 0 rfl rfl 0 (by decide) (List.mem_of_getElem? (i := 3) rfl) rfl dX9_fill_43 ?_
        refine gg_callVip (As := []) (rest := []) hx hb hml hown hts hK hZ hA (c_X6_comesBack l D aa cI cZ cJ tR tU t28 _ h) (cwV 0 hts gX9_fill_X6_comesBack rfl rfl rfl hd_X6_comesBack ⟨Nat.le_of_ble_eq_true rfl, Nat.le_of_ble_eq_true rfl⟩) 1 rfl rfl rfl rfl (Nat.le_of_ble_eq_true rfl) dX9_fill_46 (fun r46 h => ?_)
        refine gg_if_ne (tgt := 56) hx hb h.1 dX9_fill_49 rfl (fun c49 => ?_) (fun c49 => ?_)
        · have h := h.2.1 c49
          refine gg_lv [0, 2] rfl ?_
          exact h
        · have h := h.2.2 c49
          refine gg_sipush hx hb dX9_fill_52 rfl ?_
          exact gg_iret hx hb hr hlk h dX9_fill_55
    · have h := h.2.2 c31
      refine gg_sipush hx hb dX9_fill_34 rfl ?_
      exact gg_iret hx hb hr hlk h dX9_fill_37
  · have h := h.2.2 c8
    refine gg_sipush hx hb dX9_fill_11 rfl ?_
    exact gg_iret hx hb hr hlk h dX9_fill_14
abbrev rmX2_members : Room := { frames := 0, cells := 0, slots := 0, locals := 0 }
theorem iX2_members_X2 : ∀ w ∈ u_ws RX2 TX2 3, w ∈ wsX2_members := (fun _ h => List.mem_cons_of_mem _ (List.mem_append_right _ h))
theorem hd_X2_members : (yX2_members.cls = RX2 ∧ yX2_members.cls ≠ "java/lang/invoke/MethodHandle" ∧ yX2_members.cls ≠ "java/lang/invoke/VarHandle" ∧ (parseMethodDescriptor yX2_members.desc).map (fun d => d.parameters.length) = some 0) := by decide +kernel
set_option maxRecDepth 100000 in
set_option maxHeartbeats 4000000 in
theorem c_X2_members (l : Launch) (D : va_G) (aa : Nat → Nat) (cI cZ cJ : ClassId) (tR tU : Nat) (σ : xSt) (Post : Prop) (h : wp_X2_members σ Post) : MR l D (tyL cI cZ cJ) (cX aa cI cZ cJ) tR tU yX2_members wsX2_members rmX2_members [.ref (aa 7)] σ (aa 8) (fun σ9 => σ9 = σ ∧ Post) := by
  refine mr_of (cc := cX2_members) (maxL := 1) (ret := (some (.array .boolean))) (by decide) rfl (Nat.le_of_ble_eq_true rfl) ?_
  intro p e s m args below meth c A hF
  obtain ⟨hx, hb, hr, hml, hown, hts, hlk, hK, hZ, hA⟩ := hF
  have hown : s.vm.findClass RX2 = some m.cls := hown
  delta wp_X2_members at h
  refine gg_lv (lv' := [(0, .ref (aa 7))]) [0] rfl ?_
  refine gg_aload_n hx hb 0 rfl rfl dX2_members_0 ?_
  refine gg_get (C := RX2) (T := TX2) (N := 3) hx hb hts hown hK iX2_members_X2 7 rfl rfl 0 (by decide) (List.mem_of_getElem? (i := 1) rfl) rfl dX2_members_1 ?_
  exact gg_aret hx hb hr hlk ⟨rfl, h⟩ dX2_members_4
abbrev rmX4_shutParts : Room := { frames := 3, cells := 0, slots := 0, locals := 67 }
theorem iX4_shutParts_X4 : ∀ w ∈ u_ws RX4 TX4 3, w ∈ wsX4_shutParts := (fun _ h => List.mem_cons_of_mem _ (List.mem_append_left _ (List.mem_append_right _ h)))
theorem hd_X4_shutParts : (yX4_shutParts.cls = RX4 ∧ yX4_shutParts.cls ≠ "java/lang/invoke/MethodHandle" ∧ yX4_shutParts.cls ≠ "java/lang/invoke/VarHandle" ∧ (parseMethodDescriptor yX4_shutParts.desc).map (fun d => d.parameters.length) = some 1) := by decide +kernel
set_option maxRecDepth 100000 in
set_option maxHeartbeats 4000000 in
theorem c_X4_shutParts (l : Launch) (D : va_G) (aa : Nat → Nat) (cI cZ cJ : ClassId) (tR tU : Nat) (σ : xSt) (Post : Int → xSt → Prop) (h : wp_X4_shutParts σ Post) : MI l D (tyL cI cZ cJ) (cX aa cI cZ cJ) tR tU yX4_shutParts wsX4_shutParts rmX4_shutParts [.ref (aa 9), .ref (aa 7)] σ Post := by
  refine mi_of (cc := cX4_shutParts) (maxL := 4) (ret := (some .int)) (by decide) rfl (Nat.le_of_ble_eq_true rfl) ?_
  intro p e s m args below meth c A hF
  obtain ⟨hx, hb, hr, hml, hown, hts, hlk, hK, hZ, hA⟩ := hF
  have hown : s.vm.findClass RX4 = some m.cls := hown
  delta wp_X4_shutParts at h
  refine gg_lv (lv' := [(0, .ref (aa 9)), (1, .ref (aa 7))]) [0, 1] rfl ?_
  refine gg_aload_n hx hb 0 rfl rfl dX4_shutParts_0 ?_
  refine gg_aload_n hx hb 1 rfl rfl dX4_shutParts_1 ?_
  refine gg_callVv (As := [.ref (aa 7)]) (rest := []) hx hb hml hown hts hK hZ hA (c_X4_findOpen l D aa cI cZ cJ tR tU σ _ h) (cwV 1 hts gX4_shutParts_X4_findOpen rfl rfl rfl hd_X4_findOpen ⟨Nat.le_of_ble_eq_true rfl, Nat.le_of_ble_eq_true rfl⟩) 9 rfl rfl rfl rfl (Nat.le_of_ble_eq_true rfl) dX4_shutParts_2 (fun t2 h => ?_)
  refine gg_iconst hx hb dX4_shutParts_5 ?_
  refine gg_istore_n (lv' := [(2, .int (xI 0)), (0, .ref (aa 9)), (1, .ref (aa 7))]) hx hb rfl (by decide) rfl dX4_shutParts_6 ?_
  refine gg_iconst hx hb dX4_shutParts_7 ?_
  refine gg_istore_n (lv' := [(3, .int (xI 0)), (2, .int (xI 0)), (0, .ref (aa 9)), (1, .ref (aa 7))]) hx hb rfl (by decide) rfl dX4_shutParts_8 ?_
  have h := h (fun (x2_9 x3_9 : Int) => GG p l e rmX4_shutParts s m args below meth c (QI below D (cX aa cI cZ cJ) A args s Post) A D (cX aa cI cZ cJ) 4 t2 9 [(0, .ref (aa 9)), (1, .ref (aa 7)), (2, .int (xI x2_9)), (3, .int (xI x3_9))] [])
  have h := h (by
    intro x2_9 x3_9 h
    refine gg_iload_n hx hb 3 rfl rfl dX4_shutParts_9 ?_
    refine gg_aload_n hx hb 1 rfl rfl dX4_shutParts_10 ?_
    refine gg_callVip (As := []) (rest := [.int (xI x3_9)]) hx hb hml hown hts hK hZ hA (c_X2_fields l D aa cI cZ cJ tR tU t2 _ h) (cwV 0 hts gX4_shutParts_X2_fields rfl rfl rfl hd_X2_fields ⟨Nat.le_of_ble_eq_true rfl, Nat.le_of_ble_eq_true rfl⟩) 7 rfl rfl rfl rfl (Nat.le_of_ble_eq_true rfl) dX4_shutParts_11 (fun r11 h => ?_)
    refine gg_icmp_ge (tgt := 45) hx hb h.1 h.2.1 dX4_shutParts_14 rfl (fun c14 => ?_) (fun c14 => ?_)
    · have h := h.2.2.1 c14
      refine gg_iload_n hx hb 2 rfl rfl dX4_shutParts_45 ?_
      exact gg_iret hx hb hr hlk h dX4_shutParts_46
    · have h := h.2.2.2 c14
      refine gg_aload_n hx hb 0 rfl rfl dX4_shutParts_17 ?_
      refine gg_get (C := RX4) (T := TX4) (N := 3) hx hb hts hown hK iX4_shutParts_X4 9 rfl rfl 0 (by decide) (List.mem_of_getElem? (i := 1) rfl) rfl dX4_shutParts_18 ?_
      refine gg_iload_n hx hb 3 rfl rfl dX4_shutParts_21 ?_
      refine gg_iald hx hb hK 10 0 rfl rfl (by decide) h.1 dX4_shutParts_22 ?_
      have h := h.2
      refine gg_iload_n hx hb 3 rfl rfl dX4_shutParts_23 ?_
      refine gg_icmp_ne (tgt := 39) hx hb h.1 h.2.1 dX4_shutParts_24 rfl (fun c24 => ?_) (fun c24 => ?_)
      · have h := h.2.2.1 c24
        refine gg_iinc (lv' := [(3, .int (xI (x3_9 + 1))), (0, .ref (aa 9)), (1, .ref (aa 7)), (2, .int (xI x2_9))]) hx hb 3 rfl (by decide) rfl dX4_shutParts_39 ?_
        refine gg_goto (tgt := 9) hx hb dX4_shutParts_42 rfl ?_
        refine gg_lv [1, 2, 3, 0] rfl ?_
        exact h
      · have h := h.2.2.2 c24
        refine gg_aload_n hx hb 0 rfl rfl dX4_shutParts_27 ?_
        refine gg_get (C := RX4) (T := TX4) (N := 3) hx hb hts hown hK iX4_shutParts_X4 9 rfl rfl 2 (by decide) (List.mem_of_getElem? (i := 2) rfl) rfl dX4_shutParts_28 ?_
        refine gg_iload_n hx hb 3 rfl rfl dX4_shutParts_31 ?_
        refine gg_zald hx hb hK 12 1 rfl rfl (by decide) h.1 dX4_shutParts_32 ?_
        have h := h.2
        refine gg_if_ne (tgt := 39) hx hb h.1 dX4_shutParts_33 rfl (fun c33 => ?_) (fun c33 => ?_)
        · have h := h.2.1 c33
          refine gg_iinc (lv' := [(3, .int (xI (x3_9 + 1))), (0, .ref (aa 9)), (1, .ref (aa 7)), (2, .int (xI x2_9))]) hx hb 3 rfl (by decide) rfl dX4_shutParts_39 ?_
          refine gg_goto (tgt := 9) hx hb dX4_shutParts_42 rfl ?_
          refine gg_lv [1, 2, 3, 0] rfl ?_
          exact h
        · have h := h.2.2 c33
          refine gg_iinc (lv' := [(2, .int (xI (x2_9 + 1))), (0, .ref (aa 9)), (1, .ref (aa 7)), (3, .int (xI x3_9))]) hx hb 2 rfl (by decide) rfl dX4_shutParts_36 ?_
          refine gg_iinc (lv' := [(3, .int (xI (x3_9 + 1))), (2, .int (xI (x2_9 + 1))), (0, .ref (aa 9)), (1, .ref (aa 7))]) hx hb 3 rfl (by decide) rfl dX4_shutParts_39 ?_
          refine gg_goto (tgt := 9) hx hb dX4_shutParts_42 rfl ?_
          refine gg_lv [2, 3, 1, 0] rfl ?_
          exact h)
  refine gg_lv [2, 3, 1, 0] rfl ?_
  exact h
abbrev rmX2_holdsAt : Room := { frames := 3, cells := 0, slots := 0, locals := 62 }
theorem hd_X2_holdsAt : (yX2_holdsAt.cls = RX2 ∧ yX2_holdsAt.cls ≠ "java/lang/invoke/MethodHandle" ∧ yX2_holdsAt.cls ≠ "java/lang/invoke/VarHandle" ∧ (parseMethodDescriptor yX2_holdsAt.desc).map (fun d => d.parameters.length) = some 2) := by decide +kernel
set_option maxRecDepth 100000 in
set_option maxHeartbeats 4000000 in
theorem c_X2_holdsAt (l : Launch) (D : va_G) (aa : Nat → Nat) (cI cZ cJ : ClassId) (tR tU : Nat) (a1 : Int) (a2 : Int) (σ : xSt) (Post : Int → Prop) (h : wp_X2_holdsAt a1 a2 σ Post) : MI l D (tyL cI cZ cJ) (cX aa cI cZ cJ) tR tU yX2_holdsAt wsX2_holdsAt rmX2_holdsAt [.ref (aa 7), .int (xI a1), .int (xI a2)] σ (fun r9 σ9 => σ9 = σ ∧ Post r9) := by
  refine mi_of (cc := cX2_holdsAt) (maxL := 3) (ret := (some .boolean)) (by decide) rfl (Nat.le_of_ble_eq_true rfl) ?_
  intro p e s m args below meth c A hF
  obtain ⟨hx, hb, hr, hml, hown, hts, hlk, hK, hZ, hA⟩ := hF
  have hown : s.vm.findClass RX2 = some m.cls := hown
  delta wp_X2_holdsAt at h
  refine gg_lv (lv' := [(0, .ref (aa 7)), (1, .int (xI a1)), (2, .int (xI a2))]) [0, 1, 2] rfl ?_
  refine gg_aload_n hx hb 0 rfl rfl dX2_holdsAt_0 ?_
  refine gg_aload_n hx hb 0 rfl rfl dX2_holdsAt_1 ?_
  refine gg_iload_n hx hb 1 rfl rfl dX2_holdsAt_2 ?_
  refine gg_iload_n hx hb 2 rfl rfl dX2_holdsAt_3 ?_
  refine gg_callVip (As := [.int (xI a1), .int (xI a2)]) (rest := [.ref (aa 7)]) hx hb hml hown hts hK hZ hA (c_X2_fieldAt l D aa cI cZ cJ tR tU a1 a2 σ _ h) (cwV 2 hts gX2_holdsAt_X2_fieldAt rfl rfl rfl hd_X2_fieldAt ⟨Nat.le_of_ble_eq_true rfl, Nat.le_of_ble_eq_true rfl⟩) 7 rfl rfl rfl rfl (Nat.le_of_ble_eq_true rfl) dX2_holdsAt_4 (fun r4 h => ?_)
  refine gg_callVip (As := [.int (xI r4)]) (rest := []) hx hb hml hown hts hK hZ hA (c_X2_holds l D aa cI cZ cJ tR tU r4 σ _ h) (cwV 1 hts gX2_holdsAt_X2_holds rfl rfl rfl hd_X2_holds ⟨Nat.le_of_ble_eq_true rfl, Nat.le_of_ble_eq_true rfl⟩) 7 rfl rfl rfl rfl (Nat.le_of_ble_eq_true rfl) dX2_holdsAt_7 (fun r7 h => ?_)
  exact gg_zret hx hb hr hlk h.1 ⟨rfl, h.2⟩ dX2_holdsAt_10
abbrev rmX2_eightAbout : Room := { frames := 4, cells := 0, slots := 0, locals := 84 }
theorem hd_X2_eightAbout : (yX2_eightAbout.cls = RX2 ∧ yX2_eightAbout.cls ≠ "java/lang/invoke/MethodHandle" ∧ yX2_eightAbout.cls ≠ "java/lang/invoke/VarHandle" ∧ (parseMethodDescriptor yX2_eightAbout.desc).map (fun d => d.parameters.length) = some 1) := by decide +kernel
set_option maxRecDepth 100000 in
set_option maxHeartbeats 4000000 in
theorem c_X2_eightAbout (l : Launch) (D : va_G) (aa : Nat → Nat) (cI cZ cJ : ClassId) (tR tU : Nat) (a1 : Int) (σ : xSt) (Post : Int → Prop) (h : wp_X2_eightAbout a1 σ Post) : MI l D (tyL cI cZ cJ) (cX aa cI cZ cJ) tR tU yX2_eightAbout wsX2_eightAbout rmX2_eightAbout [.ref (aa 7), .int (xI a1)] σ (fun r9 σ9 => σ9 = σ ∧ Post r9) := by
  refine mi_of (cc := cX2_eightAbout) (maxL := 6) (ret := (some .int)) (by decide) rfl (Nat.le_of_ble_eq_true rfl) ?_
  intro p e s m args below meth c A hF
  obtain ⟨hx, hb, hr, hml, hown, hts, hlk, hK, hZ, hA⟩ := hF
  have hown : s.vm.findClass RX2 = some m.cls := hown
  obtain ⟨hZ1, hZ2, hZ3, hZ4, hN1, hN2, hN3, hN4, hN5, hN6⟩ := id hZ
  delta wp_X2_eightAbout at h
  refine gg_lv (lv' := [(0, .ref (aa 7)), (1, .int (xI a1))]) [0, 1] rfl ?_
  refine gg_aload_n hx hb 0 rfl rfl dX2_eightAbout_0 ?_
  refine gg_iload_n hx hb 1 rfl rfl dX2_eightAbout_1 ?_
  refine gg_callVip (As := [.int (xI a1)]) (rest := []) hx hb hml hown hts hK hZ hA (c_X2_columnOf l D aa cI cZ cJ tR tU a1 σ _ h) (cwV 1 hts gX2_eightAbout_X2_columnOf rfl rfl rfl hd_X2_columnOf ⟨Nat.le_of_ble_eq_true rfl, Nat.le_of_ble_eq_true rfl⟩) 7 rfl rfl rfl rfl (Nat.le_of_ble_eq_true rfl) dX2_eightAbout_2 (fun r2 h => ?_)
  refine gg_istore_n (lv' := [(2, .int (xI r2)), (0, .ref (aa 7)), (1, .int (xI a1))]) hx hb rfl (by decide) rfl dX2_eightAbout_5 ?_
  refine gg_aload_n hx hb 1 rfl rfl dX2_eightAbout_6 ?_
  refine gg_iload_n hx hb 2 rfl rfl dX2_eightAbout_7 ?_
  refine gg_callVip (As := [.int (xI a1)]) (rest := []) hx hb hml hown hts hK hZ hA (c_X2_lineOf l D aa cI cZ cJ tR tU a1 σ _ h) (cwV 1 hts gX2_eightAbout_X2_lineOf rfl rfl rfl hd_X2_lineOf ⟨Nat.le_of_ble_eq_true rfl, Nat.le_of_ble_eq_true rfl⟩) 7 rfl rfl rfl rfl (Nat.le_of_ble_eq_true rfl) dX2_eightAbout_8 (fun r8 h => ?_)
  refine gg_istore_n (lv' := [(3, .int (xI r8)), (2, .int (xI r2)), (0, .ref (aa 7)), (1, .int (xI a1))]) hx hb rfl (by decide) rfl dX2_eightAbout_11 ?_
  refine gg_iconst hx hb dX2_eightAbout_12 ?_
  refine gg_istore (lv' := [(4, .int (xI 0)), (3, .int (xI r8)), (2, .int (xI r2)), (0, .ref (aa 7)), (1, .int (xI a1))]) hx hb (by decide) rfl dX2_eightAbout_13 ?_
  refine gg_iconst hx hb dX2_eightAbout_15 ?_
  refine gg_istore (lv' := [(5, .int (xI 0)), (4, .int (xI 0)), (3, .int (xI r8)), (2, .int (xI r2)), (0, .ref (aa 7)), (1, .int (xI a1))]) hx hb (by decide) rfl dX2_eightAbout_16 ?_
  have h := h (fun (x4_18 x5_18 : Int) => GG p l e rmX2_eightAbout s m args below meth c (QI below D (cX aa cI cZ cJ) A args s (fun r9 σ9 => σ9 = σ ∧ Post r9)) A D (cX aa cI cZ cJ) 6 σ 18 [(0, .ref (aa 7)), (2, .int (xI r2)), (3, .int (xI r8)), (4, .int (xI x4_18)), (5, .int (xI x5_18))] [])
  have h := h (by
    intro x4_18 x5_18 h
    refine gg_iload hx hb 4 rfl dX2_eightAbout_18 ?_
    refine gg_bipush hx hb dX2_eightAbout_20 rfl ?_
    refine gg_icmp_ge (tgt := 63) hx hb h.1 (by decide) dX2_eightAbout_22 rfl (fun c22 => ?_) (fun c22 => ?_)
    · have h := h.2.1 c22
      refine gg_iload hx hb 3 rfl dX2_eightAbout_63 ?_
      exact gg_iret hx hb hr hlk ⟨rfl, h⟩ dX2_eightAbout_65
    · have h := h.2.2 c22
      refine gg_aload_n hx hb 0 rfl rfl dX2_eightAbout_25 ?_
      refine gg_iload_n hx hb 1 rfl rfl dX2_eightAbout_26 ?_
      refine gg_gets hx hb hZ1 hown hN1 dX2_eightAbout_27 ?_
      refine gg_iload hx hb 4 rfl dX2_eightAbout_30 ?_
      refine gg_tald hx hb xRt hZ2 (by decide) h.1 dX2_eightAbout_32 ?_
      have h := h.2
      refine gg_iadd hx hb dX2_eightAbout_33 ?_
      refine gg_iload_n hx hb 2 rfl rfl dX2_eightAbout_34 ?_
      refine gg_gets hx hb hZ3 hown hN2 dX2_eightAbout_35 ?_
      refine gg_iload hx hb 4 rfl dX2_eightAbout_38 ?_
      refine gg_tald hx hb xUp hZ4 (by decide) h.1 dX2_eightAbout_40 ?_
      have h := h.2
      refine gg_iadd hx hb dX2_eightAbout_41 ?_
      refine gg_callVip (As := [.int (xI (r2 + (xRt (x5_18).toNat))), .int (xI (r8 + (xUp (x5_18).toNat)))]) (rest := []) hx hb hml hown hts hK hZ hA (c_X2_holdsAt l D aa cI cZ cJ tR tU (r2 + (xRt (x5_18).toNat)) (r8 + (xUp (x5_18).toNat)) σ _ h) (cwV 2 hts gX2_eightAbout_X2_holdsAt rfl rfl rfl hd_X2_holdsAt ⟨Nat.le_of_ble_eq_true rfl, Nat.le_of_ble_eq_true rfl⟩) 7 rfl rfl rfl rfl (Nat.le_of_ble_eq_true rfl) dX2_eightAbout_42 (fun r42 h => ?_)
      refine gg_if_eq (tgt := 57) hx hb h.1 dX2_eightAbout_45 rfl (fun c45 => ?_) (fun c45 => ?_)
      · have h := h.2.1 c45
        refine gg_iinc (lv' := [(5, .int (xI (x5_18 + 1))), (0, .ref (aa 7)), (2, .int (xI r2)), (3, .int (xI r8)), (4, .int (xI x4_18))]) hx hb 4 rfl (by decide) rfl dX2_eightAbout_57 ?_
        refine gg_goto (tgt := 18) hx hb dX2_eightAbout_60 rfl ?_
        refine gg_lv [1, 2, 3, 4, 0] rfl ?_
        exact h
      · have h := h.2.2 c45
        refine gg_iload hx hb 3 rfl dX2_eightAbout_48 ?_
        refine gg_iconst hx hb dX2_eightAbout_50 ?_
        refine gg_iload hx hb 4 rfl dX2_eightAbout_51 ?_
        refine gg_ishl hx hb dX2_eightAbout_53 ?_
        refine gg_ior hx hb dX2_eightAbout_54 ?_
        refine gg_nm (fun z4_55 e55 => ?_)
        have h := h z4_55 e55
        refine gg_istore (lv' := [(4, .int (xI z4_55)), (0, .ref (aa 7)), (2, .int (xI r2)), (3, .int (xI r8)), (5, .int (xI x5_18))]) hx hb (by decide) rfl dX2_eightAbout_55 ?_
        refine gg_iinc (lv' := [(5, .int (xI (x5_18 + 1))), (4, .int (xI z4_55)), (0, .ref (aa 7)), (2, .int (xI r2)), (3, .int (xI r8))]) hx hb 4 rfl (by decide) rfl dX2_eightAbout_57 ?_
        refine gg_goto (tgt := 18) hx hb dX2_eightAbout_60 rfl ?_
        refine gg_lv [2, 3, 4, 1, 0] rfl ?_
        exact h)
  refine gg_lv [4, 3, 2, 1, 0] rfl ?_
  exact h
abbrev rmJ6_bitCount_0f7a4 : Room := { frames := 0, cells := 0, slots := 0, locals := 0 }
theorem hd_J6_bitCount_0f7a4 : (yJ6_bitCount_0f7a4.cls ≠ "java/lang/invoke/MethodHandle" ∧ yJ6_bitCount_0f7a4.cls ≠ "java/lang/invoke/VarHandle" ∧ (parseMethodDescriptor yJ6_bitCount_0f7a4.desc).map (fun d => d.parameters.length) = some 1) := by decide +kernel
set_option maxRecDepth 100000 in
set_option maxHeartbeats 4000000 in
theorem c_J6_bitCount_0f7a4 (l : Launch) (D : va_G) (aa : Nat → Nat) (cI cZ cJ : ClassId) (tR tU : Nat) (a0 : Int) (σ : xSt) (Post : Int → Prop) (h : wp_J6_bitCount_0f7a4 a0 σ Post) : MI l D (tyL cI cZ cJ) (cX aa cI cZ cJ) tR tU yJ6_bitCount_0f7a4 wsJ6_bitCount_0f7a4 rmJ6_bitCount_0f7a4 [.int (xI a0)] σ (fun r9 σ9 => σ9 = σ ∧ Post r9) := by
  refine mi_ofF (cc := cJ6_bitCount_0f7a4) (maxL := 1) (ret := (some .int)) (by decide +kernel) rfl (Nat.le_of_ble_eq_true rfl) ?_
  intro p e s m args below meth c A hF
  obtain ⟨hx, hb, hr, hml, hown, hts, hlk, hK, hZ, hA⟩ := hF
  have hown : s.vm.findClass RJ6 = some m.cls := hown
  delta wp_J6_bitCount_0f7a4 at h
  refine gg_lv (lv' := [(0, .int (xI a0))]) [0] rfl ?_
  refine gg_iload_n hx hb 0 rfl rfl dJ6_bitCount_0f7a4_0 ?_
  refine gg_iload_n hx hb 0 rfl rfl dJ6_bitCount_0f7a4_1 ?_
  refine gg_iconst hx hb dJ6_bitCount_0f7a4_2 ?_
  refine gg_iushr hx hb dJ6_bitCount_0f7a4_3 ?_
  refine gg_ldcw hx hb (1431655765) hown (hts _ (List.mem_of_getElem? (i := 1) rfl)) rfl dJ6_bitCount_0f7a4_4 ?_
  refine gg_iand hx hb dJ6_bitCount_0f7a4_7 ?_
  refine gg_isub hx hb dJ6_bitCount_0f7a4_8 ?_
  refine gg_nm (fun z0_9 e9 => ?_)
  have h := h z0_9 e9
  refine gg_istore_n (lv' := [(0, .int (xI z0_9))]) hx hb rfl (by decide) rfl dJ6_bitCount_0f7a4_9 ?_
  refine gg_iload_n hx hb 0 rfl rfl dJ6_bitCount_0f7a4_10 ?_
  refine gg_ldcw hx hb (858993459) hown (hts _ (List.mem_of_getElem? (i := 2) rfl)) rfl dJ6_bitCount_0f7a4_11 ?_
  refine gg_iand hx hb dJ6_bitCount_0f7a4_14 ?_
  refine gg_iload_n hx hb 0 rfl rfl dJ6_bitCount_0f7a4_15 ?_
  refine gg_iconst hx hb dJ6_bitCount_0f7a4_16 ?_
  refine gg_iushr hx hb dJ6_bitCount_0f7a4_17 ?_
  refine gg_ldcw hx hb (858993459) hown (hts _ (List.mem_of_getElem? (i := 2) rfl)) rfl dJ6_bitCount_0f7a4_18 ?_
  refine gg_iand hx hb dJ6_bitCount_0f7a4_21 ?_
  refine gg_iadd hx hb dJ6_bitCount_0f7a4_22 ?_
  refine gg_nm (fun z0_23 e23 => ?_)
  have h := h z0_23 e23
  refine gg_istore_n (lv' := [(0, .int (xI z0_23))]) hx hb rfl (by decide) rfl dJ6_bitCount_0f7a4_23 ?_
  refine gg_iload_n hx hb 0 rfl rfl dJ6_bitCount_0f7a4_24 ?_
  refine gg_iload_n hx hb 0 rfl rfl dJ6_bitCount_0f7a4_25 ?_
  refine gg_iconst hx hb dJ6_bitCount_0f7a4_26 ?_
  refine gg_iushr hx hb dJ6_bitCount_0f7a4_27 ?_
  refine gg_iadd hx hb dJ6_bitCount_0f7a4_28 ?_
  refine gg_ldcw hx hb (252645135) hown (hts _ (List.mem_of_getElem? (i := 3) rfl)) rfl dJ6_bitCount_0f7a4_29 ?_
  refine gg_iand hx hb dJ6_bitCount_0f7a4_32 ?_
  refine gg_nm (fun z0_33 e33 => ?_)
  have h := h z0_33 e33
  refine gg_istore_n (lv' := [(0, .int (xI z0_33))]) hx hb rfl (by decide) rfl dJ6_bitCount_0f7a4_33 ?_
  refine gg_iload_n hx hb 0 rfl rfl dJ6_bitCount_0f7a4_34 ?_
  refine gg_iload_n hx hb 0 rfl rfl dJ6_bitCount_0f7a4_35 ?_
  refine gg_bipush hx hb dJ6_bitCount_0f7a4_36 rfl ?_
  refine gg_iushr hx hb dJ6_bitCount_0f7a4_38 ?_
  refine gg_iadd hx hb dJ6_bitCount_0f7a4_39 ?_
  refine gg_nm (fun z0_40 e40 => ?_)
  have h := h z0_40 e40
  refine gg_istore_n (lv' := [(0, .int (xI z0_40))]) hx hb rfl (by decide) rfl dJ6_bitCount_0f7a4_40 ?_
  refine gg_iload_n hx hb 0 rfl rfl dJ6_bitCount_0f7a4_41 ?_
  refine gg_iload_n hx hb 0 rfl rfl dJ6_bitCount_0f7a4_42 ?_
  refine gg_bipush hx hb dJ6_bitCount_0f7a4_43 rfl ?_
  refine gg_iushr hx hb dJ6_bitCount_0f7a4_45 ?_
  refine gg_iadd hx hb dJ6_bitCount_0f7a4_46 ?_
  refine gg_nm (fun z0_47 e47 => ?_)
  have h := h z0_47 e47
  refine gg_istore_n (lv' := [(0, .int (xI z0_47))]) hx hb rfl (by decide) rfl dJ6_bitCount_0f7a4_47 ?_
  refine gg_iload_n hx hb 0 rfl rfl dJ6_bitCount_0f7a4_48 ?_
  refine gg_bipush hx hb dJ6_bitCount_0f7a4_49 rfl ?_
  refine gg_iand hx hb dJ6_bitCount_0f7a4_51 ?_
  exact gg_iret hx hb hr hlk ⟨rfl, h⟩ dJ6_bitCount_0f7a4_52
abbrev rmX2_rims : Room := { frames := 5, cells := 0, slots := 0, locals := 109 }
theorem hd_X2_rims : (yX2_rims.cls = RX2 ∧ yX2_rims.cls ≠ "java/lang/invoke/MethodHandle" ∧ yX2_rims.cls ≠ "java/lang/invoke/VarHandle" ∧ (parseMethodDescriptor yX2_rims.desc).map (fun d => d.parameters.length) = some 0) := by decide +kernel
set_option maxRecDepth 100000 in
set_option maxHeartbeats 4000000 in
theorem c_X2_rims (l : Launch) (D : va_G) (aa : Nat → Nat) (cI cZ cJ : ClassId) (tR tU : Nat) (σ : xSt) (Post : Int → Prop) (h : wp_X2_rims σ Post) : MI l D (tyL cI cZ cJ) (cX aa cI cZ cJ) tR tU yX2_rims wsX2_rims rmX2_rims [.ref (aa 7)] σ (fun r9 σ9 => σ9 = σ ∧ Post r9) := by
  refine mi_of (cc := cX2_rims) (maxL := 3) (ret := (some .int)) (by decide) rfl (Nat.le_of_ble_eq_true rfl) ?_
  intro p e s m args below meth c A hF
  obtain ⟨hx, hb, hr, hml, hown, hts, hlk, hK, hZ, hA⟩ := hF
  have hown : s.vm.findClass RX2 = some m.cls := hown
  delta wp_X2_rims at h
  refine gg_lv (lv' := [(0, .ref (aa 7))]) [0] rfl ?_
  refine gg_iconst hx hb dX2_rims_0 ?_
  refine gg_istore_n (lv' := [(1, .int (xI 0)), (0, .ref (aa 7))]) hx hb rfl (by decide) rfl dX2_rims_1 ?_
  refine gg_iconst hx hb dX2_rims_2 ?_
  refine gg_istore_n (lv' := [(2, .int (xI 0)), (1, .int (xI 0)), (0, .ref (aa 7))]) hx hb rfl (by decide) rfl dX2_rims_3 ?_
  have h := h (fun (x1_4 x2_4 : Int) => GG p l e rmX2_rims s m args below meth c (QI below D (cX aa cI cZ cJ) A args s (fun r9 σ9 => σ9 = σ ∧ Post r9)) A D (cX aa cI cZ cJ) 3 σ 4 [(0, .ref (aa 7)), (1, .int (xI x1_4)), (2, .int (xI x2_4))] [])
  have h := h (by
    intro x1_4 x2_4 h
    refine gg_iload_n hx hb 2 rfl rfl dX2_rims_4 ?_
    refine gg_aload_n hx hb 0 rfl rfl dX2_rims_5 ?_
    refine gg_callVip (As := []) (rest := [.int (xI x2_4)]) hx hb hml hown hts hK hZ hA (c_X2_fields l D aa cI cZ cJ tR tU σ _ h) (cwV 0 hts gX2_rims_X2_fields rfl rfl rfl hd_X2_fields ⟨Nat.le_of_ble_eq_true rfl, Nat.le_of_ble_eq_true rfl⟩) 7 rfl rfl rfl rfl (Nat.le_of_ble_eq_true rfl) dX2_rims_6 (fun r6 h => ?_)
    refine gg_icmp_ge (tgt := 42) hx hb h.1 h.2.1 dX2_rims_9 rfl (fun c9 => ?_) (fun c9 => ?_)
    · have h := h.2.2.1 c9
      refine gg_iload_n hx hb 1 rfl rfl dX2_rims_42 ?_
      exact gg_iret hx hb hr hlk ⟨rfl, h⟩ dX2_rims_43
    · have h := h.2.2.2 c9
      refine gg_aload_n hx hb 0 rfl rfl dX2_rims_12 ?_
      refine gg_iload_n hx hb 2 rfl rfl dX2_rims_13 ?_
      refine gg_callVip (As := [.int (xI x2_4)]) (rest := []) hx hb hml hown hts hK hZ hA (c_X2_holds l D aa cI cZ cJ tR tU x2_4 σ _ h) (cwV 1 hts gX2_rims_X2_holds rfl rfl rfl hd_X2_holds ⟨Nat.le_of_ble_eq_true rfl, Nat.le_of_ble_eq_true rfl⟩) 7 rfl rfl rfl rfl (Nat.le_of_ble_eq_true rfl) dX2_rims_14 (fun r14 h => ?_)
      refine gg_if_eq (tgt := 36) hx hb h.1 dX2_rims_17 rfl (fun c17 => ?_) (fun c17 => ?_)
      · have h := h.2.1 c17
        refine gg_iinc (lv' := [(2, .int (xI (x2_4 + 1))), (0, .ref (aa 7)), (1, .int (xI x1_4))]) hx hb 2 rfl (by decide) rfl dX2_rims_36 ?_
        refine gg_goto (tgt := 4) hx hb dX2_rims_39 rfl ?_
        refine gg_lv [1, 2, 0] rfl ?_
        exact h
      · have h := h.2.2 c17
        refine gg_iload_n hx hb 1 rfl rfl dX2_rims_20 ?_
        refine gg_iconst hx hb dX2_rims_21 ?_
        refine gg_aload_n hx hb 0 rfl rfl dX2_rims_22 ?_
        refine gg_iload_n hx hb 2 rfl rfl dX2_rims_23 ?_
        refine gg_callVip (As := [.int (xI x2_4)]) (rest := [.int (xI 4), .int (xI x1_4)]) hx hb hml hown hts hK hZ hA (c_X2_eightAbout l D aa cI cZ cJ tR tU x2_4 σ _ h) (cwV 1 hts gX2_rims_X2_eightAbout rfl rfl rfl hd_X2_eightAbout ⟨Nat.le_of_ble_eq_true rfl, Nat.le_of_ble_eq_true rfl⟩) 7 rfl rfl rfl rfl (Nat.le_of_ble_eq_true rfl) dX2_rims_24 (fun r24 h => ?_)
        refine gg_bipush hx hb dX2_rims_27 rfl ?_
        refine gg_iand hx hb dX2_rims_29 ?_
        refine gg_callSip (As := [.int (xI (xAnd r24 85))]) (rest := [.int (xI 4), .int (xI x1_4)]) hx hb hml hown hts hK hZ hA (c_J6_bitCount_0f7a4 l D aa cI cZ cJ tR tU (xAnd r24 85) σ _ h) (va_cwS 1 hts gX2_rims_J6_bitCount_0f7a4 rfl rfl rfl hd_J6_bitCount_0f7a4 ⟨Nat.le_of_ble_eq_true rfl, Nat.le_of_ble_eq_true rfl⟩) rfl rfl (Nat.le_of_ble_eq_true rfl) dX2_rims_30 (fun r30 h => ?_)
        refine gg_isub hx hb dX2_rims_33 ?_
        refine gg_iadd hx hb dX2_rims_34 ?_
        refine gg_istore_n (lv' := [(1, .int (xI (x1_4 + (4 - r30)))), (0, .ref (aa 7)), (2, .int (xI x2_4))]) hx hb rfl (by decide) rfl dX2_rims_35 ?_
        refine gg_iinc (lv' := [(2, .int (xI (x2_4 + 1))), (1, .int (xI (x1_4 + (4 - r30)))), (0, .ref (aa 7))]) hx hb 2 rfl (by decide) rfl dX2_rims_36 ?_
        refine gg_goto (tgt := 4) hx hb dX2_rims_39 rfl ?_
        refine gg_lv [2, 1, 0] rfl ?_
        exact h)
  refine gg_lv [2, 1, 0] rfl ?_
  exact h
abbrev rmX2_width : Room := { frames := 0, cells := 0, slots := 0, locals := 0 }
theorem iX2_width_X2 : ∀ w ∈ u_ws RX2 TX2 3, w ∈ wsX2_width := (fun _ h => List.mem_cons_of_mem _ (List.mem_append_right _ h))
theorem hd_X2_width : (yX2_width.cls = RX2 ∧ yX2_width.cls ≠ "java/lang/invoke/MethodHandle" ∧ yX2_width.cls ≠ "java/lang/invoke/VarHandle" ∧ (parseMethodDescriptor yX2_width.desc).map (fun d => d.parameters.length) = some 0) := by decide +kernel
set_option maxRecDepth 100000 in
set_option maxHeartbeats 4000000 in
theorem c_X2_width (l : Launch) (D : va_G) (aa : Nat → Nat) (cI cZ cJ : ClassId) (tR tU : Nat) (σ : xSt) (Post : Int → Prop) (h : wp_X2_width σ Post) : MI l D (tyL cI cZ cJ) (cX aa cI cZ cJ) tR tU yX2_width wsX2_width rmX2_width [.ref (aa 7)] σ (fun r9 σ9 => σ9 = σ ∧ Post r9) := by
  refine mi_of (cc := cX2_width) (maxL := 1) (ret := (some .int)) (by decide) rfl (Nat.le_of_ble_eq_true rfl) ?_
  intro p e s m args below meth c A hF
  obtain ⟨hx, hb, hr, hml, hown, hts, hlk, hK, hZ, hA⟩ := hF
  have hown : s.vm.findClass RX2 = some m.cls := hown
  delta wp_X2_width at h
  refine gg_lv (lv' := [(0, .ref (aa 7))]) [0] rfl ?_
  refine gg_aload_n hx hb 0 rfl rfl dX2_width_0 ?_
  refine gg_get (C := RX2) (T := TX2) (N := 3) hx hb hts hown hK iX2_width_X2 7 rfl rfl 1 (by decide) (List.mem_of_getElem? (i := 1) rfl) rfl dX2_width_1 ?_
  exact gg_iret hx hb hr hlk ⟨rfl, h⟩ dX2_width_4
abbrev rmX2_height : Room := { frames := 0, cells := 0, slots := 0, locals := 0 }
theorem iX2_height_X2 : ∀ w ∈ u_ws RX2 TX2 3, w ∈ wsX2_height := (fun _ h => List.mem_cons_of_mem _ (List.mem_append_right _ h))
theorem hd_X2_height : (yX2_height.cls = RX2 ∧ yX2_height.cls ≠ "java/lang/invoke/MethodHandle" ∧ yX2_height.cls ≠ "java/lang/invoke/VarHandle" ∧ (parseMethodDescriptor yX2_height.desc).map (fun d => d.parameters.length) = some 0) := by decide +kernel
set_option maxRecDepth 100000 in
set_option maxHeartbeats 4000000 in
theorem c_X2_height (l : Launch) (D : va_G) (aa : Nat → Nat) (cI cZ cJ : ClassId) (tR tU : Nat) (σ : xSt) (Post : Int → Prop) (h : wp_X2_height σ Post) : MI l D (tyL cI cZ cJ) (cX aa cI cZ cJ) tR tU yX2_height wsX2_height rmX2_height [.ref (aa 7)] σ (fun r9 σ9 => σ9 = σ ∧ Post r9) := by
  refine mi_of (cc := cX2_height) (maxL := 1) (ret := (some .int)) (by decide) rfl (Nat.le_of_ble_eq_true rfl) ?_
  intro p e s m args below meth c A hF
  obtain ⟨hx, hb, hr, hml, hown, hts, hlk, hK, hZ, hA⟩ := hF
  have hown : s.vm.findClass RX2 = some m.cls := hown
  delta wp_X2_height at h
  refine gg_lv (lv' := [(0, .ref (aa 7))]) [0] rfl ?_
  refine gg_aload_n hx hb 0 rfl rfl dX2_height_0 ?_
  refine gg_get (C := RX2) (T := TX2) (N := 3) hx hb hts hown hK iX2_height_X2 7 rfl rfl 2 (by decide) (List.mem_of_getElem? (i := 1) rfl) rfl dX2_height_1 ?_
  exact gg_iret hx hb hr hlk ⟨rfl, h⟩ dX2_height_4
abbrev rmX3_side : Room := { frames := 0, cells := 0, slots := 0, locals := 0 }
theorem iX3_side_X3 : ∀ w ∈ u_ws RX3 TX3 3, w ∈ wsX3_side := (fun _ h => List.mem_cons_of_mem _ (List.mem_append_right _ h))
theorem hd_X3_side : (yX3_side.cls = RX3 ∧ yX3_side.cls ≠ "java/lang/invoke/MethodHandle" ∧ yX3_side.cls ≠ "java/lang/invoke/VarHandle" ∧ (parseMethodDescriptor yX3_side.desc).map (fun d => d.parameters.length) = some 4) := by decide +kernel
set_option maxRecDepth 100000 in
set_option maxHeartbeats 4000000 in
theorem c_X3_side (l : Launch) (D : va_G) (aa : Nat → Nat) (cI cZ cJ : ClassId) (tR tU : Nat) (a1 : Int) (a2 : Int) (a3 : Int) (a4 : Int) (σ : xSt) (Post : Int → Prop) (h : wp_X3_side a1 a2 a3 a4 σ Post) : MI l D (tyL cI cZ cJ) (cX aa cI cZ cJ) tR tU yX3_side wsX3_side rmX3_side [.ref (aa 15), .int (xI a1), .int (xI a2), .int (xI a3), .int (xI a4)] σ (fun r9 σ9 => σ9 = σ ∧ Post r9) := by
  refine mi_of (cc := cX3_side) (maxL := 5) (ret := (some .int)) (by decide) rfl (Nat.le_of_ble_eq_true rfl) ?_
  intro p e s m args below meth c A hF
  obtain ⟨hx, hb, hr, hml, hown, hts, hlk, hK, hZ, hA⟩ := hF
  have hown : s.vm.findClass RX3 = some m.cls := hown
  delta wp_X3_side at h
  refine gg_lv (lv' := [(0, .ref (aa 15)), (1, .int (xI a1)), (2, .int (xI a2)), (3, .int (xI a3)), (4, .int (xI a4))]) [0, 1, 2, 3, 4] rfl ?_
  refine gg_iload_n hx hb 1 rfl rfl dX3_side_0 ?_
  refine gg_if_lt (tgt := 20) hx hb h.1 dX3_side_1 rfl (fun c1 => ?_) (fun c1 => ?_)
  · have h := h.2.1 c1
    refine gg_iconst hx hb dX3_side_20 ?_
    exact gg_iret hx hb hr hlk ⟨rfl, h⟩ dX3_side_21
  · have h := h.2.2 c1
    refine gg_iload_n hx hb 2 rfl rfl dX3_side_4 ?_
    refine gg_if_lt (tgt := 20) hx hb h.1 dX3_side_5 rfl (fun c5 => ?_) (fun c5 => ?_)
    · have h := h.2.1 c5
      refine gg_iconst hx hb dX3_side_20 ?_
      exact gg_iret hx hb hr hlk ⟨rfl, h⟩ dX3_side_21
    · have h := h.2.2 c5
      refine gg_iload_n hx hb 1 rfl rfl dX3_side_8 ?_
      refine gg_bipush hx hb dX3_side_9 rfl ?_
      refine gg_icmp_ge (tgt := 20) hx hb h.1 (by decide) dX3_side_11 rfl (fun c11 => ?_) (fun c11 => ?_)
      · have h := h.2.1 c11
        refine gg_iconst hx hb dX3_side_20 ?_
        exact gg_iret hx hb hr hlk ⟨rfl, h⟩ dX3_side_21
      · have h := h.2.2 c11
        refine gg_iload_n hx hb 2 rfl rfl dX3_side_14 ?_
        refine gg_bipush hx hb dX3_side_15 rfl ?_
        refine gg_icmp_lt (tgt := 22) hx hb h.1 (by decide) dX3_side_17 rfl (fun c17 => ?_) (fun c17 => ?_)
        · have h := h.2.1 c17
          refine gg_aload_n hx hb 0 rfl rfl dX3_side_22 ?_
          refine gg_get (C := RX3) (T := TX3) (N := 3) hx hb hts hown hK iX3_side_X3 15 rfl rfl 0 (by decide) (List.mem_of_getElem? (i := 1) rfl) rfl dX3_side_23 ?_
          refine gg_iload_n hx hb 2 rfl rfl dX3_side_26 ?_
          refine gg_iald hx hb hK 16 0 rfl rfl (by decide) h.1 dX3_side_27 ?_
          have h := h.2
          refine gg_aload_n hx hb 0 rfl rfl dX3_side_28 ?_
          refine gg_get (C := RX3) (T := TX3) (N := 3) hx hb hts hown hK iX3_side_X3 15 rfl rfl 0 (by decide) (List.mem_of_getElem? (i := 1) rfl) rfl dX3_side_29 ?_
          refine gg_iload_n hx hb 1 rfl rfl dX3_side_32 ?_
          refine gg_iald hx hb hK 16 0 rfl rfl (by decide) h.1 dX3_side_33 ?_
          have h := h.2
          refine gg_isub hx hb dX3_side_34 ?_
          refine gg_iload hx hb 4 rfl dX3_side_35 ?_
          refine gg_aload_n hx hb 0 rfl rfl dX3_side_37 ?_
          refine gg_get (C := RX3) (T := TX3) (N := 3) hx hb hts hown hK iX3_side_X3 15 rfl rfl 1 (by decide) (List.mem_of_getElem? (i := 2) rfl) rfl dX3_side_38 ?_
          refine gg_iload_n hx hb 1 rfl rfl dX3_side_41 ?_
          refine gg_iald hx hb hK 17 0 rfl rfl (by decide) h.1 dX3_side_42 ?_
          have h := h.2
          refine gg_isub hx hb dX3_side_43 ?_
          refine gg_imul hx hb dX3_side_44 ?_
          refine gg_aload_n hx hb 0 rfl rfl dX3_side_45 ?_
          refine gg_get (C := RX3) (T := TX3) (N := 3) hx hb hts hown hK iX3_side_X3 15 rfl rfl 1 (by decide) (List.mem_of_getElem? (i := 2) rfl) rfl dX3_side_46 ?_
          refine gg_iload_n hx hb 2 rfl rfl dX3_side_49 ?_
          refine gg_iald hx hb hK 17 0 rfl rfl (by decide) h.1 dX3_side_50 ?_
          have h := h.2
          refine gg_aload_n hx hb 0 rfl rfl dX3_side_51 ?_
          refine gg_get (C := RX3) (T := TX3) (N := 3) hx hb hts hown hK iX3_side_X3 15 rfl rfl 1 (by decide) (List.mem_of_getElem? (i := 2) rfl) rfl dX3_side_52 ?_
          refine gg_iload_n hx hb 1 rfl rfl dX3_side_55 ?_
          refine gg_iald hx hb hK 17 0 rfl rfl (by decide) h.1 dX3_side_56 ?_
          have h := h.2
          refine gg_isub hx hb dX3_side_57 ?_
          refine gg_iload_n hx hb 3 rfl rfl dX3_side_58 ?_
          refine gg_aload_n hx hb 0 rfl rfl dX3_side_59 ?_
          refine gg_get (C := RX3) (T := TX3) (N := 3) hx hb hts hown hK iX3_side_X3 15 rfl rfl 0 (by decide) (List.mem_of_getElem? (i := 1) rfl) rfl dX3_side_60 ?_
          refine gg_iload_n hx hb 1 rfl rfl dX3_side_63 ?_
          refine gg_iald hx hb hK 16 0 rfl rfl (by decide) h.1 dX3_side_64 ?_
          have h := h.2
          refine gg_isub hx hb dX3_side_65 ?_
          refine gg_imul hx hb dX3_side_66 ?_
          refine gg_isub hx hb dX3_side_67 ?_
          exact gg_iret hx hb hr hlk ⟨rfl, h⟩ dX3_side_68
        · have h := h.2.2 c17
          refine gg_iconst hx hb dX3_side_20 ?_
          exact gg_iret hx hb hr hlk ⟨rfl, h⟩ dX3_side_21
abbrev rmX3_add : Room := { frames := 1, cells := 0, slots := 0, locals := 24 }
theorem iX3_add_X3 : ∀ w ∈ u_ws RX3 TX3 3, w ∈ wsX3_add := (fun _ h => List.mem_cons_of_mem _ (List.mem_append_right _ h))
theorem hd_X3_add : (yX3_add.cls = RX3 ∧ yX3_add.cls ≠ "java/lang/invoke/MethodHandle" ∧ yX3_add.cls ≠ "java/lang/invoke/VarHandle" ∧ (parseMethodDescriptor yX3_add.desc).map (fun d => d.parameters.length) = some 3) := by decide +kernel
set_option maxRecDepth 100000 in
set_option maxHeartbeats 4000000 in
theorem c_X3_add (l : Launch) (D : va_G) (aa : Nat → Nat) (cI cZ cJ : ClassId) (tR tU : Nat) (a1 : Int) (a2 : Int) (a3 : Int) (σ : xSt) (Post : xSt → Prop) (h : wp_X3_add a1 a2 a3 σ Post) : MV l D (tyL cI cZ cJ) (cX aa cI cZ cJ) tR tU yX3_add wsX3_add rmX3_add [.ref (aa 15), .int (xI a1), .int (xI a2), .int (xI a3)] σ Post := by
  refine mv_of (cc := cX3_add) (maxL := 4) (ret := none) (by decide) rfl (Nat.le_of_ble_eq_true rfl) ?_
  intro p e s m args below meth c A hF
  obtain ⟨hx, hb, hr, hml, hown, hts, hlk, hK, hZ, hA⟩ := hF
  have hown : s.vm.findClass RX3 = some m.cls := hown
  delta wp_X3_add at h
  refine gg_lv (lv' := [(0, .ref (aa 15)), (1, .int (xI a1)), (2, .int (xI a2)), (3, .int (xI a3))]) [0, 1, 2, 3] rfl ?_
  have h := h (fun (s0 : xSt) => GG p l e rmX3_add s m args below meth c (QV below D (cX aa cI cZ cJ) A args s Post) A D (cX aa cI cZ cJ) 4 s0 0 [(0, .ref (aa 15)), (1, .int (xI a1)), (2, .int (xI a2)), (3, .int (xI a3))] [])
  have h := h (by
    intro s0 h
    refine gg_aload_n hx hb 0 rfl rfl dX3_add_0 ?_
    refine gg_get (C := RX3) (T := TX3) (N := 3) hx hb hts hown hK iX3_add_X3 15 rfl rfl 2 (by decide) (List.mem_of_getElem? (i := 1) rfl) rfl dX3_add_1 ?_
    refine gg_iload_n hx hb 3 rfl rfl dX3_add_4 ?_
    refine gg_isub hx hb dX3_add_5 ?_
    refine gg_iconst hx hb dX3_add_6 ?_
    have h := h (GG p l e rmX3_add s m args below meth c (QV below D (cX aa cI cZ cJ) A args s Post) A D (cX aa cI cZ cJ) 4 s0 44 [(0, .ref (aa 15)), (1, .int (xI a1)), (2, .int (xI a2))] [])
    have h := h (by
      intro h
      refine gg_aload_n hx hb 0 rfl rfl dX3_add_44 ?_
      refine gg_get (C := RX3) (T := TX3) (N := 3) hx hb hts hown hK iX3_add_X3 15 rfl rfl 2 (by decide) (List.mem_of_getElem? (i := 1) rfl) rfl dX3_add_45 ?_
      refine gg_bipush hx hb dX3_add_48 rfl ?_
      refine gg_icmp_ge (tgt := 83) hx hb h.1 (by decide) dX3_add_50 rfl (fun c50 => ?_) (fun c50 => ?_)
      · have h := h.2.1 c50
        exact gg_vret hx hb hr hlk h dX3_add_83
      · have h := h.2.2 c50
        refine gg_aload_n hx hb 0 rfl rfl dX3_add_53 ?_
        refine gg_get (C := RX3) (T := TX3) (N := 3) hx hb hts hown hK iX3_add_X3 15 rfl rfl 0 (by decide) (List.mem_of_getElem? (i := 2) rfl) rfl dX3_add_54 ?_
        refine gg_aload_n hx hb 0 rfl rfl dX3_add_57 ?_
        refine gg_get (C := RX3) (T := TX3) (N := 3) hx hb hts hown hK iX3_add_X3 15 rfl rfl 2 (by decide) (List.mem_of_getElem? (i := 1) rfl) rfl dX3_add_58 ?_
        refine gg_iload_n hx hb 1 rfl rfl dX3_add_61 ?_
        refine gg_iast hx hb hK 16 0 rfl rfl (cX_st_16 aa cI cZ cJ _ _) (by decide) h.1 dX3_add_62 (fun σ_62 e62 => ?_)
        have h := h.2 σ_62 e62
        refine gg_aload_n hx hb 0 rfl rfl dX3_add_63 ?_
        refine gg_get (C := RX3) (T := TX3) (N := 3) hx hb hts hown hK iX3_add_X3 15 rfl rfl 1 (by decide) (List.mem_of_getElem? (i := 3) rfl) rfl dX3_add_64 ?_
        refine gg_aload_n hx hb 0 rfl rfl dX3_add_67 ?_
        refine gg_get (C := RX3) (T := TX3) (N := 3) hx hb hts hown hK iX3_add_X3 15 rfl rfl 2 (by decide) (List.mem_of_getElem? (i := 1) rfl) rfl dX3_add_68 ?_
        refine gg_iload_n hx hb 2 rfl rfl dX3_add_71 ?_
        refine gg_iast hx hb hK 17 0 rfl rfl (cX_st_17 aa cI cZ cJ _ _) (by decide) h.1 dX3_add_72 (fun σ_72 e72 => ?_)
        have h := h.2 σ_72 e72
        refine gg_aload_n hx hb 0 rfl rfl dX3_add_73 ?_
        refine gg_dup hx hb rfl dX3_add_74 ?_
        refine gg_get (C := RX3) (T := TX3) (N := 3) hx hb hts hown hK iX3_add_X3 15 rfl rfl 2 (by decide) (List.mem_of_getElem? (i := 1) rfl) rfl dX3_add_75 ?_
        refine gg_iconst hx hb dX3_add_78 ?_
        refine gg_iadd hx hb dX3_add_79 ?_
        refine gg_put (C := RX3) (T := TX3) (N := 3) hx hb hts hown hK iX3_add_X3 tyX3 tyX3_ok nmX3 15 rfl rfl 2 (by decide) (List.mem_of_getElem? (i := 1) rfl) rfl rfl (Nat.le_of_ble_eq_true rfl) (cX_set_15_2 aa cI cZ cJ _ _) dX3_add_80 (fun σ_80 e80 => ?_)
        have h := h σ_80 e80
        exact gg_vret hx hb hr hlk h dX3_add_83)
    refine gg_icmp_lt (tgt := 44) hx hb h.1 (by decide) dX3_add_7 rfl (fun c7 => ?_) (fun c7 => ?_)
    · have h := h.2.1 c7
      refine gg_lv [0, 1, 2] rfl ?_
      exact h
    · have h := h.2.2 c7
      refine gg_aload_n hx hb 0 rfl rfl dX3_add_10 ?_
      refine gg_aload_n hx hb 0 rfl rfl dX3_add_11 ?_
      refine gg_get (C := RX3) (T := TX3) (N := 3) hx hb hts hown hK iX3_add_X3 15 rfl rfl 2 (by decide) (List.mem_of_getElem? (i := 1) rfl) rfl dX3_add_12 ?_
      refine gg_iconst hx hb dX3_add_15 ?_
      refine gg_isub hx hb dX3_add_16 ?_
      refine gg_aload_n hx hb 0 rfl rfl dX3_add_17 ?_
      refine gg_get (C := RX3) (T := TX3) (N := 3) hx hb hts hown hK iX3_add_X3 15 rfl rfl 2 (by decide) (List.mem_of_getElem? (i := 1) rfl) rfl dX3_add_18 ?_
      refine gg_iconst hx hb dX3_add_21 ?_
      refine gg_isub hx hb dX3_add_22 ?_
      refine gg_iload_n hx hb 1 rfl rfl dX3_add_23 ?_
      refine gg_iload_n hx hb 2 rfl rfl dX3_add_24 ?_
      refine gg_callVip (As := [.int (xI ((s0 15 2) - 2)), .int (xI ((s0 15 2) - 1)), .int (xI a1), .int (xI a2)]) (rest := []) hx hb hml hown hts hK hZ hA (c_X3_side l D aa cI cZ cJ tR tU ((s0 15 2) - 2) ((s0 15 2) - 1) a1 a2 s0 _ h) (cwV 4 hts gX3_add_X3_side rfl rfl rfl hd_X3_side ⟨Nat.le_of_ble_eq_true rfl, Nat.le_of_ble_eq_true rfl⟩) 15 rfl rfl rfl rfl (Nat.le_of_ble_eq_true rfl) dX3_add_25 (fun r25 h => ?_)
      refine gg_if_gt (tgt := 44) hx hb h.1 dX3_add_28 rfl (fun c28 => ?_) (fun c28 => ?_)
      · have h := h.2.1 c28
        refine gg_lv [0, 1, 2] rfl ?_
        exact h
      · have h := h.2.2 c28
        refine gg_aload_n hx hb 0 rfl rfl dX3_add_31 ?_
        refine gg_dup hx hb rfl dX3_add_32 ?_
        refine gg_get (C := RX3) (T := TX3) (N := 3) hx hb hts hown hK iX3_add_X3 15 rfl rfl 2 (by decide) (List.mem_of_getElem? (i := 1) rfl) rfl dX3_add_33 ?_
        refine gg_iconst hx hb dX3_add_36 ?_
        refine gg_isub hx hb dX3_add_37 ?_
        refine gg_put (C := RX3) (T := TX3) (N := 3) hx hb hts hown hK iX3_add_X3 tyX3 tyX3_ok nmX3 15 rfl rfl 2 (by decide) (List.mem_of_getElem? (i := 1) rfl) rfl rfl (Nat.le_of_ble_eq_true rfl) (cX_set_15_2 aa cI cZ cJ _ _) dX3_add_38 (fun σ_38 e38 => ?_)
        have h := h σ_38 e38
        refine gg_goto (tgt := 0) hx hb dX3_add_41 rfl ?_
        exact h)
  exact h
abbrev rmX3_addLowest : Room := { frames := 4, cells := 0, slots := 0, locals := 84 }
theorem hd_X3_addLowest : (yX3_addLowest.cls = RX3 ∧ yX3_addLowest.cls ≠ "java/lang/invoke/MethodHandle" ∧ yX3_addLowest.cls ≠ "java/lang/invoke/VarHandle" ∧ (parseMethodDescriptor yX3_addLowest.desc).map (fun d => d.parameters.length) = some 2) := by decide +kernel
set_option maxRecDepth 100000 in
set_option maxHeartbeats 4000000 in
theorem c_X3_addLowest (l : Launch) (D : va_G) (aa : Nat → Nat) (cI cZ cJ : ClassId) (tR tU : Nat) (a2 : Int) (σ : xSt) (Post : xSt → Prop) (h : wp_X3_addLowest a2 σ Post) : MV l D (tyL cI cZ cJ) (cX aa cI cZ cJ) tR tU yX3_addLowest wsX3_addLowest rmX3_addLowest [.ref (aa 15), .ref (aa 7), .int (xI a2)] σ Post := by
  refine mv_of (cc := cX3_addLowest) (maxL := 4) (ret := none) (by decide) rfl (Nat.le_of_ble_eq_true rfl) ?_
  intro p e s m args below meth c A hF
  obtain ⟨hx, hb, hr, hml, hown, hts, hlk, hK, hZ, hA⟩ := hF
  have hown : s.vm.findClass RX3 = some m.cls := hown
  delta wp_X3_addLowest at h
  refine gg_lv (lv' := [(0, .ref (aa 15)), (1, .ref (aa 7)), (2, .int (xI a2))]) [0, 1, 2] rfl ?_
  refine gg_iconst hx hb dX3_addLowest_0 ?_
  refine gg_istore_n (lv' := [(3, .int (xI 0)), (0, .ref (aa 15)), (1, .ref (aa 7)), (2, .int (xI a2))]) hx hb rfl (by decide) rfl dX3_addLowest_1 ?_
  have h := h (fun (x3_2 : Int) => GG p l e rmX3_addLowest s m args below meth c (QV below D (cX aa cI cZ cJ) A args s Post) A D (cX aa cI cZ cJ) 4 σ 2 [(0, .ref (aa 15)), (1, .ref (aa 7)), (2, .int (xI a2)), (3, .int (xI x3_2))] [])
  have h := h (by
    intro x3_2 h
    refine gg_iload_n hx hb 3 rfl rfl dX3_addLowest_2 ?_
    refine gg_aload_n hx hb 1 rfl rfl dX3_addLowest_3 ?_
    refine gg_callVip (As := []) (rest := [.int (xI x3_2)]) hx hb hml hown hts hK hZ hA (c_X2_height l D aa cI cZ cJ tR tU σ _ h) (cwV 0 hts gX3_addLowest_X2_height rfl rfl rfl hd_X2_height ⟨Nat.le_of_ble_eq_true rfl, Nat.le_of_ble_eq_true rfl⟩) 7 rfl rfl rfl rfl (Nat.le_of_ble_eq_true rfl) dX3_addLowest_4 (fun r4 h => ?_)
    refine gg_icmp_ge (tgt := 33) hx hb h.1 h.2.1 dX3_addLowest_7 rfl (fun c7 => ?_) (fun c7 => ?_)
    · have h := h.2.2.1 c7
      exact gg_vret hx hb hr hlk h dX3_addLowest_33
    · have h := h.2.2.2 c7
      refine gg_aload_n hx hb 1 rfl rfl dX3_addLowest_10 ?_
      refine gg_iload_n hx hb 2 rfl rfl dX3_addLowest_11 ?_
      refine gg_iload_n hx hb 3 rfl rfl dX3_addLowest_12 ?_
      refine gg_callVip (As := [.int (xI a2), .int (xI x3_2)]) (rest := []) hx hb hml hown hts hK hZ hA (c_X2_holdsAt l D aa cI cZ cJ tR tU a2 x3_2 σ _ h) (cwV 2 hts gX3_addLowest_X2_holdsAt rfl rfl rfl hd_X2_holdsAt ⟨Nat.le_of_ble_eq_true rfl, Nat.le_of_ble_eq_true rfl⟩) 7 rfl rfl rfl rfl (Nat.le_of_ble_eq_true rfl) dX3_addLowest_13 (fun r13 h => ?_)
      refine gg_if_eq (tgt := 27) hx hb h.1 dX3_addLowest_16 rfl (fun c16 => ?_) (fun c16 => ?_)
      · have h := h.2.1 c16
        refine gg_iinc (lv' := [(3, .int (xI (x3_2 + 1))), (0, .ref (aa 15)), (1, .ref (aa 7)), (2, .int (xI a2))]) hx hb 3 rfl (by decide) rfl dX3_addLowest_27 ?_
        refine gg_goto (tgt := 2) hx hb dX3_addLowest_30 rfl ?_
        refine gg_lv [1, 2, 3, 0] rfl ?_
        exact h
      · have h := h.2.2 c16
        refine gg_aload_n hx hb 0 rfl rfl dX3_addLowest_19 ?_
        refine gg_iload_n hx hb 2 rfl rfl dX3_addLowest_20 ?_
        refine gg_iload_n hx hb 3 rfl rfl dX3_addLowest_21 ?_
        refine gg_iconst hx hb dX3_addLowest_22 ?_
        refine gg_callVv (As := [.int (xI a2), .int (xI x3_2), .int (xI 0)]) (rest := []) hx hb hml hown hts hK hZ hA (c_X3_add l D aa cI cZ cJ tR tU a2 x3_2 0 σ _ h) (cwV 3 hts gX3_addLowest_X3_add rfl rfl rfl hd_X3_add ⟨Nat.le_of_ble_eq_true rfl, Nat.le_of_ble_eq_true rfl⟩) 15 rfl rfl rfl rfl (Nat.le_of_ble_eq_true rfl) dX3_addLowest_23 (fun t23 h => ?_)
        exact gg_vret hx hb hr hlk h dX3_addLowest_26)
  refine gg_lv [1, 2, 3, 0] rfl ?_
  exact h
abbrev rmX3_addHighest : Room := { frames := 4, cells := 0, slots := 0, locals := 84 }
theorem hd_X3_addHighest : (yX3_addHighest.cls = RX3 ∧ yX3_addHighest.cls ≠ "java/lang/invoke/MethodHandle" ∧ yX3_addHighest.cls ≠ "java/lang/invoke/VarHandle" ∧ (parseMethodDescriptor yX3_addHighest.desc).map (fun d => d.parameters.length) = some 3) := by decide +kernel
set_option maxRecDepth 100000 in
set_option maxHeartbeats 4000000 in
theorem c_X3_addHighest (l : Launch) (D : va_G) (aa : Nat → Nat) (cI cZ cJ : ClassId) (tR tU : Nat) (a2 : Int) (a3 : Int) (σ : xSt) (Post : xSt → Prop) (h : wp_X3_addHighest a2 a3 σ Post) : MV l D (tyL cI cZ cJ) (cX aa cI cZ cJ) tR tU yX3_addHighest wsX3_addHighest rmX3_addHighest [.ref (aa 15), .ref (aa 7), .int (xI a2), .int (xI a3)] σ Post := by
  refine mv_of (cc := cX3_addHighest) (maxL := 5) (ret := none) (by decide) rfl (Nat.le_of_ble_eq_true rfl) ?_
  intro p e s m args below meth c A hF
  obtain ⟨hx, hb, hr, hml, hown, hts, hlk, hK, hZ, hA⟩ := hF
  have hown : s.vm.findClass RX3 = some m.cls := hown
  delta wp_X3_addHighest at h
  refine gg_lv (lv' := [(0, .ref (aa 15)), (1, .ref (aa 7)), (2, .int (xI a2)), (3, .int (xI a3))]) [0, 1, 2, 3] rfl ?_
  refine gg_aload_n hx hb 1 rfl rfl dX3_addHighest_0 ?_
  refine gg_callVip (As := []) (rest := []) hx hb hml hown hts hK hZ hA (c_X2_height l D aa cI cZ cJ tR tU σ _ h) (cwV 0 hts gX3_addHighest_X2_height rfl rfl rfl hd_X2_height ⟨Nat.le_of_ble_eq_true rfl, Nat.le_of_ble_eq_true rfl⟩) 7 rfl rfl rfl rfl (Nat.le_of_ble_eq_true rfl) dX3_addHighest_1 (fun r1 h => ?_)
  refine gg_iconst hx hb dX3_addHighest_4 ?_
  refine gg_isub hx hb dX3_addHighest_5 ?_
  refine gg_istore (lv' := [(4, .int (xI (r1 - 1))), (0, .ref (aa 15)), (1, .ref (aa 7)), (2, .int (xI a2)), (3, .int (xI a3))]) hx hb (by decide) rfl dX3_addHighest_6 ?_
  have h := h (fun (x4_8 : Int) => GG p l e rmX3_addHighest s m args below meth c (QV below D (cX aa cI cZ cJ) A args s Post) A D (cX aa cI cZ cJ) 5 σ 8 [(0, .ref (aa 15)), (1, .ref (aa 7)), (2, .int (xI a2)), (3, .int (xI a3)), (4, .int (xI x4_8))] [])
  have h := h (by
    intro x4_8 h
    refine gg_iload hx hb 4 rfl dX3_addHighest_8 ?_
    refine gg_if_lt (tgt := 38) hx hb h.1 dX3_addHighest_10 rfl (fun c10 => ?_) (fun c10 => ?_)
    · have h := h.2.1 c10
      exact gg_vret hx hb hr hlk h dX3_addHighest_38
    · have h := h.2.2 c10
      refine gg_aload_n hx hb 1 rfl rfl dX3_addHighest_13 ?_
      refine gg_iload_n hx hb 2 rfl rfl dX3_addHighest_14 ?_
      refine gg_iload hx hb 4 rfl dX3_addHighest_15 ?_
      refine gg_callVip (As := [.int (xI a2), .int (xI x4_8)]) (rest := []) hx hb hml hown hts hK hZ hA (c_X2_holdsAt l D aa cI cZ cJ tR tU a2 x4_8 σ _ h) (cwV 2 hts gX3_addHighest_X2_holdsAt rfl rfl rfl hd_X2_holdsAt ⟨Nat.le_of_ble_eq_true rfl, Nat.le_of_ble_eq_true rfl⟩) 7 rfl rfl rfl rfl (Nat.le_of_ble_eq_true rfl) dX3_addHighest_17 (fun r17 h => ?_)
      refine gg_if_eq (tgt := 32) hx hb h.1 dX3_addHighest_20 rfl (fun c20 => ?_) (fun c20 => ?_)
      · have h := h.2.1 c20
        refine gg_iinc (lv' := [(4, .int (xI (x4_8 + (-1)))), (0, .ref (aa 15)), (1, .ref (aa 7)), (2, .int (xI a2)), (3, .int (xI a3))]) hx hb 4 rfl (by decide) rfl dX3_addHighest_32 ?_
        refine gg_goto (tgt := 8) hx hb dX3_addHighest_35 rfl ?_
        refine gg_lv [1, 2, 3, 4, 0] rfl ?_
        exact h
      · have h := h.2.2 c20
        refine gg_aload_n hx hb 0 rfl rfl dX3_addHighest_23 ?_
        refine gg_iload_n hx hb 2 rfl rfl dX3_addHighest_24 ?_
        refine gg_iload hx hb 4 rfl dX3_addHighest_25 ?_
        refine gg_iload_n hx hb 3 rfl rfl dX3_addHighest_27 ?_
        refine gg_callVv (As := [.int (xI a2), .int (xI x4_8), .int (xI a3)]) (rest := []) hx hb hml hown hts hK hZ hA (c_X3_add l D aa cI cZ cJ tR tU a2 x4_8 a3 σ _ h) (cwV 3 hts gX3_addHighest_X3_add rfl rfl rfl hd_X3_add ⟨Nat.le_of_ble_eq_true rfl, Nat.le_of_ble_eq_true rfl⟩) 15 rfl rfl rfl rfl (Nat.le_of_ble_eq_true rfl) dX3_addHighest_28 (fun t28 h => ?_)
        exact gg_vret hx hb hr hlk h dX3_addHighest_31)
  refine gg_lv [1, 2, 3, 4, 0] rfl ?_
  exact h
abbrev rmX3_wrap : Room := { frames := 5, cells := 0, slots := 0, locals := 108 }
theorem iX3_wrap_X3 : ∀ w ∈ u_ws RX3 TX3 3, w ∈ wsX3_wrap := (fun _ h => List.mem_cons_of_mem _ (List.mem_append_left _ (List.mem_append_right _ h)))
theorem hd_X3_wrap : (yX3_wrap.cls = RX3 ∧ yX3_wrap.cls ≠ "java/lang/invoke/MethodHandle" ∧ yX3_wrap.cls ≠ "java/lang/invoke/VarHandle" ∧ (parseMethodDescriptor yX3_wrap.desc).map (fun d => d.parameters.length) = some 1) := by decide +kernel
set_option maxRecDepth 100000 in
set_option maxHeartbeats 4000000 in
theorem c_X3_wrap (l : Launch) (D : va_G) (aa : Nat → Nat) (cI cZ cJ : ClassId) (tR tU : Nat) (σ : xSt) (Post : xSt → Prop) (h : wp_X3_wrap σ Post) : MV l D (tyL cI cZ cJ) (cX aa cI cZ cJ) tR tU yX3_wrap wsX3_wrap rmX3_wrap [.ref (aa 15), .ref (aa 7)] σ Post := by
  refine mv_of (cc := cX3_wrap) (maxL := 4) (ret := none) (by decide) rfl (Nat.le_of_ble_eq_true rfl) ?_
  intro p e s m args below meth c A hF
  obtain ⟨hx, hb, hr, hml, hown, hts, hlk, hK, hZ, hA⟩ := hF
  have hown : s.vm.findClass RX3 = some m.cls := hown
  delta wp_X3_wrap at h
  refine gg_lv (lv' := [(0, .ref (aa 15)), (1, .ref (aa 7))]) [0, 1] rfl ?_
  refine gg_aload_n hx hb 0 rfl rfl dX3_wrap_0 ?_
  refine gg_iconst hx hb dX3_wrap_1 ?_
  refine gg_put (C := RX3) (T := TX3) (N := 3) hx hb hts hown hK iX3_wrap_X3 tyX3 tyX3_ok nmX3 15 rfl rfl 2 (by decide) (List.mem_of_getElem? (i := 1) rfl) rfl rfl (Nat.le_of_ble_eq_true rfl) (cX_set_15_2 aa cI cZ cJ _ _) dX3_wrap_2 (fun σ_2 e2 => ?_)
  have h := h σ_2 e2
  refine gg_iconst hx hb dX3_wrap_5 ?_
  refine gg_istore_n (lv' := [(2, .int (xI 0)), (0, .ref (aa 15)), (1, .ref (aa 7))]) hx hb rfl (by decide) rfl dX3_wrap_6 ?_
  have h := h (fun (x2_7 : Int) (s7 : xSt) => GG p l e rmX3_wrap s m args below meth c (QV below D (cX aa cI cZ cJ) A args s Post) A D (cX aa cI cZ cJ) 4 s7 7 [(0, .ref (aa 15)), (1, .ref (aa 7)), (2, .int (xI x2_7))] [])
  have h := h (by
    intro x2_7 s7 h
    refine gg_iload_n hx hb 2 rfl rfl dX3_wrap_7 ?_
    refine gg_aload_n hx hb 1 rfl rfl dX3_wrap_8 ?_
    refine gg_callVip (As := []) (rest := [.int (xI x2_7)]) hx hb hml hown hts hK hZ hA (c_X2_width l D aa cI cZ cJ tR tU s7 _ h) (cwV 0 hts gX3_wrap_X2_width rfl rfl rfl hd_X2_width ⟨Nat.le_of_ble_eq_true rfl, Nat.le_of_ble_eq_true rfl⟩) 7 rfl rfl rfl rfl (Nat.le_of_ble_eq_true rfl) dX3_wrap_9 (fun r9 h => ?_)
    refine gg_icmp_ge (tgt := 27) hx hb h.1 h.2.1 dX3_wrap_12 rfl (fun c12 => ?_) (fun c12 => ?_)
    · have h := h.2.2.1 c12
      refine gg_aload_n hx hb 0 rfl rfl dX3_wrap_27 ?_
      refine gg_get (C := RX3) (T := TX3) (N := 3) hx hb hts hown hK iX3_wrap_X3 15 rfl rfl 2 (by decide) (List.mem_of_getElem? (i := 1) rfl) rfl dX3_wrap_28 ?_
      refine gg_iconst hx hb dX3_wrap_31 ?_
      refine gg_isub hx hb dX3_wrap_32 ?_
      refine gg_iconst hx hb dX3_wrap_33 ?_
      refine gg_mmax hx hb hml hown hts h.1 h.2.1 (List.mem_of_getElem? (i := 2) rfl) (List.mem_of_getElem? (i := 3) rfl) (List.mem_of_getElem? (i := 4) rfl) (List.mem_of_getElem? (i := 5) rfl) (Nat.le_of_ble_eq_true rfl) (Nat.le_of_ble_eq_true rfl) dX3_wrap_34 ?_
      have h := h.2.2
      refine gg_istore_n (lv' := [(2, .int (xI (xMax ((s7 15 2) - 1) 0))), (0, .ref (aa 15)), (1, .ref (aa 7))]) hx hb rfl (by decide) rfl dX3_wrap_37 ?_
      refine gg_aload_n hx hb 2 rfl rfl dX3_wrap_38 ?_
      refine gg_callVip (As := []) (rest := []) hx hb hml hown hts hK hZ hA (c_X2_width l D aa cI cZ cJ tR tU s7 _ h) (cwV 0 hts gX3_wrap_X2_width rfl rfl rfl hd_X2_width ⟨Nat.le_of_ble_eq_true rfl, Nat.le_of_ble_eq_true rfl⟩) 7 rfl rfl rfl rfl (Nat.le_of_ble_eq_true rfl) dX3_wrap_39 (fun r39 h => ?_)
      refine gg_iconst hx hb dX3_wrap_42 ?_
      refine gg_isub hx hb dX3_wrap_43 ?_
      refine gg_istore_n (lv' := [(3, .int (xI (r39 - 1))), (2, .int (xI (xMax ((s7 15 2) - 1) 0))), (0, .ref (aa 15)), (1, .ref (aa 7))]) hx hb rfl (by decide) rfl dX3_wrap_44 ?_
      have h := h (fun (x3_45 : Int) (s45 : xSt) => GG p l e rmX3_wrap s m args below meth c (QV below D (cX aa cI cZ cJ) A args s Post) A D (cX aa cI cZ cJ) 4 s45 45 [(0, .ref (aa 15)), (1, .ref (aa 7)), (2, .int (xI (xMax ((s7 15 2) - 1) 0))), (3, .int (xI x3_45))] [])
      have h := h (by
        intro x3_45 s45 h
        refine gg_iload_n hx hb 3 rfl rfl dX3_wrap_45 ?_
        refine gg_if_lt (tgt := 62) hx hb h.1 dX3_wrap_46 rfl (fun c46 => ?_) (fun c46 => ?_)
        · have h := h.2.1 c46
          refine gg_aload_n hx hb 0 rfl rfl dX3_wrap_62 ?_
          refine gg_get (C := RX3) (T := TX3) (N := 3) hx hb hts hown hK iX3_wrap_X3 15 rfl rfl 2 (by decide) (List.mem_of_getElem? (i := 1) rfl) rfl dX3_wrap_63 ?_
          refine gg_iconst hx hb dX3_wrap_66 ?_
          refine gg_icmp_le (tgt := 120) hx hb h.1 (by decide) dX3_wrap_67 rfl (fun c67 => ?_) (fun c67 => ?_)
          · have h := h.2.1 c67
            exact gg_vret hx hb hr hlk h dX3_wrap_120
          · have h := h.2.2 c67
            refine gg_aload_n hx hb 0 rfl rfl dX3_wrap_70 ?_
            refine gg_get (C := RX3) (T := TX3) (N := 3) hx hb hts hown hK iX3_wrap_X3 15 rfl rfl 0 (by decide) (List.mem_of_getElem? (i := 6) rfl) rfl dX3_wrap_71 ?_
            refine gg_aload_n hx hb 0 rfl rfl dX3_wrap_74 ?_
            refine gg_get (C := RX3) (T := TX3) (N := 3) hx hb hts hown hK iX3_wrap_X3 15 rfl rfl 2 (by decide) (List.mem_of_getElem? (i := 1) rfl) rfl dX3_wrap_75 ?_
            refine gg_iconst hx hb dX3_wrap_78 ?_
            refine gg_isub hx hb dX3_wrap_79 ?_
            refine gg_iald hx hb hK 16 0 rfl rfl (by decide) h.1 dX3_wrap_80 ?_
            have h := h.2
            refine gg_aload_n hx hb 0 rfl rfl dX3_wrap_81 ?_
            refine gg_get (C := RX3) (T := TX3) (N := 3) hx hb hts hown hK iX3_wrap_X3 15 rfl rfl 0 (by decide) (List.mem_of_getElem? (i := 6) rfl) rfl dX3_wrap_82 ?_
            refine gg_iconst hx hb dX3_wrap_85 ?_
            refine gg_iald hx hb hK 16 0 rfl rfl (by decide) (by decide) dX3_wrap_86 ?_
            refine gg_icmp_ne (tgt := 120) hx hb h.1 h.2.1 dX3_wrap_87 rfl (fun c87 => ?_) (fun c87 => ?_)
            · have h := h.2.2.1 c87
              exact gg_vret hx hb hr hlk h dX3_wrap_120
            · have h := h.2.2.2 c87
              refine gg_aload_n hx hb 0 rfl rfl dX3_wrap_90 ?_
              refine gg_get (C := RX3) (T := TX3) (N := 3) hx hb hts hown hK iX3_wrap_X3 15 rfl rfl 1 (by decide) (List.mem_of_getElem? (i := 7) rfl) rfl dX3_wrap_91 ?_
              refine gg_aload_n hx hb 0 rfl rfl dX3_wrap_94 ?_
              refine gg_get (C := RX3) (T := TX3) (N := 3) hx hb hts hown hK iX3_wrap_X3 15 rfl rfl 2 (by decide) (List.mem_of_getElem? (i := 1) rfl) rfl dX3_wrap_95 ?_
              refine gg_iconst hx hb dX3_wrap_98 ?_
              refine gg_isub hx hb dX3_wrap_99 ?_
              refine gg_iald hx hb hK 17 0 rfl rfl (by decide) h.1 dX3_wrap_100 ?_
              have h := h.2
              refine gg_aload_n hx hb 0 rfl rfl dX3_wrap_101 ?_
              refine gg_get (C := RX3) (T := TX3) (N := 3) hx hb hts hown hK iX3_wrap_X3 15 rfl rfl 1 (by decide) (List.mem_of_getElem? (i := 7) rfl) rfl dX3_wrap_102 ?_
              refine gg_iconst hx hb dX3_wrap_105 ?_
              refine gg_iald hx hb hK 17 0 rfl rfl (by decide) (by decide) dX3_wrap_106 ?_
              refine gg_icmp_ne (tgt := 120) hx hb h.1 h.2.1 dX3_wrap_107 rfl (fun c107 => ?_) (fun c107 => ?_)
              · have h := h.2.2.1 c107
                exact gg_vret hx hb hr hlk h dX3_wrap_120
              · have h := h.2.2.2 c107
                refine gg_aload_n hx hb 0 rfl rfl dX3_wrap_110 ?_
                refine gg_dup hx hb rfl dX3_wrap_111 ?_
                refine gg_get (C := RX3) (T := TX3) (N := 3) hx hb hts hown hK iX3_wrap_X3 15 rfl rfl 2 (by decide) (List.mem_of_getElem? (i := 1) rfl) rfl dX3_wrap_112 ?_
                refine gg_iconst hx hb dX3_wrap_115 ?_
                refine gg_isub hx hb dX3_wrap_116 ?_
                refine gg_put (C := RX3) (T := TX3) (N := 3) hx hb hts hown hK iX3_wrap_X3 tyX3 tyX3_ok nmX3 15 rfl rfl 2 (by decide) (List.mem_of_getElem? (i := 1) rfl) rfl rfl (Nat.le_of_ble_eq_true rfl) (cX_set_15_2 aa cI cZ cJ _ _) dX3_wrap_117 (fun σ_117 e117 => ?_)
                have h := h σ_117 e117
                exact gg_vret hx hb hr hlk h dX3_wrap_120
        · have h := h.2.2 c46
          refine gg_aload_n hx hb 0 rfl rfl dX3_wrap_49 ?_
          refine gg_aload_n hx hb 1 rfl rfl dX3_wrap_50 ?_
          refine gg_iload_n hx hb 3 rfl rfl dX3_wrap_51 ?_
          refine gg_iload_n hx hb 2 rfl rfl dX3_wrap_52 ?_
          refine gg_callVv (As := [.ref (aa 7), .int (xI x3_45), .int (xI (xMax ((s7 15 2) - 1) 0))]) (rest := []) hx hb hml hown hts hK hZ hA (c_X3_addHighest l D aa cI cZ cJ tR tU x3_45 (xMax ((s7 15 2) - 1) 0) s45 _ h) (cwV 3 hts gX3_wrap_X3_addHighest rfl rfl rfl hd_X3_addHighest ⟨Nat.le_of_ble_eq_true rfl, Nat.le_of_ble_eq_true rfl⟩) 15 rfl rfl rfl rfl (Nat.le_of_ble_eq_true rfl) dX3_wrap_53 (fun t53 h => ?_)
          refine gg_iinc (lv' := [(3, .int (xI (x3_45 + (-1)))), (0, .ref (aa 15)), (1, .ref (aa 7)), (2, .int (xI (xMax ((s7 15 2) - 1) 0)))]) hx hb 3 rfl (by decide) rfl dX3_wrap_56 ?_
          refine gg_goto (tgt := 45) hx hb dX3_wrap_59 rfl ?_
          refine gg_lv [1, 2, 3, 0] rfl ?_
          exact h)
      refine gg_lv [2, 3, 1, 0] rfl ?_
      exact h
    · have h := h.2.2.2 c12
      refine gg_aload_n hx hb 0 rfl rfl dX3_wrap_15 ?_
      refine gg_aload_n hx hb 1 rfl rfl dX3_wrap_16 ?_
      refine gg_iload_n hx hb 2 rfl rfl dX3_wrap_17 ?_
      refine gg_callVv (As := [.ref (aa 7), .int (xI x2_7)]) (rest := []) hx hb hml hown hts hK hZ hA (c_X3_addLowest l D aa cI cZ cJ tR tU x2_7 s7 _ h) (cwV 2 hts gX3_wrap_X3_addLowest rfl rfl rfl hd_X3_addLowest ⟨Nat.le_of_ble_eq_true rfl, Nat.le_of_ble_eq_true rfl⟩) 15 rfl rfl rfl rfl (Nat.le_of_ble_eq_true rfl) dX3_wrap_18 (fun t18 h => ?_)
      refine gg_iinc (lv' := [(2, .int (xI (x2_7 + 1))), (0, .ref (aa 15)), (1, .ref (aa 7))]) hx hb 2 rfl (by decide) rfl dX3_wrap_21 ?_
      refine gg_goto (tgt := 7) hx hb dX3_wrap_24 rfl ?_
      refine gg_lv [1, 2, 0] rfl ?_
      exact h)
  refine gg_lv [1, 2, 0] rfl ?_
  exact h
abbrev rmX3_inBox : Room := { frames := 0, cells := 0, slots := 0, locals := 0 }
theorem iX3_inBox_X3 : ∀ w ∈ u_ws RX3 TX3 3, w ∈ wsX3_inBox := (fun _ h => List.mem_cons_of_mem _ (List.mem_append_right _ h))
theorem hd_X3_inBox : (yX3_inBox.cls = RX3 ∧ yX3_inBox.cls ≠ "java/lang/invoke/MethodHandle" ∧ yX3_inBox.cls ≠ "java/lang/invoke/VarHandle" ∧ (parseMethodDescriptor yX3_inBox.desc).map (fun d => d.parameters.length) = some 2) := by decide +kernel
set_option maxRecDepth 100000 in
set_option maxHeartbeats 4000000 in
theorem c_X3_inBox (l : Launch) (D : va_G) (aa : Nat → Nat) (cI cZ cJ : ClassId) (tR tU : Nat) (a1 : Int) (a2 : Int) (σ : xSt) (Post : Int → Prop) (h : wp_X3_inBox a1 a2 σ Post) : MI l D (tyL cI cZ cJ) (cX aa cI cZ cJ) tR tU yX3_inBox wsX3_inBox rmX3_inBox [.ref (aa 15), .int (xI a1), .int (xI a2)] σ (fun r9 σ9 => σ9 = σ ∧ Post r9) := by
  refine mi_of (cc := cX3_inBox) (maxL := 8) (ret := (some .boolean)) (by decide) rfl (Nat.le_of_ble_eq_true rfl) ?_
  intro p e s m args below meth c A hF
  obtain ⟨hx, hb, hr, hml, hown, hts, hlk, hK, hZ, hA⟩ := hF
  have hown : s.vm.findClass RX3 = some m.cls := hown
  delta wp_X3_inBox at h
  refine gg_lv (lv' := [(0, .ref (aa 15)), (1, .int (xI a1)), (2, .int (xI a2))]) [0, 1, 2] rfl ?_
  refine gg_iconst hx hb dX3_inBox_0 ?_
  refine gg_istore_n (lv' := [(3, .int (xI 0)), (0, .ref (aa 15)), (1, .int (xI a1)), (2, .int (xI a2))]) hx hb rfl (by decide) rfl dX3_inBox_1 ?_
  refine gg_iconst hx hb dX3_inBox_2 ?_
  refine gg_istore (lv' := [(4, .int (xI 0)), (3, .int (xI 0)), (0, .ref (aa 15)), (1, .int (xI a1)), (2, .int (xI a2))]) hx hb (by decide) rfl dX3_inBox_3 ?_
  refine gg_iconst hx hb dX3_inBox_5 ?_
  refine gg_istore (lv' := [(5, .int (xI 0)), (4, .int (xI 0)), (3, .int (xI 0)), (0, .ref (aa 15)), (1, .int (xI a1)), (2, .int (xI a2))]) hx hb (by decide) rfl dX3_inBox_6 ?_
  refine gg_iconst hx hb dX3_inBox_8 ?_
  refine gg_istore (lv' := [(6, .int (xI 0)), (5, .int (xI 0)), (4, .int (xI 0)), (3, .int (xI 0)), (0, .ref (aa 15)), (1, .int (xI a1)), (2, .int (xI a2))]) hx hb (by decide) rfl dX3_inBox_9 ?_
  refine gg_iconst hx hb dX3_inBox_11 ?_
  refine gg_istore (lv' := [(7, .int (xI 0)), (6, .int (xI 0)), (5, .int (xI 0)), (4, .int (xI 0)), (3, .int (xI 0)), (0, .ref (aa 15)), (1, .int (xI a1)), (2, .int (xI a2))]) hx hb (by decide) rfl dX3_inBox_12 ?_
  have h := h (fun (x3_14 x4_14 x5_14 x6_14 x7_14 : Int) => GG p l e rmX3_inBox s m args below meth c (QI below D (cX aa cI cZ cJ) A args s (fun r9 σ9 => σ9 = σ ∧ Post r9)) A D (cX aa cI cZ cJ) 8 σ 14 [(0, .ref (aa 15)), (1, .int (xI a1)), (2, .int (xI a2)), (3, .int (xI x3_14)), (4, .int (xI x4_14)), (5, .int (xI x5_14)), (6, .int (xI x6_14)), (7, .int (xI x7_14))] [])
  have h := h (by
    intro x3_14 x4_14 x5_14 x6_14 x7_14 h
    refine gg_iload hx hb 7 rfl dX3_inBox_14 ?_
    refine gg_aload_n hx hb 0 rfl rfl dX3_inBox_16 ?_
    refine gg_get (C := RX3) (T := TX3) (N := 3) hx hb hts hown hK iX3_inBox_X3 15 rfl rfl 2 (by decide) (List.mem_of_getElem? (i := 1) rfl) rfl dX3_inBox_17 ?_
    refine gg_icmp_ge (tgt := 119) hx hb h.1 h.2.1 dX3_inBox_20 rfl (fun c20 => ?_) (fun c20 => ?_)
    · have h := h.2.2.1 c20
      refine gg_iload_n hx hb 3 rfl rfl dX3_inBox_119 ?_
      refine gg_if_eq (tgt := 142) hx hb h.1 dX3_inBox_120 rfl (fun c120 => ?_) (fun c120 => ?_)
      · have h := h.2.1 c120
        refine gg_iconst hx hb dX3_inBox_142 ?_
        exact gg_zret hx hb hr hlk (Or.inl rfl) ⟨rfl, h⟩ dX3_inBox_143
      · have h := h.2.2 c120
        refine gg_iload hx hb 4 rfl dX3_inBox_123 ?_
        refine gg_if_eq (tgt := 142) hx hb h.1 dX3_inBox_125 rfl (fun c125 => ?_) (fun c125 => ?_)
        · have h := h.2.1 c125
          refine gg_iconst hx hb dX3_inBox_142 ?_
          exact gg_zret hx hb hr hlk (Or.inl rfl) ⟨rfl, h⟩ dX3_inBox_143
        · have h := h.2.2 c125
          refine gg_iload hx hb 5 rfl dX3_inBox_128 ?_
          refine gg_if_eq (tgt := 142) hx hb h.1 dX3_inBox_130 rfl (fun c130 => ?_) (fun c130 => ?_)
          · have h := h.2.1 c130
            refine gg_iconst hx hb dX3_inBox_142 ?_
            exact gg_zret hx hb hr hlk (Or.inl rfl) ⟨rfl, h⟩ dX3_inBox_143
          · have h := h.2.2 c130
            refine gg_iload hx hb 6 rfl dX3_inBox_133 ?_
            refine gg_if_eq (tgt := 142) hx hb h.1 dX3_inBox_135 rfl (fun c135 => ?_) (fun c135 => ?_)
            · have h := h.2.1 c135
              refine gg_iconst hx hb dX3_inBox_142 ?_
              exact gg_zret hx hb hr hlk (Or.inl rfl) ⟨rfl, h⟩ dX3_inBox_143
            · have h := h.2.2 c135
              refine gg_iconst hx hb dX3_inBox_138 ?_
              refine gg_goto (tgt := 143) hx hb dX3_inBox_139 rfl ?_
              exact gg_zret hx hb hr hlk (Or.inr rfl) ⟨rfl, h⟩ dX3_inBox_143
    · have h := h.2.2.2 c20
      refine gg_iload_n hx hb 3 rfl rfl dX3_inBox_23 ?_
      have h := h (fun (y0_43 : Int) => GG p l e rmX3_inBox s m args below meth c (QI below D (cX aa cI cZ cJ) A args s (fun r9 σ9 => σ9 = σ ∧ Post r9)) A D (cX aa cI cZ cJ) 8 σ 43 [(0, .ref (aa 15)), (1, .int (xI a1)), (2, .int (xI a2)), (4, .int (xI x4_14)), (5, .int (xI x5_14)), (6, .int (xI x6_14)), (7, .int (xI x7_14))] [.int (xI y0_43)])
      have h := h (by
        intro y0_43 h
        refine gg_istore_n (lv' := [(3, .int (xI y0_43)), (0, .ref (aa 15)), (1, .int (xI a1)), (2, .int (xI a2)), (4, .int (xI x4_14)), (5, .int (xI x5_14)), (6, .int (xI x6_14)), (7, .int (xI x7_14))]) hx hb rfl (by decide) rfl dX3_inBox_43 ?_
        refine gg_iload hx hb 4 rfl dX3_inBox_44 ?_
        have h := h (fun (y0_65 : Int) => GG p l e rmX3_inBox s m args below meth c (QI below D (cX aa cI cZ cJ) A args s (fun r9 σ9 => σ9 = σ ∧ Post r9)) A D (cX aa cI cZ cJ) 8 σ 65 [(0, .ref (aa 15)), (1, .int (xI a1)), (2, .int (xI a2)), (3, .int (xI y0_43)), (5, .int (xI x5_14)), (6, .int (xI x6_14)), (7, .int (xI x7_14))] [.int (xI y0_65)])
        have h := h (by
          intro y0_65 h
          refine gg_istore (lv' := [(4, .int (xI y0_65)), (0, .ref (aa 15)), (1, .int (xI a1)), (2, .int (xI a2)), (3, .int (xI y0_43)), (5, .int (xI x5_14)), (6, .int (xI x6_14)), (7, .int (xI x7_14))]) hx hb (by decide) rfl dX3_inBox_65 ?_
          refine gg_iload hx hb 5 rfl dX3_inBox_67 ?_
          have h := h (fun (y0_88 : Int) => GG p l e rmX3_inBox s m args below meth c (QI below D (cX aa cI cZ cJ) A args s (fun r9 σ9 => σ9 = σ ∧ Post r9)) A D (cX aa cI cZ cJ) 8 σ 88 [(0, .ref (aa 15)), (1, .int (xI a1)), (2, .int (xI a2)), (3, .int (xI y0_43)), (4, .int (xI y0_65)), (6, .int (xI x6_14)), (7, .int (xI x7_14))] [.int (xI y0_88)])
          have h := h (by
            intro y0_88 h
            refine gg_istore (lv' := [(5, .int (xI y0_88)), (0, .ref (aa 15)), (1, .int (xI a1)), (2, .int (xI a2)), (3, .int (xI y0_43)), (4, .int (xI y0_65)), (6, .int (xI x6_14)), (7, .int (xI x7_14))]) hx hb (by decide) rfl dX3_inBox_88 ?_
            refine gg_iload hx hb 6 rfl dX3_inBox_90 ?_
            refine gg_if_ne (tgt := 106) hx hb h.1 dX3_inBox_92 rfl (fun c92 => ?_) (fun c92 => ?_)
            · have h := h.2.1 c92
              refine gg_iconst hx hb dX3_inBox_106 ?_
              refine gg_goto (tgt := 111) hx hb dX3_inBox_107 rfl ?_
              refine gg_istore (lv' := [(6, .int (xI 1)), (5, .int (xI y0_88)), (0, .ref (aa 15)), (1, .int (xI a1)), (2, .int (xI a2)), (3, .int (xI y0_43)), (4, .int (xI y0_65)), (7, .int (xI x7_14))]) hx hb (by decide) rfl dX3_inBox_111 ?_
              refine gg_iinc (lv' := [(7, .int (xI (x7_14 + 1))), (6, .int (xI 1)), (5, .int (xI y0_88)), (0, .ref (aa 15)), (1, .int (xI a1)), (2, .int (xI a2)), (3, .int (xI y0_43)), (4, .int (xI y0_65))]) hx hb 7 rfl (by decide) rfl dX3_inBox_113 ?_
              refine gg_goto (tgt := 14) hx hb dX3_inBox_116 rfl ?_
              refine gg_lv [3, 4, 5, 6, 7, 2, 1, 0] rfl ?_
              exact h
            · have h := h.2.2 c92
              refine gg_iload_n hx hb 3 rfl rfl dX3_inBox_95 ?_
              refine gg_aload_n hx hb 1 rfl rfl dX3_inBox_96 ?_
              refine gg_get (C := RX3) (T := TX3) (N := 3) hx hb hts hown hK iX3_inBox_X3 15 rfl rfl 1 (by decide) (List.mem_of_getElem? (i := 3) rfl) rfl dX3_inBox_97 ?_
              refine gg_iload hx hb 7 rfl dX3_inBox_100 ?_
              refine gg_iald hx hb hK 17 0 rfl rfl (by decide) h.1 dX3_inBox_102 ?_
              have h := h.2
              refine gg_icmp_gt (tgt := 110) hx hb h.1 h.2.1 dX3_inBox_103 rfl (fun c103 => ?_) (fun c103 => ?_)
              · have h := h.2.2.1 c103
                refine gg_iconst hx hb dX3_inBox_110 ?_
                refine gg_istore (lv' := [(6, .int (xI 0)), (5, .int (xI y0_88)), (0, .ref (aa 15)), (1, .int (xI a1)), (2, .int (xI a2)), (3, .int (xI y0_43)), (4, .int (xI y0_65)), (7, .int (xI x7_14))]) hx hb (by decide) rfl dX3_inBox_111 ?_
                refine gg_iinc (lv' := [(7, .int (xI (x7_14 + 1))), (6, .int (xI 0)), (5, .int (xI y0_88)), (0, .ref (aa 15)), (1, .int (xI a1)), (2, .int (xI a2)), (3, .int (xI y0_43)), (4, .int (xI y0_65))]) hx hb 7 rfl (by decide) rfl dX3_inBox_113 ?_
                refine gg_goto (tgt := 14) hx hb dX3_inBox_116 rfl ?_
                refine gg_lv [3, 4, 5, 6, 7, 2, 1, 0] rfl ?_
                exact h
              · have h := h.2.2.2 c103
                refine gg_iconst hx hb dX3_inBox_106 ?_
                refine gg_goto (tgt := 111) hx hb dX3_inBox_107 rfl ?_
                refine gg_istore (lv' := [(6, .int (xI 1)), (5, .int (xI y0_88)), (0, .ref (aa 15)), (1, .int (xI a1)), (2, .int (xI a2)), (3, .int (xI y0_43)), (4, .int (xI y0_65)), (7, .int (xI x7_14))]) hx hb (by decide) rfl dX3_inBox_111 ?_
                refine gg_iinc (lv' := [(7, .int (xI (x7_14 + 1))), (6, .int (xI 1)), (5, .int (xI y0_88)), (0, .ref (aa 15)), (1, .int (xI a1)), (2, .int (xI a2)), (3, .int (xI y0_43)), (4, .int (xI y0_65))]) hx hb 7 rfl (by decide) rfl dX3_inBox_113 ?_
                refine gg_goto (tgt := 14) hx hb dX3_inBox_116 rfl ?_
                refine gg_lv [3, 4, 5, 6, 7, 2, 1, 0] rfl ?_
                exact h)
          refine gg_if_ne (tgt := 83) hx hb h.1 dX3_inBox_69 rfl (fun c69 => ?_) (fun c69 => ?_)
          · have h := h.2.1 c69
            refine gg_iconst hx hb dX3_inBox_83 ?_
            refine gg_goto (tgt := 88) hx hb dX3_inBox_84 rfl ?_
            refine gg_lv [1, 2, 3, 4, 0, 6, 7] rfl ?_
            exact h
          · have h := h.2.2 c69
            refine gg_iload_n hx hb 3 rfl rfl dX3_inBox_72 ?_
            refine gg_aload_n hx hb 1 rfl rfl dX3_inBox_73 ?_
            refine gg_get (C := RX3) (T := TX3) (N := 3) hx hb hts hown hK iX3_inBox_X3 15 rfl rfl 1 (by decide) (List.mem_of_getElem? (i := 3) rfl) rfl dX3_inBox_74 ?_
            refine gg_iload hx hb 7 rfl dX3_inBox_77 ?_
            refine gg_iald hx hb hK 17 0 rfl rfl (by decide) h.1 dX3_inBox_79 ?_
            have h := h.2
            refine gg_icmp_lt (tgt := 87) hx hb h.1 h.2.1 dX3_inBox_80 rfl (fun c80 => ?_) (fun c80 => ?_)
            · have h := h.2.2.1 c80
              refine gg_iconst hx hb dX3_inBox_87 ?_
              refine gg_lv [1, 2, 3, 4, 0, 6, 7] rfl ?_
              exact h
            · have h := h.2.2.2 c80
              refine gg_iconst hx hb dX3_inBox_83 ?_
              refine gg_goto (tgt := 88) hx hb dX3_inBox_84 rfl ?_
              refine gg_lv [1, 2, 3, 4, 0, 6, 7] rfl ?_
              exact h)
        refine gg_if_ne (tgt := 60) hx hb h.1 dX3_inBox_46 rfl (fun c46 => ?_) (fun c46 => ?_)
        · have h := h.2.1 c46
          refine gg_iconst hx hb dX3_inBox_60 ?_
          refine gg_goto (tgt := 65) hx hb dX3_inBox_61 rfl ?_
          refine gg_lv [1, 2, 3, 0, 5, 6, 7] rfl ?_
          exact h
        · have h := h.2.2 c46
          refine gg_iload_n hx hb 2 rfl rfl dX3_inBox_49 ?_
          refine gg_aload_n hx hb 1 rfl rfl dX3_inBox_50 ?_
          refine gg_get (C := RX3) (T := TX3) (N := 3) hx hb hts hown hK iX3_inBox_X3 15 rfl rfl 0 (by decide) (List.mem_of_getElem? (i := 2) rfl) rfl dX3_inBox_51 ?_
          refine gg_iload hx hb 7 rfl dX3_inBox_54 ?_
          refine gg_iald hx hb hK 16 0 rfl rfl (by decide) h.1 dX3_inBox_56 ?_
          have h := h.2
          refine gg_icmp_gt (tgt := 64) hx hb h.1 h.2.1 dX3_inBox_57 rfl (fun c57 => ?_) (fun c57 => ?_)
          · have h := h.2.2.1 c57
            refine gg_iconst hx hb dX3_inBox_64 ?_
            refine gg_lv [1, 2, 3, 0, 5, 6, 7] rfl ?_
            exact h
          · have h := h.2.2.2 c57
            refine gg_iconst hx hb dX3_inBox_60 ?_
            refine gg_goto (tgt := 65) hx hb dX3_inBox_61 rfl ?_
            refine gg_lv [1, 2, 3, 0, 5, 6, 7] rfl ?_
            exact h)
      refine gg_if_ne (tgt := 38) hx hb h.1 dX3_inBox_24 rfl (fun c24 => ?_) (fun c24 => ?_)
      · have h := h.2.1 c24
        refine gg_iconst hx hb dX3_inBox_38 ?_
        refine gg_goto (tgt := 43) hx hb dX3_inBox_39 rfl ?_
        refine gg_lv [0, 1, 2, 4, 5, 6, 7] rfl ?_
        exact h
      · have h := h.2.2 c24
        refine gg_iload_n hx hb 1 rfl rfl dX3_inBox_27 ?_
        refine gg_aload_n hx hb 0 rfl rfl dX3_inBox_28 ?_
        refine gg_get (C := RX3) (T := TX3) (N := 3) hx hb hts hown hK iX3_inBox_X3 15 rfl rfl 0 (by decide) (List.mem_of_getElem? (i := 2) rfl) rfl dX3_inBox_29 ?_
        refine gg_iload hx hb 7 rfl dX3_inBox_32 ?_
        refine gg_iald hx hb hK 16 0 rfl rfl (by decide) h.1 dX3_inBox_34 ?_
        have h := h.2
        refine gg_icmp_lt (tgt := 42) hx hb h.1 h.2.1 dX3_inBox_35 rfl (fun c35 => ?_) (fun c35 => ?_)
        · have h := h.2.2.1 c35
          refine gg_iconst hx hb dX3_inBox_42 ?_
          refine gg_lv [0, 1, 2, 4, 5, 6, 7] rfl ?_
          exact h
        · have h := h.2.2.2 c35
          refine gg_iconst hx hb dX3_inBox_38 ?_
          refine gg_goto (tgt := 43) hx hb dX3_inBox_39 rfl ?_
          refine gg_lv [0, 1, 2, 4, 5, 6, 7] rfl ?_
          exact h)
  refine gg_lv [5, 6, 7, 4, 3, 2, 1, 0] rfl ?_
  exact h
abbrev rmX3_covers : Room := { frames := 1, cells := 0, slots := 0, locals := 27 }
theorem iX3_covers_X3 : ∀ w ∈ u_ws RX3 TX3 3, w ∈ wsX3_covers := (fun _ h => List.mem_cons_of_mem _ (List.mem_append_right _ h))
theorem hd_X3_covers : (yX3_covers.cls = RX3 ∧ yX3_covers.cls ≠ "java/lang/invoke/MethodHandle" ∧ yX3_covers.cls ≠ "java/lang/invoke/VarHandle" ∧ (parseMethodDescriptor yX3_covers.desc).map (fun d => d.parameters.length) = some 2) := by decide +kernel
set_option maxRecDepth 100000 in
set_option maxHeartbeats 4000000 in
theorem c_X3_covers (l : Launch) (D : va_G) (aa : Nat → Nat) (cI cZ cJ : ClassId) (tR tU : Nat) (a1 : Int) (a2 : Int) (σ : xSt) (Post : Int → Prop) (h : wp_X3_covers a1 a2 σ Post) : MI l D (tyL cI cZ cJ) (cX aa cI cZ cJ) tR tU yX3_covers wsX3_covers rmX3_covers [.ref (aa 15), .int (xI a1), .int (xI a2)] σ (fun r9 σ9 => σ9 = σ ∧ Post r9) := by
  refine mi_of (cc := cX3_covers) (maxL := 5) (ret := (some .boolean)) (by decide) rfl (Nat.le_of_ble_eq_true rfl) ?_
  intro p e s m args below meth c A hF
  obtain ⟨hx, hb, hr, hml, hown, hts, hlk, hK, hZ, hA⟩ := hF
  have hown : s.vm.findClass RX3 = some m.cls := hown
  delta wp_X3_covers at h
  refine gg_lv (lv' := [(0, .ref (aa 15)), (1, .int (xI a1)), (2, .int (xI a2))]) [0, 1, 2] rfl ?_
  refine gg_iconst hx hb dX3_covers_0 ?_
  refine gg_istore_n (lv' := [(3, .int (xI 0)), (0, .ref (aa 15)), (1, .int (xI a1)), (2, .int (xI a2))]) hx hb rfl (by decide) rfl dX3_covers_1 ?_
  have h := h (fun (x3_2 : Int) => GG p l e rmX3_covers s m args below meth c (QI below D (cX aa cI cZ cJ) A args s (fun r9 σ9 => σ9 = σ ∧ Post r9)) A D (cX aa cI cZ cJ) 5 σ 2 [(0, .ref (aa 15)), (1, .int (xI a1)), (2, .int (xI a2)), (3, .int (xI x3_2))] [])
  have h := h (by
    intro x3_2 h
    refine gg_iload_n hx hb 3 rfl rfl dX3_covers_2 ?_
    refine gg_aload_n hx hb 0 rfl rfl dX3_covers_3 ?_
    refine gg_get (C := RX3) (T := TX3) (N := 3) hx hb hts hown hK iX3_covers_X3 15 rfl rfl 2 (by decide) (List.mem_of_getElem? (i := 1) rfl) rfl dX3_covers_4 ?_
    refine gg_icmp_ge (tgt := 49) hx hb h.1 h.2.1 dX3_covers_7 rfl (fun c7 => ?_) (fun c7 => ?_)
    · have h := h.2.2.1 c7
      refine gg_aload_n hx hb 0 rfl rfl dX3_covers_49 ?_
      refine gg_iload_n hx hb 1 rfl rfl dX3_covers_50 ?_
      refine gg_iload_n hx hb 2 rfl rfl dX3_covers_51 ?_
      refine gg_callVip (As := [.int (xI a1), .int (xI a2)]) (rest := []) hx hb hml hown hts hK hZ hA (c_X3_inBox l D aa cI cZ cJ tR tU a1 a2 σ _ h) (cwV 2 hts gX3_covers_X3_inBox rfl rfl rfl hd_X3_inBox ⟨Nat.le_of_ble_eq_true rfl, Nat.le_of_ble_eq_true rfl⟩) 15 rfl rfl rfl rfl (Nat.le_of_ble_eq_true rfl) dX3_covers_52 (fun r52 h => ?_)
      exact gg_zret hx hb hr hlk h.1 ⟨rfl, h.2⟩ dX3_covers_55
    · have h := h.2.2.2 c7
      refine gg_iload_n hx hb 3 rfl rfl dX3_covers_10 ?_
      refine gg_iconst hx hb dX3_covers_11 ?_
      refine gg_iadd hx hb dX3_covers_12 ?_
      refine gg_aload_n hx hb 0 rfl rfl dX3_covers_13 ?_
      refine gg_get (C := RX3) (T := TX3) (N := 3) hx hb hts hown hK iX3_covers_X3 15 rfl rfl 2 (by decide) (List.mem_of_getElem? (i := 1) rfl) rfl dX3_covers_14 ?_
      have h := h (fun (y0_27 : Int) => GG p l e rmX3_covers s m args below meth c (QI below D (cX aa cI cZ cJ) A args s (fun r9 σ9 => σ9 = σ ∧ Post r9)) A D (cX aa cI cZ cJ) 5 σ 27 [(0, .ref (aa 15)), (1, .int (xI a1)), (2, .int (xI a2)), (3, .int (xI x3_2))] [.int (xI y0_27)])
      have h := h (by
        intro y0_27 h
        refine gg_istore (lv' := [(4, .int (xI y0_27)), (0, .ref (aa 15)), (1, .int (xI a1)), (2, .int (xI a2)), (3, .int (xI x3_2))]) hx hb (by decide) rfl dX3_covers_27 ?_
        refine gg_aload_n hx hb 1 rfl rfl dX3_covers_29 ?_
        refine gg_iload_n hx hb 4 rfl rfl dX3_covers_30 ?_
        refine gg_iload hx hb 0 rfl dX3_covers_31 ?_
        refine gg_iload_n hx hb 2 rfl rfl dX3_covers_33 ?_
        refine gg_iload_n hx hb 3 rfl rfl dX3_covers_34 ?_
        refine gg_callVip (As := [.int (xI x3_2), .int (xI y0_27), .int (xI a1), .int (xI a2)]) (rest := []) hx hb hml hown hts hK hZ hA (c_X3_side l D aa cI cZ cJ tR tU x3_2 y0_27 a1 a2 σ _ h) (cwV 4 hts gX3_covers_X3_side rfl rfl rfl hd_X3_side ⟨Nat.le_of_ble_eq_true rfl, Nat.le_of_ble_eq_true rfl⟩) 15 rfl rfl rfl rfl (Nat.le_of_ble_eq_true rfl) dX3_covers_35 (fun r35 h => ?_)
        refine gg_if_ge (tgt := 43) hx hb h.1 dX3_covers_38 rfl (fun c38 => ?_) (fun c38 => ?_)
        · have h := h.2.1 c38
          refine gg_iinc (lv' := [(3, .int (xI (x3_2 + 1))), (4, .int (xI y0_27)), (0, .ref (aa 15)), (1, .int (xI a1)), (2, .int (xI a2))]) hx hb 4 rfl (by decide) rfl dX3_covers_43 ?_
          refine gg_goto (tgt := 2) hx hb dX3_covers_46 rfl ?_
          refine gg_lv [2, 3, 4, 0] rfl ?_
          exact h
        · have h := h.2.2 c38
          refine gg_iconst hx hb dX3_covers_41 ?_
          exact gg_zret hx hb hr hlk (Or.inl rfl) ⟨rfl, h⟩ dX3_covers_42)
      refine gg_icmp_ge (tgt := 26) hx hb h.1 h.2.1 dX3_covers_17 rfl (fun c17 => ?_) (fun c17 => ?_)
      · have h := h.2.2.1 c17
        refine gg_iconst hx hb dX3_covers_26 ?_
        exact h
      · have h := h.2.2.2 c17
        refine gg_iload_n hx hb 3 rfl rfl dX3_covers_20 ?_
        refine gg_iconst hx hb dX3_covers_21 ?_
        refine gg_iadd hx hb dX3_covers_22 ?_
        refine gg_goto (tgt := 27) hx hb dX3_covers_23 rfl ?_
        exact h)
  refine gg_lv [1, 2, 3, 0] rfl ?_
  exact h
abbrev rmX3_lacks : Room := { frames := 3, cells := 0, slots := 0, locals := 62 }
theorem hd_X3_lacks : (yX3_lacks.cls = RX3 ∧ yX3_lacks.cls ≠ "java/lang/invoke/MethodHandle" ∧ yX3_lacks.cls ≠ "java/lang/invoke/VarHandle" ∧ (parseMethodDescriptor yX3_lacks.desc).map (fun d => d.parameters.length) = some 1) := by decide +kernel
set_option maxRecDepth 100000 in
set_option maxHeartbeats 4000000 in
theorem c_X3_lacks (l : Launch) (D : va_G) (aa : Nat → Nat) (cI cZ cJ : ClassId) (tR tU : Nat) (σ : xSt) (Post : Int → Prop) (h : wp_X3_lacks σ Post) : MI l D (tyL cI cZ cJ) (cX aa cI cZ cJ) tR tU yX3_lacks wsX3_lacks rmX3_lacks [.ref (aa 15), .ref (aa 7)] σ (fun r9 σ9 => σ9 = σ ∧ Post r9) := by
  refine mi_of (cc := cX3_lacks) (maxL := 4) (ret := (some .int)) (by decide) rfl (Nat.le_of_ble_eq_true rfl) ?_
  intro p e s m args below meth c A hF
  obtain ⟨hx, hb, hr, hml, hown, hts, hlk, hK, hZ, hA⟩ := hF
  have hown : s.vm.findClass RX3 = some m.cls := hown
  delta wp_X3_lacks at h
  refine gg_lv (lv' := [(0, .ref (aa 15)), (1, .ref (aa 7))]) [0, 1] rfl ?_
  refine gg_iconst hx hb dX3_lacks_0 ?_
  refine gg_istore_n (lv' := [(2, .int (xI 0)), (0, .ref (aa 15)), (1, .ref (aa 7))]) hx hb rfl (by decide) rfl dX3_lacks_1 ?_
  refine gg_iconst hx hb dX3_lacks_2 ?_
  refine gg_istore_n (lv' := [(3, .int (xI 0)), (2, .int (xI 0)), (0, .ref (aa 15)), (1, .ref (aa 7))]) hx hb rfl (by decide) rfl dX3_lacks_3 ?_
  have h := h (fun (x2_4 x3_4 : Int) => GG p l e rmX3_lacks s m args below meth c (QI below D (cX aa cI cZ cJ) A args s (fun r9 σ9 => σ9 = σ ∧ Post r9)) A D (cX aa cI cZ cJ) 4 σ 4 [(0, .ref (aa 15)), (1, .ref (aa 7)), (2, .int (xI x2_4)), (3, .int (xI x3_4))] [])
  have h := h (by
    intro x2_4 x3_4 h
    refine gg_iload_n hx hb 3 rfl rfl dX3_lacks_4 ?_
    refine gg_aload_n hx hb 1 rfl rfl dX3_lacks_5 ?_
    refine gg_callVip (As := []) (rest := [.int (xI x3_4)]) hx hb hml hown hts hK hZ hA (c_X2_fields l D aa cI cZ cJ tR tU σ _ h) (cwV 0 hts gX3_lacks_X2_fields rfl rfl rfl hd_X2_fields ⟨Nat.le_of_ble_eq_true rfl, Nat.le_of_ble_eq_true rfl⟩) 7 rfl rfl rfl rfl (Nat.le_of_ble_eq_true rfl) dX3_lacks_6 (fun r6 h => ?_)
    refine gg_icmp_ge (tgt := 46) hx hb h.1 h.2.1 dX3_lacks_9 rfl (fun c9 => ?_) (fun c9 => ?_)
    · have h := h.2.2.1 c9
      refine gg_iload_n hx hb 2 rfl rfl dX3_lacks_46 ?_
      exact gg_iret hx hb hr hlk ⟨rfl, h⟩ dX3_lacks_47
    · have h := h.2.2.2 c9
      refine gg_aload_n hx hb 1 rfl rfl dX3_lacks_12 ?_
      refine gg_iload_n hx hb 3 rfl rfl dX3_lacks_13 ?_
      refine gg_callVip (As := [.int (xI x3_4)]) (rest := []) hx hb hml hown hts hK hZ hA (c_X2_holds l D aa cI cZ cJ tR tU x3_4 σ _ h) (cwV 1 hts gX3_lacks_X2_holds rfl rfl rfl hd_X2_holds ⟨Nat.le_of_ble_eq_true rfl, Nat.le_of_ble_eq_true rfl⟩) 7 rfl rfl rfl rfl (Nat.le_of_ble_eq_true rfl) dX3_lacks_14 (fun r14 h => ?_)
      refine gg_if_ne (tgt := 40) hx hb h.1 dX3_lacks_17 rfl (fun c17 => ?_) (fun c17 => ?_)
      · have h := h.2.1 c17
        refine gg_iinc (lv' := [(3, .int (xI (x3_4 + 1))), (0, .ref (aa 15)), (1, .ref (aa 7)), (2, .int (xI x2_4))]) hx hb 3 rfl (by decide) rfl dX3_lacks_40 ?_
        refine gg_goto (tgt := 4) hx hb dX3_lacks_43 rfl ?_
        refine gg_lv [1, 2, 3, 0] rfl ?_
        exact h
      · have h := h.2.2 c17
        refine gg_aload_n hx hb 0 rfl rfl dX3_lacks_20 ?_
        refine gg_aload_n hx hb 1 rfl rfl dX3_lacks_21 ?_
        refine gg_iload_n hx hb 3 rfl rfl dX3_lacks_22 ?_
        refine gg_callVip (As := [.int (xI x3_4)]) (rest := [.ref (aa 15)]) hx hb hml hown hts hK hZ hA (c_X2_columnOf l D aa cI cZ cJ tR tU x3_4 σ _ h) (cwV 1 hts gX3_lacks_X2_columnOf rfl rfl rfl hd_X2_columnOf ⟨Nat.le_of_ble_eq_true rfl, Nat.le_of_ble_eq_true rfl⟩) 7 rfl rfl rfl rfl (Nat.le_of_ble_eq_true rfl) dX3_lacks_23 (fun r23 h => ?_)
        refine gg_aload_n hx hb 1 rfl rfl dX3_lacks_26 ?_
        refine gg_iload_n hx hb 3 rfl rfl dX3_lacks_27 ?_
        refine gg_callVip (As := [.int (xI x3_4)]) (rest := [.int (xI r23), .ref (aa 15)]) hx hb hml hown hts hK hZ hA (c_X2_lineOf l D aa cI cZ cJ tR tU x3_4 σ _ h) (cwV 1 hts gX3_lacks_X2_lineOf rfl rfl rfl hd_X2_lineOf ⟨Nat.le_of_ble_eq_true rfl, Nat.le_of_ble_eq_true rfl⟩) 7 rfl rfl rfl rfl (Nat.le_of_ble_eq_true rfl) dX3_lacks_28 (fun r28 h => ?_)
        refine gg_callVip (As := [.int (xI r23), .int (xI r28)]) (rest := []) hx hb hml hown hts hK hZ hA (c_X3_covers l D aa cI cZ cJ tR tU r23 r28 σ _ h) (cwV 2 hts gX3_lacks_X3_covers rfl rfl rfl hd_X3_covers ⟨Nat.le_of_ble_eq_true rfl, Nat.le_of_ble_eq_true rfl⟩) 15 rfl rfl rfl rfl (Nat.le_of_ble_eq_true rfl) dX3_lacks_31 (fun r31 h => ?_)
        refine gg_if_eq (tgt := 40) hx hb h.1 dX3_lacks_34 rfl (fun c34 => ?_) (fun c34 => ?_)
        · have h := h.2.1 c34
          refine gg_iinc (lv' := [(3, .int (xI (x3_4 + 1))), (0, .ref (aa 15)), (1, .ref (aa 7)), (2, .int (xI x2_4))]) hx hb 3 rfl (by decide) rfl dX3_lacks_40 ?_
          refine gg_goto (tgt := 4) hx hb dX3_lacks_43 rfl ?_
          refine gg_lv [1, 2, 3, 0] rfl ?_
          exact h
        · have h := h.2.2 c34
          refine gg_iinc (lv' := [(2, .int (xI (x2_4 + 1))), (0, .ref (aa 15)), (1, .ref (aa 7)), (3, .int (xI x3_4))]) hx hb 2 rfl (by decide) rfl dX3_lacks_37 ?_
          refine gg_iinc (lv' := [(3, .int (xI (x3_4 + 1))), (2, .int (xI (x2_4 + 1))), (0, .ref (aa 15)), (1, .ref (aa 7))]) hx hb 3 rfl (by decide) rfl dX3_lacks_40 ?_
          refine gg_goto (tgt := 4) hx hb dX3_lacks_43 rfl ?_
          refine gg_lv [2, 3, 1, 0] rfl ?_
          exact h)
  refine gg_lv [2, 3, 1, 0] rfl ?_
  exact h
abbrev rmX9_heap : Room := { frames := 6, cells := 0, slots := 0, locals := 131 }
theorem iX9_heap_X9 : ∀ w ∈ u_ws RX9 TX9 9, w ∈ wsX9_heap := (fun _ h => List.mem_cons_of_mem _ (List.mem_append_left _ (List.mem_append_left _ (List.mem_append_left _ (List.mem_append_right _ h)))))
theorem tbo_X9_heap (a : Int) (c0 : ¬ a = 0) (c1 : ¬ a = 1) (c2 : ¬ a = 2) (c3 : ¬ a = 3) (c4 : ¬ a = 4) : a < 0 ∨ 4 < a := by omega
theorem hd_X9_heap : (yX9_heap.cls = RX9 ∧ yX9_heap.cls ≠ "java/lang/invoke/MethodHandle" ∧ yX9_heap.cls ≠ "java/lang/invoke/VarHandle" ∧ (parseMethodDescriptor yX9_heap.desc).map (fun d => d.parameters.length) = some 1) := by decide +kernel
set_option maxRecDepth 100000 in
set_option maxHeartbeats 4000000 in
theorem c_X9_heap (l : Launch) (D : va_G) (aa : Nat → Nat) (cI cZ cJ : ClassId) (tR tU : Nat) (a1 : Int) (σ : xSt) (Post : Int → xSt → Prop) (h : wp_X9_heap a1 σ Post) : MI l D (tyL cI cZ cJ) (cX aa cI cZ cJ) tR tU yX9_heap wsX9_heap rmX9_heap [.ref (aa 0), .int (xI a1)] σ Post := by
  refine mi_of (cc := cX9_heap) (maxL := 2) (ret := (some .int)) (by decide) rfl (Nat.le_of_ble_eq_true rfl) ?_
  intro p e s m args below meth c A hF
  obtain ⟨hx, hb, hr, hml, hown, hts, hlk, hK, hZ, hA⟩ := hF
  have hown : s.vm.findClass RX9 = some m.cls := hown
  delta wp_X9_heap at h
  refine gg_lv (lv' := [(0, .ref (aa 0)), (1, .int (xI a1))]) [0, 1] rfl ?_
  refine gg_iload_n hx hb 1 rfl rfl dX9_heap_0 ?_
  have hq := h.1
  have h := h.2
  by_cases c1_0 : a1 = 0
  · have h := h.1 c1_0
    refine gg_tableIn (k := 0) (tgt := 36) hx hb hq c1_0 dX9_heap_1 (by decide) (by decide) rfl rfl ?_
    refine gg_aload_n hx hb 0 rfl rfl dX9_heap_36 ?_
    refine gg_get (C := RX9) (T := TX9) (N := 9) hx hb hts hown hK iX9_heap_X9 0 rfl rfl 2 (by decide) (List.mem_of_getElem? (i := 1) rfl) rfl dX9_heap_37 ?_
    refine gg_callVip (As := []) (rest := []) hx hb hml hown hts hK hZ hA (c_X2_heapSize l D aa cI cZ cJ tR tU σ _ h) (cwV 0 hts gX9_heap_X2_heapSize rfl rfl rfl hd_X2_heapSize ⟨Nat.le_of_ble_eq_true rfl, Nat.le_of_ble_eq_true rfl⟩) 7 rfl rfl rfl rfl (Nat.le_of_ble_eq_true rfl) dX9_heap_40 (fun r40 h => ?_)
    exact gg_iret hx hb hr hlk h dX9_heap_43
  have h := h.2
  by_cases c1_1 : a1 = 1
  · have h := h.1 c1_1
    refine gg_tableIn (k := 1) (tgt := 44) hx hb hq c1_1 dX9_heap_1 (by decide) (by decide) rfl rfl ?_
    refine gg_aload_n hx hb 0 rfl rfl dX9_heap_44 ?_
    refine gg_get (C := RX9) (T := TX9) (N := 9) hx hb hts hown hK iX9_heap_X9 0 rfl rfl 3 (by decide) (List.mem_of_getElem? (i := 2) rfl) rfl dX9_heap_45 ?_
    refine gg_aload_n hx hb 0 rfl rfl dX9_heap_48 ?_
    refine gg_get (C := RX9) (T := TX9) (N := 9) hx hb hts hown hK iX9_heap_X9 0 rfl rfl 2 (by decide) (List.mem_of_getElem? (i := 1) rfl) rfl dX9_heap_49 ?_
    refine gg_aload_n hx hb 0 rfl rfl dX9_heap_52 ?_
    refine gg_get (C := RX9) (T := TX9) (N := 9) hx hb hts hown hK iX9_heap_X9 0 rfl rfl 2 (by decide) (List.mem_of_getElem? (i := 1) rfl) rfl dX9_heap_53 ?_
    refine gg_callVrp (As := []) (rest := [.ref (aa 7), .ref (aa 9)]) hx hb hml hown hts hK hZ hA (c_X2_members l D aa cI cZ cJ tR tU σ _ h) (cwV 0 hts gX9_heap_X2_members rfl rfl rfl hd_X2_members ⟨Nat.le_of_ble_eq_true rfl, Nat.le_of_ble_eq_true rfl⟩) 7 rfl rfl rfl rfl (Nat.le_of_ble_eq_true rfl) dX9_heap_56 (fun h => ?_)
    refine gg_iconst hx hb dX9_heap_59 ?_
    refine gg_iconst hx hb dX9_heap_60 ?_
    refine gg_callVi (As := [.ref (aa 7), .ref (aa 8), .int (xI 1), .int (xI 1)]) (rest := []) hx hb hml hown hts hK hZ hA (c_X4_split_8 l D aa cI cZ cJ tR tU 1 1 σ _ h) (cwV 4 hts gX9_heap_X4_split rfl rfl rfl hd_X4_split ⟨Nat.le_of_ble_eq_true rfl, Nat.le_of_ble_eq_true rfl⟩) 9 rfl rfl rfl rfl (Nat.le_of_ble_eq_true rfl) dX9_heap_61 (fun r61 t61 h => ?_)
    exact gg_iret hx hb hr hlk h dX9_heap_64
  have h := h.2
  by_cases c1_2 : a1 = 2
  · have h := h.1 c1_2
    refine gg_tableIn (k := 2) (tgt := 65) hx hb hq c1_2 dX9_heap_1 (by decide) (by decide) rfl rfl ?_
    refine gg_aload_n hx hb 0 rfl rfl dX9_heap_65 ?_
    refine gg_get (C := RX9) (T := TX9) (N := 9) hx hb hts hown hK iX9_heap_X9 0 rfl rfl 3 (by decide) (List.mem_of_getElem? (i := 2) rfl) rfl dX9_heap_66 ?_
    refine gg_aload_n hx hb 0 rfl rfl dX9_heap_69 ?_
    refine gg_get (C := RX9) (T := TX9) (N := 9) hx hb hts hown hK iX9_heap_X9 0 rfl rfl 2 (by decide) (List.mem_of_getElem? (i := 1) rfl) rfl dX9_heap_70 ?_
    refine gg_aload_n hx hb 0 rfl rfl dX9_heap_73 ?_
    refine gg_get (C := RX9) (T := TX9) (N := 9) hx hb hts hown hK iX9_heap_X9 0 rfl rfl 2 (by decide) (List.mem_of_getElem? (i := 1) rfl) rfl dX9_heap_74 ?_
    refine gg_callVrp (As := []) (rest := [.ref (aa 7), .ref (aa 9)]) hx hb hml hown hts hK hZ hA (c_X2_members l D aa cI cZ cJ tR tU σ _ h) (cwV 0 hts gX9_heap_X2_members rfl rfl rfl hd_X2_members ⟨Nat.le_of_ble_eq_true rfl, Nat.le_of_ble_eq_true rfl⟩) 7 rfl rfl rfl rfl (Nat.le_of_ble_eq_true rfl) dX9_heap_77 (fun h => ?_)
    refine gg_iconst hx hb dX9_heap_80 ?_
    refine gg_iconst hx hb dX9_heap_81 ?_
    refine gg_callVi (As := [.ref (aa 7), .ref (aa 8), .int (xI 0), .int (xI 0)]) (rest := []) hx hb hml hown hts hK hZ hA (c_X4_split_8 l D aa cI cZ cJ tR tU 0 0 σ _ h) (cwV 4 hts gX9_heap_X4_split rfl rfl rfl hd_X4_split ⟨Nat.le_of_ble_eq_true rfl, Nat.le_of_ble_eq_true rfl⟩) 9 rfl rfl rfl rfl (Nat.le_of_ble_eq_true rfl) dX9_heap_82 (fun r82 t82 h => ?_)
    refine gg_pop hx hb rfl dX9_heap_85 ?_
    refine gg_aload_n hx hb 0 rfl rfl dX9_heap_86 ?_
    refine gg_get (C := RX9) (T := TX9) (N := 9) hx hb hts hown hK iX9_heap_X9 0 rfl rfl 3 (by decide) (List.mem_of_getElem? (i := 2) rfl) rfl dX9_heap_87 ?_
    refine gg_aload_n hx hb 0 rfl rfl dX9_heap_90 ?_
    refine gg_get (C := RX9) (T := TX9) (N := 9) hx hb hts hown hK iX9_heap_X9 0 rfl rfl 2 (by decide) (List.mem_of_getElem? (i := 1) rfl) rfl dX9_heap_91 ?_
    refine gg_callVi (As := [.ref (aa 7)]) (rest := []) hx hb hml hown hts hK hZ hA (c_X4_shutParts l D aa cI cZ cJ tR tU t82 _ h) (cwV 1 hts gX9_heap_X4_shutParts rfl rfl rfl hd_X4_shutParts ⟨Nat.le_of_ble_eq_true rfl, Nat.le_of_ble_eq_true rfl⟩) 9 rfl rfl rfl rfl (Nat.le_of_ble_eq_true rfl) dX9_heap_94 (fun r94 t94 h => ?_)
    exact gg_iret hx hb hr hlk h dX9_heap_97
  have h := h.2
  by_cases c1_3 : a1 = 3
  · have h := h.1 c1_3
    refine gg_tableIn (k := 3) (tgt := 98) hx hb hq c1_3 dX9_heap_1 (by decide) (by decide) rfl rfl ?_
    refine gg_aload_n hx hb 0 rfl rfl dX9_heap_98 ?_
    refine gg_get (C := RX9) (T := TX9) (N := 9) hx hb hts hown hK iX9_heap_X9 0 rfl rfl 2 (by decide) (List.mem_of_getElem? (i := 1) rfl) rfl dX9_heap_99 ?_
    refine gg_callVip (As := []) (rest := []) hx hb hml hown hts hK hZ hA (c_X2_rims l D aa cI cZ cJ tR tU σ _ h) (cwV 0 hts gX9_heap_X2_rims rfl rfl rfl hd_X2_rims ⟨Nat.le_of_ble_eq_true rfl, Nat.le_of_ble_eq_true rfl⟩) 7 rfl rfl rfl rfl (Nat.le_of_ble_eq_true rfl) dX9_heap_102 (fun r102 h => ?_)
    exact gg_iret hx hb hr hlk h dX9_heap_105
  have h := h.2
  by_cases c1_4 : a1 = 4
  · have h := h.1 c1_4
    refine gg_tableIn (k := 4) (tgt := 106) hx hb hq c1_4 dX9_heap_1 (by decide) (by decide) rfl rfl ?_
    refine gg_aload_n hx hb 0 rfl rfl dX9_heap_106 ?_
    refine gg_get (C := RX9) (T := TX9) (N := 9) hx hb hts hown hK iX9_heap_X9 0 rfl rfl 5 (by decide) (List.mem_of_getElem? (i := 3) rfl) rfl dX9_heap_107 ?_
    refine gg_aload_n hx hb 0 rfl rfl dX9_heap_110 ?_
    refine gg_get (C := RX9) (T := TX9) (N := 9) hx hb hts hown hK iX9_heap_X9 0 rfl rfl 2 (by decide) (List.mem_of_getElem? (i := 1) rfl) rfl dX9_heap_111 ?_
    refine gg_callVv (As := [.ref (aa 7)]) (rest := []) hx hb hml hown hts hK hZ hA (c_X3_wrap l D aa cI cZ cJ tR tU σ _ h) (cwV 1 hts gX9_heap_X3_wrap rfl rfl rfl hd_X3_wrap ⟨Nat.le_of_ble_eq_true rfl, Nat.le_of_ble_eq_true rfl⟩) 15 rfl rfl rfl rfl (Nat.le_of_ble_eq_true rfl) dX9_heap_114 (fun t114 h => ?_)
    refine gg_aload_n hx hb 0 rfl rfl dX9_heap_117 ?_
    refine gg_get (C := RX9) (T := TX9) (N := 9) hx hb hts hown hK iX9_heap_X9 0 rfl rfl 5 (by decide) (List.mem_of_getElem? (i := 3) rfl) rfl dX9_heap_118 ?_
    refine gg_aload_n hx hb 0 rfl rfl dX9_heap_121 ?_
    refine gg_get (C := RX9) (T := TX9) (N := 9) hx hb hts hown hK iX9_heap_X9 0 rfl rfl 2 (by decide) (List.mem_of_getElem? (i := 1) rfl) rfl dX9_heap_122 ?_
    refine gg_callVip (As := [.ref (aa 7)]) (rest := []) hx hb hml hown hts hK hZ hA (c_X3_lacks l D aa cI cZ cJ tR tU t114 _ h) (cwV 1 hts gX9_heap_X3_lacks rfl rfl rfl hd_X3_lacks ⟨Nat.le_of_ble_eq_true rfl, Nat.le_of_ble_eq_true rfl⟩) 15 rfl rfl rfl rfl (Nat.le_of_ble_eq_true rfl) dX9_heap_125 (fun r125 h => ?_)
    exact gg_iret hx hb hr hlk h dX9_heap_128
  have h := h.2
  have cD := tbo_X9_heap a1 c1_0 c1_1 c1_2 c1_3 c1_4
  have h := h cD
  refine gg_tableOut (tgt := 129) hx hb hq cD dX9_heap_1 rfl ?_
  refine gg_sipush hx hb dX9_heap_129 rfl ?_
  exact gg_iret hx hb hr hlk h dX9_heap_132
abbrev rmX2_runsFrom : Room := { frames := 4, cells := 0, slots := 0, locals := 84 }
theorem hd_X2_runsFrom : (yX2_runsFrom.cls = RX2 ∧ yX2_runsFrom.cls ≠ "java/lang/invoke/MethodHandle" ∧ yX2_runsFrom.cls ≠ "java/lang/invoke/VarHandle" ∧ (parseMethodDescriptor yX2_runsFrom.desc).map (fun d => d.parameters.length) = some 3) := by decide +kernel
set_option maxRecDepth 100000 in
set_option maxHeartbeats 4000000 in
theorem c_X2_runsFrom (l : Launch) (D : va_G) (aa : Nat → Nat) (cI cZ cJ : ClassId) (tR tU : Nat) (a1 : Int) (a2 : Int) (a3 : Int) (σ : xSt) (Post : Int → Prop) (h : wp_X2_runsFrom a1 a2 a3 σ Post) : MI l D (tyL cI cZ cJ) (cX aa cI cZ cJ) tR tU yX2_runsFrom wsX2_runsFrom rmX2_runsFrom [.ref (aa 7), .int (xI a1), .int (xI a2), .int (xI a3)] σ (fun r9 σ9 => σ9 = σ ∧ Post r9) := by
  refine mi_of (cc := cX2_runsFrom) (maxL := 8) (ret := (some .int)) (by decide) rfl (Nat.le_of_ble_eq_true rfl) ?_
  intro p e s m args below meth c A hF
  obtain ⟨hx, hb, hr, hml, hown, hts, hlk, hK, hZ, hA⟩ := hF
  have hown : s.vm.findClass RX2 = some m.cls := hown
  obtain ⟨hZ1, hZ2, hZ3, hZ4, hN1, hN2, hN3, hN4, hN5, hN6⟩ := id hZ
  delta wp_X2_runsFrom at h
  refine gg_lv (lv' := [(0, .ref (aa 7)), (1, .int (xI a1)), (2, .int (xI a2)), (3, .int (xI a3))]) [0, 1, 2, 3] rfl ?_
  refine gg_iconst hx hb dX2_runsFrom_0 ?_
  refine gg_istore (lv' := [(4, .int (xI 0)), (0, .ref (aa 7)), (1, .int (xI a1)), (2, .int (xI a2)), (3, .int (xI a3))]) hx hb (by decide) rfl dX2_runsFrom_1 ?_
  refine gg_iconst hx hb dX2_runsFrom_3 ?_
  refine gg_istore (lv' := [(5, .int (xI 0)), (4, .int (xI 0)), (0, .ref (aa 7)), (1, .int (xI a1)), (2, .int (xI a2)), (3, .int (xI a3))]) hx hb (by decide) rfl dX2_runsFrom_4 ?_
  refine gg_iconst hx hb dX2_runsFrom_6 ?_
  refine gg_istore (lv' := [(6, .int (xI 0)), (5, .int (xI 0)), (4, .int (xI 0)), (0, .ref (aa 7)), (1, .int (xI a1)), (2, .int (xI a2)), (3, .int (xI a3))]) hx hb (by decide) rfl dX2_runsFrom_7 ?_
  have h := h (fun (x4_9 x5_9 x6_9 : Int) => GG p l e rmX2_runsFrom s m args below meth c (QI below D (cX aa cI cZ cJ) A args s (fun r9 σ9 => σ9 = σ ∧ Post r9)) A D (cX aa cI cZ cJ) 8 σ 9 [(0, .ref (aa 7)), (1, .int (xI a1)), (2, .int (xI a2)), (3, .int (xI a3)), (4, .int (xI x4_9)), (5, .int (xI x5_9)), (6, .int (xI x6_9))] [])
  have h := h (by
    intro x4_9 x5_9 x6_9 h
    refine gg_iload hx hb 6 rfl dX2_runsFrom_9 ?_
    refine gg_bipush hx hb dX2_runsFrom_11 rfl ?_
    refine gg_icmp_ge (tgt := 65) hx hb h.1 (by decide) dX2_runsFrom_13 rfl (fun c13 => ?_) (fun c13 => ?_)
    · have h := h.2.1 c13
      refine gg_iload hx hb 4 rfl dX2_runsFrom_65 ?_
      exact gg_iret hx hb hr hlk ⟨rfl, h⟩ dX2_runsFrom_67
    · have h := h.2.2 c13
      refine gg_aload_n hx hb 0 rfl rfl dX2_runsFrom_16 ?_
      refine gg_iload_n hx hb 1 rfl rfl dX2_runsFrom_17 ?_
      refine gg_iload hx hb 6 rfl dX2_runsFrom_18 ?_
      refine gg_gets hx hb hZ1 hown hN1 dX2_runsFrom_20 ?_
      refine gg_iload_n hx hb 3 rfl rfl dX2_runsFrom_23 ?_
      refine gg_tald hx hb xRt hZ2 (by decide) h.1 dX2_runsFrom_24 ?_
      have h := h.2
      refine gg_imul hx hb dX2_runsFrom_25 ?_
      refine gg_iadd hx hb dX2_runsFrom_26 ?_
      refine gg_iload_n hx hb 2 rfl rfl dX2_runsFrom_27 ?_
      refine gg_iload hx hb 6 rfl dX2_runsFrom_28 ?_
      refine gg_gets hx hb hZ3 hown hN2 dX2_runsFrom_30 ?_
      refine gg_iload_n hx hb 3 rfl rfl dX2_runsFrom_33 ?_
      refine gg_tald hx hb xUp hZ4 (by decide) h.1 dX2_runsFrom_34 ?_
      have h := h.2
      refine gg_imul hx hb dX2_runsFrom_35 ?_
      refine gg_iadd hx hb dX2_runsFrom_36 ?_
      refine gg_callVip (As := [.int (xI (a1 + (x6_9 * (xRt (a3).toNat)))), .int (xI (a2 + (x6_9 * (xUp (a3).toNat))))]) (rest := []) hx hb hml hown hts hK hZ hA (c_X2_holdsAt l D aa cI cZ cJ tR tU (a1 + (x6_9 * (xRt (a3).toNat))) (a2 + (x6_9 * (xUp (a3).toNat))) σ _ h) (cwV 2 hts gX2_runsFrom_X2_holdsAt rfl rfl rfl hd_X2_holdsAt ⟨Nat.le_of_ble_eq_true rfl, Nat.le_of_ble_eq_true rfl⟩) 7 rfl rfl rfl rfl (Nat.le_of_ble_eq_true rfl) dX2_runsFrom_37 (fun r37 h => ?_)
      refine gg_istore (lv' := [(7, .int (xI r37)), (0, .ref (aa 7)), (1, .int (xI a1)), (2, .int (xI a2)), (3, .int (xI a3)), (4, .int (xI x4_9)), (5, .int (xI x5_9)), (6, .int (xI x6_9))]) hx hb (by decide) rfl dX2_runsFrom_40 ?_
      refine gg_iload hx hb 0 rfl dX2_runsFrom_42 ?_
      refine gg_if_eq (tgt := 55) hx hb h.1 dX2_runsFrom_44 rfl (fun c44 => ?_) (fun c44 => ?_)
      · have h := h.2.1 c44
        refine gg_iload hx hb 0 rfl dX2_runsFrom_55 ?_
        refine gg_istore (lv' := [(5, .int (xI r37)), (7, .int (xI r37)), (0, .ref (aa 7)), (1, .int (xI a1)), (2, .int (xI a2)), (3, .int (xI a3)), (4, .int (xI x4_9)), (6, .int (xI x6_9))]) hx hb (by decide) rfl dX2_runsFrom_57 ?_
        refine gg_iinc (lv' := [(6, .int (xI (x6_9 + 1))), (5, .int (xI r37)), (7, .int (xI r37)), (0, .ref (aa 7)), (1, .int (xI a1)), (2, .int (xI a2)), (3, .int (xI a3)), (4, .int (xI x4_9))]) hx hb 7 rfl (by decide) rfl dX2_runsFrom_59 ?_
        refine gg_goto (tgt := 9) hx hb dX2_runsFrom_62 rfl ?_
        refine gg_lv [3, 4, 5, 6, 7, 1, 0] rfl ?_
        exact h
      · have h := h.2.2 c44
        refine gg_iload hx hb 6 rfl dX2_runsFrom_47 ?_
        refine gg_if_ne (tgt := 55) hx hb h.1 dX2_runsFrom_49 rfl (fun c49 => ?_) (fun c49 => ?_)
        · have h := h.2.1 c49
          refine gg_iload hx hb 0 rfl dX2_runsFrom_55 ?_
          refine gg_istore (lv' := [(5, .int (xI r37)), (7, .int (xI r37)), (0, .ref (aa 7)), (1, .int (xI a1)), (2, .int (xI a2)), (3, .int (xI a3)), (4, .int (xI x4_9)), (6, .int (xI x6_9))]) hx hb (by decide) rfl dX2_runsFrom_57 ?_
          refine gg_iinc (lv' := [(6, .int (xI (x6_9 + 1))), (5, .int (xI r37)), (7, .int (xI r37)), (0, .ref (aa 7)), (1, .int (xI a1)), (2, .int (xI a2)), (3, .int (xI a3)), (4, .int (xI x4_9))]) hx hb 7 rfl (by decide) rfl dX2_runsFrom_59 ?_
          refine gg_goto (tgt := 9) hx hb dX2_runsFrom_62 rfl ?_
          refine gg_lv [3, 4, 5, 6, 7, 1, 0] rfl ?_
          exact h
        · have h := h.2.2 c49
          refine gg_iinc (lv' := [(4, .int (xI (x4_9 + 1))), (7, .int (xI r37)), (0, .ref (aa 7)), (1, .int (xI a1)), (2, .int (xI a2)), (3, .int (xI a3)), (5, .int (xI x5_9)), (6, .int (xI x6_9))]) hx hb 5 rfl (by decide) rfl dX2_runsFrom_52 ?_
          refine gg_iload hx hb 1 rfl dX2_runsFrom_55 ?_
          refine gg_istore (lv' := [(5, .int (xI r37)), (4, .int (xI (x4_9 + 1))), (7, .int (xI r37)), (0, .ref (aa 7)), (1, .int (xI a1)), (2, .int (xI a2)), (3, .int (xI a3)), (6, .int (xI x6_9))]) hx hb (by decide) rfl dX2_runsFrom_57 ?_
          refine gg_iinc (lv' := [(6, .int (xI (x6_9 + 1))), (5, .int (xI r37)), (4, .int (xI (x4_9 + 1))), (7, .int (xI r37)), (0, .ref (aa 7)), (1, .int (xI a1)), (2, .int (xI a2)), (3, .int (xI a3))]) hx hb 7 rfl (by decide) rfl dX2_runsFrom_59 ?_
          refine gg_goto (tgt := 9) hx hb dX2_runsFrom_62 rfl ?_
          refine gg_lv [4, 5, 6, 7, 2, 1, 0] rfl ?_
          exact h)
  refine gg_lv [3, 4, 5, 6, 2, 1, 0] rfl ?_
  exact h
