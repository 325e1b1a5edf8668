abbrev rmX6_steps : Room := { frames := 0, cells := 0, slots := 0, locals := 0 }
theorem iX6_steps_X6 : ∀ w ∈ u_ws RX6 TX6 4, w ∈ wsX6_steps := (fun _ h => List.mem_cons_of_mem _ (List.mem_append_right _ h))
theorem hd_X6_steps : (yX6_steps.cls = RX6 ∧ yX6_steps.cls ≠ "java/lang/invoke/MethodHandle" ∧ yX6_steps.cls ≠ "java/lang/invoke/VarHandle" ∧ (parseMethodDescriptor yX6_steps.desc).map (fun d => d.parameters.length) = some 0) := by decide +kernel
set_option maxRecDepth 100000 in
set_option maxHeartbeats 4000000 in
theorem c_X6_steps (l : Launch) (D : va_G) (aa : Nat → Nat) (cI cZ cJ : ClassId) (tR tU : Nat) (σ : xSt) (Post : Int → Prop) (h : wp_X6_steps σ Post) : MI l D (tyL cI cZ cJ) (cX aa cI cZ cJ) tR tU yX6_steps wsX6_steps rmX6_steps [.ref (aa 1)] σ (fun r9 σ9 => σ9 = σ ∧ Post r9) := by
  refine mi_of (cc := cX6_steps) (maxL := 1) (ret := (some .int)) (by decide) rfl (Nat.le_of_ble_eq_true rfl) ?_
  intro p e s m args below meth c A hF
  obtain ⟨hx, hb, hr, hml, hown, hts, hlk, hK, hZ, hA⟩ := hF
  have hown : s.vm.findClass RX6 = some m.cls := hown
  delta wp_X6_steps at h
  refine gg_lv (lv' := [(0, .ref (aa 1))]) [0] rfl ?_
  refine gg_aload_n hx hb 0 rfl rfl dX6_steps_0 ?_
  refine gg_get (C := RX6) (T := TX6) (N := 4) hx hb hts hown hK iX6_steps_X6 1 rfl rfl 3 (by decide) (List.mem_of_getElem? (i := 1) rfl) rfl dX6_steps_1 ?_
  exact gg_iret hx hb hr hlk ⟨rfl, h⟩ dX6_steps_4
abbrev rmX6_append : Room := { frames := 0, cells := 0, slots := 0, locals := 0 }
theorem iX6_append_X6 : ∀ w ∈ u_ws RX6 TX6 4, w ∈ wsX6_append := (fun _ h => List.mem_cons_of_mem _ (List.mem_append_right _ h))
theorem hd_X6_append : (yX6_append.cls = RX6 ∧ yX6_append.cls ≠ "java/lang/invoke/MethodHandle" ∧ yX6_append.cls ≠ "java/lang/invoke/VarHandle" ∧ (parseMethodDescriptor yX6_append.desc).map (fun d => d.parameters.length) = some 1) := by decide +kernel
set_option maxRecDepth 100000 in
set_option maxHeartbeats 4000000 in
theorem c_X6_append (l : Launch) (D : va_G) (aa : Nat → Nat) (cI cZ cJ : ClassId) (tR tU : Nat) (a1 : Int) (σ : xSt) (Post : xSt → Prop) (h : wp_X6_append a1 σ Post) : MV l D (tyL cI cZ cJ) (cX aa cI cZ cJ) tR tU yX6_append wsX6_append rmX6_append [.ref (aa 1), .int (xI a1)] σ Post := by
  refine mv_of (cc := cX6_append) (maxL := 2) (ret := none) (by decide) rfl (Nat.le_of_ble_eq_true rfl) ?_
  intro p e s m args below meth c A hF
  obtain ⟨hx, hb, hr, hml, hown, hts, hlk, hK, hZ, hA⟩ := hF
  have hown : s.vm.findClass RX6 = some m.cls := hown
  obtain ⟨hZ1, hZ2, hZ3, hZ4, hN1, hN2, hN3, hN4, hN5, hN6⟩ := id hZ
  delta wp_X6_append at h
  refine gg_lv (lv' := [(0, .ref (aa 1)), (1, .int (xI a1))]) [0, 1] rfl ?_
  refine gg_aload_n hx hb 0 rfl rfl dX6_append_0 ?_
  refine gg_get (C := RX6) (T := TX6) (N := 4) hx hb hts hown hK iX6_append_X6 1 rfl rfl 3 (by decide) (List.mem_of_getElem? (i := 1) rfl) rfl dX6_append_1 ?_
  refine gg_bipush hx hb dX6_append_4 rfl ?_
  refine gg_icmp_ge (tgt := 19) hx hb h.1 (by decide) dX6_append_6 rfl (fun c6 => ?_) (fun c6 => ?_)
  · have h := h.2.1 c6
    exact gg_vret hx hb hr hlk h dX6_append_19
  · have h := h.2.2 c6
    refine gg_iload_n hx hb 1 rfl rfl dX6_append_9 ?_
    refine gg_if_lt (tgt := 19) hx hb h.1 dX6_append_10 rfl (fun c10 => ?_) (fun c10 => ?_)
    · have h := h.2.1 c10
      exact gg_vret hx hb hr hlk h dX6_append_19
    · have h := h.2.2 c10
      refine gg_iload_n hx hb 1 rfl rfl dX6_append_13 ?_
      refine gg_bipush hx hb dX6_append_14 rfl ?_
      refine gg_icmp_lt (tgt := 20) hx hb h.1 (by decide) dX6_append_16 rfl (fun c16 => ?_) (fun c16 => ?_)
      · have h := h.2.1 c16
        refine gg_aload_n hx hb 0 rfl rfl dX6_append_20 ?_
        refine gg_get (C := RX6) (T := TX6) (N := 4) hx hb hts hown hK iX6_append_X6 1 rfl rfl 0 (by decide) (List.mem_of_getElem? (i := 2) rfl) rfl dX6_append_21 ?_
        refine gg_aload_n hx hb 0 rfl rfl dX6_append_24 ?_
        refine gg_get (C := RX6) (T := TX6) (N := 4) hx hb hts hown hK iX6_append_X6 1 rfl rfl 3 (by decide) (List.mem_of_getElem? (i := 1) rfl) rfl dX6_append_25 ?_
        refine gg_iload_n hx hb 1 rfl rfl dX6_append_28 ?_
        refine gg_iast hx hb hK 2 0 rfl rfl (cX_st_2 aa cI cZ cJ _ _) (by decide) h.1 dX6_append_29 (fun σ_29 e29 => ?_)
        have h := h.2 σ_29 e29
        refine gg_aload_n hx hb 0 rfl rfl dX6_append_30 ?_
        refine gg_get (C := RX6) (T := TX6) (N := 4) hx hb hts hown hK iX6_append_X6 1 rfl rfl 1 (by decide) (List.mem_of_getElem? (i := 3) rfl) rfl dX6_append_31 ?_
        refine gg_aload_n hx hb 0 rfl rfl dX6_append_34 ?_
        refine gg_get (C := RX6) (T := TX6) (N := 4) hx hb hts hown hK iX6_append_X6 1 rfl rfl 3 (by decide) (List.mem_of_getElem? (i := 1) rfl) rfl dX6_append_35 ?_
        refine gg_iconst hx hb dX6_append_38 ?_
        refine gg_iadd hx hb dX6_append_39 ?_
        refine gg_aload_n hx hb 0 rfl rfl dX6_append_40 ?_
        refine gg_get (C := RX6) (T := TX6) (N := 4) hx hb hts hown hK iX6_append_X6 1 rfl rfl 1 (by decide) (List.mem_of_getElem? (i := 3) rfl) rfl dX6_append_41 ?_
        refine gg_aload_n hx hb 0 rfl rfl dX6_append_44 ?_
        refine gg_get (C := RX6) (T := TX6) (N := 4) hx hb hts hown hK iX6_append_X6 1 rfl rfl 3 (by decide) (List.mem_of_getElem? (i := 1) rfl) rfl dX6_append_45 ?_
        refine gg_iald hx hb hK 3 0 rfl rfl (by decide) h.1 dX6_append_48 ?_
        have h := h.2
        refine gg_gets hx hb hZ1 hown hN5 dX6_append_49 ?_
        refine gg_iload_n hx hb 1 rfl rfl dX6_append_52 ?_
        refine gg_tald hx hb xRt hZ2 (by decide) h.1 dX6_append_53 ?_
        have h := h.2
        refine gg_iadd hx hb dX6_append_54 ?_
        refine gg_iast hx hb hK 3 0 rfl rfl (cX_st_3 aa cI cZ cJ _ _) (by decide) h.1 dX6_append_55 (fun σ_55 e55 => ?_)
        have h := h.2 σ_55 e55
        refine gg_aload_n hx hb 0 rfl rfl dX6_append_56 ?_
        refine gg_get (C := RX6) (T := TX6) (N := 4) hx hb hts hown hK iX6_append_X6 1 rfl rfl 2 (by decide) (List.mem_of_getElem? (i := 4) rfl) rfl dX6_append_57 ?_
        refine gg_aload_n hx hb 0 rfl rfl dX6_append_60 ?_
        refine gg_get (C := RX6) (T := TX6) (N := 4) hx hb hts hown hK iX6_append_X6 1 rfl rfl 3 (by decide) (List.mem_of_getElem? (i := 1) rfl) rfl dX6_append_61 ?_
        refine gg_iconst hx hb dX6_append_64 ?_
        refine gg_iadd hx hb dX6_append_65 ?_
        refine gg_aload_n hx hb 0 rfl rfl dX6_append_66 ?_
        refine gg_get (C := RX6) (T := TX6) (N := 4) hx hb hts hown hK iX6_append_X6 1 rfl rfl 2 (by decide) (List.mem_of_getElem? (i := 4) rfl) rfl dX6_append_67 ?_
        refine gg_aload_n hx hb 0 rfl rfl dX6_append_70 ?_
        refine gg_get (C := RX6) (T := TX6) (N := 4) hx hb hts hown hK iX6_append_X6 1 rfl rfl 3 (by decide) (List.mem_of_getElem? (i := 1) rfl) rfl dX6_append_71 ?_
        refine gg_iald hx hb hK 4 0 rfl rfl (by decide) h.1 dX6_append_74 ?_
        have h := h.2
        refine gg_gets hx hb hZ3 hown hN6 dX6_append_75 ?_
        refine gg_iload_n hx hb 1 rfl rfl dX6_append_78 ?_
        refine gg_tald hx hb xUp hZ4 (by decide) h.1 dX6_append_79 ?_
        have h := h.2
        refine gg_iadd hx hb dX6_append_80 ?_
        refine gg_iast hx hb hK 4 0 rfl rfl (cX_st_4 aa cI cZ cJ _ _) (by decide) h.1 dX6_append_81 (fun σ_81 e81 => ?_)
        have h := h.2 σ_81 e81
        refine gg_aload_n hx hb 0 rfl rfl dX6_append_82 ?_
        refine gg_dup hx hb rfl dX6_append_83 ?_
        refine gg_get (C := RX6) (T := TX6) (N := 4) hx hb hts hown hK iX6_append_X6 1 rfl rfl 3 (by decide) (List.mem_of_getElem? (i := 1) rfl) rfl dX6_append_84 ?_
        refine gg_iconst hx hb dX6_append_87 ?_
        refine gg_iadd hx hb dX6_append_88 ?_
        refine gg_put (C := RX6) (T := TX6) (N := 4) hx hb hts hown hK iX6_append_X6 tyX6 tyX6_ok nmX6 1 rfl rfl 3 (by decide) (List.mem_of_getElem? (i := 1) rfl) rfl rfl (Nat.le_of_ble_eq_true rfl) (cX_set_1_3 aa cI cZ cJ _ _) dX6_append_89 (fun σ_89 e89 => ?_)
        have h := h σ_89 e89
        exact gg_vret hx hb hr hlk h dX6_append_92
      · have h := h.2.2 c16
        exact gg_vret hx hb hr hlk h dX6_append_19
abbrev rmX9_step : Room := { frames := 1, cells := 0, slots := 0, locals := 21 }
theorem iX9_step_X9 : ∀ w ∈ u_ws RX9 TX9 9, w ∈ wsX9_step := (fun _ h => List.mem_cons_of_mem _ (List.mem_append_left _ (List.mem_append_right _ h)))
theorem hd_X9_step : (yX9_step.cls = RX9 ∧ yX9_step.cls ≠ "java/lang/invoke/MethodHandle" ∧ yX9_step.cls ≠ "java/lang/invoke/VarHandle" ∧ (parseMethodDescriptor yX9_step.desc).map (fun d => d.parameters.length) = some 1) := by decide +kernel
set_option maxRecDepth 100000 in
set_option maxHeartbeats 4000000 in
theorem c_X9_step (l : Launch) (D : va_G) (aa : Nat → Nat) (cI cZ cJ : ClassId) (tR tU : Nat) (a1 : Int) (σ : xSt) (Post : Int → xSt → Prop) (h : wp_X9_step a1 σ Post) : MI l D (tyL cI cZ cJ) (cX aa cI cZ cJ) tR tU yX9_step wsX9_step rmX9_step [.ref (aa 0), .int (xI a1)] σ Post := by
  refine mi_of (cc := cX9_step) (maxL := 2) (ret := (some .int)) (by decide) rfl (Nat.le_of_ble_eq_true rfl) ?_
  intro p e s m args below meth c A hF
  obtain ⟨hx, hb, hr, hml, hown, hts, hlk, hK, hZ, hA⟩ := hF
  have hown : s.vm.findClass RX9 = some m.cls := hown
  delta wp_X9_step at h
  refine gg_lv (lv' := [(0, .ref (aa 0)), (1, .int (xI a1))]) [0, 1] rfl ?_
  refine gg_iload_n hx hb 1 rfl rfl dX9_step_0 ?_
  refine gg_if_lt (tgt := 10) hx hb h.1 dX9_step_1 rfl (fun c1 => ?_) (fun c1 => ?_)
  · have h := h.2.1 c1
    refine gg_sipush hx hb dX9_step_10 rfl ?_
    exact gg_iret hx hb hr hlk h dX9_step_13
  · have h := h.2.2 c1
    refine gg_iload_n hx hb 1 rfl rfl dX9_step_4 ?_
    refine gg_bipush hx hb dX9_step_5 rfl ?_
    refine gg_icmp_lt (tgt := 14) hx hb h.1 (by decide) dX9_step_7 rfl (fun c7 => ?_) (fun c7 => ?_)
    · have h := h.2.1 c7
      refine gg_aload_n hx hb 0 rfl rfl dX9_step_14 ?_
      refine gg_get (C := RX9) (T := TX9) (N := 9) hx hb hts hown hK iX9_step_X9 0 rfl rfl 0 (by decide) (List.mem_of_getElem? (i := 1) rfl) rfl dX9_step_15 ?_
      refine gg_callVip (As := []) (rest := []) hx hb hml hown hts hK hZ hA (c_X6_steps l D aa cI cZ cJ tR tU σ _ h) (cwV 0 hts gX9_step_X6_steps rfl rfl rfl hd_X6_steps ⟨Nat.le_of_ble_eq_true rfl, Nat.le_of_ble_eq_true rfl⟩) 1 rfl rfl rfl rfl (Nat.le_of_ble_eq_true rfl) dX9_step_18 (fun r18 h => ?_)
      refine gg_bipush hx hb dX9_step_21 rfl ?_
      refine gg_icmp_lt (tgt := 30) hx hb h.1 (by decide) dX9_step_23 rfl (fun c23 => ?_) (fun c23 => ?_)
      · have h := h.2.1 c23
        refine gg_aload_n hx hb 0 rfl rfl dX9_step_30 ?_
        refine gg_get (C := RX9) (T := TX9) (N := 9) hx hb hts hown hK iX9_step_X9 0 rfl rfl 0 (by decide) (List.mem_of_getElem? (i := 1) rfl) rfl dX9_step_31 ?_
        refine gg_iload_n hx hb 1 rfl rfl dX9_step_34 ?_
        refine gg_callVv (As := [.int (xI a1)]) (rest := []) hx hb hml hown hts hK hZ hA (c_X6_append l D aa cI cZ cJ tR tU a1 σ _ h) (cwV 1 hts gX9_step_X6_append rfl rfl rfl hd_X6_append ⟨Nat.le_of_ble_eq_true rfl, Nat.le_of_ble_eq_true rfl⟩) 1 rfl rfl rfl rfl (Nat.le_of_ble_eq_true rfl) dX9_step_35 (fun t35 h => ?_)
        refine gg_aload_n hx hb 0 rfl rfl dX9_step_38 ?_
        refine gg_get (C := RX9) (T := TX9) (N := 9) hx hb hts hown hK iX9_step_X9 0 rfl rfl 0 (by decide) (List.mem_of_getElem? (i := 1) rfl) rfl dX9_step_39 ?_
        refine gg_callVip (As := []) (rest := []) hx hb hml hown hts hK hZ hA (c_X6_steps l D aa cI cZ cJ tR tU t35 _ h) (cwV 0 hts gX9_step_X6_steps rfl rfl rfl hd_X6_steps ⟨Nat.le_of_ble_eq_true rfl, Nat.le_of_ble_eq_true rfl⟩) 1 rfl rfl rfl rfl (Nat.le_of_ble_eq_true rfl) dX9_step_42 (fun r42 h => ?_)
        exact gg_iret hx hb hr hlk h dX9_step_45
      · have h := h.2.2 c23
        refine gg_sipush hx hb dX9_step_26 rfl ?_
        exact gg_iret hx hb hr hlk h dX9_step_29
    · have h := h.2.2 c7
      refine gg_sipush hx hb dX9_step_10 rfl ?_
      exact gg_iret hx hb hr hlk h dX9_step_13
abbrev rmX6_shorten : Room := { frames := 0, cells := 0, slots := 0, locals := 0 }
theorem iX6_shorten_X6 : ∀ w ∈ u_ws RX6 TX6 4, w ∈ wsX6_shorten := (fun _ h => List.mem_cons_of_mem _ (List.mem_append_right _ h))
theorem hd_X6_shorten : (yX6_shorten.cls = RX6 ∧ yX6_shorten.cls ≠ "java/lang/invoke/MethodHandle" ∧ yX6_shorten.cls ≠ "java/lang/invoke/VarHandle" ∧ (parseMethodDescriptor yX6_shorten.desc).map (fun d => d.parameters.length) = some 1) := by decide +kernel
set_option maxRecDepth 100000 in
set_option maxHeartbeats 4000000 in
theorem c_X6_shorten (l : Launch) (D : va_G) (aa : Nat → Nat) (cI cZ cJ : ClassId) (tR tU : Nat) (a1 : Int) (σ : xSt) (Post : xSt → Prop) (h : wp_X6_shorten a1 σ Post) : MV l D (tyL cI cZ cJ) (cX aa cI cZ cJ) tR tU yX6_shorten wsX6_shorten rmX6_shorten [.ref (aa 1), .int (xI a1)] σ Post := by
  refine mv_of (cc := cX6_shorten) (maxL := 2) (ret := none) (by decide) rfl (Nat.le_of_ble_eq_true rfl) ?_
  intro p e s m args below meth c A hF
  obtain ⟨hx, hb, hr, hml, hown, hts, hlk, hK, hZ, hA⟩ := hF
  have hown : s.vm.findClass RX6 = some m.cls := hown
  delta wp_X6_shorten at h
  refine gg_lv (lv' := [(0, .ref (aa 1)), (1, .int (xI a1))]) [0, 1] rfl ?_
  refine gg_iload_n hx hb 1 rfl rfl dX6_shorten_0 ?_
  refine gg_if_lt (tgt := 22) hx hb h.1 dX6_shorten_1 rfl (fun c1 => ?_) (fun c1 => ?_)
  · have h := h.2.1 c1
    exact gg_vret hx hb hr hlk h dX6_shorten_22
  · have h := h.2.2 c1
    refine gg_iload_n hx hb 1 rfl rfl dX6_shorten_4 ?_
    refine gg_aload_n hx hb 0 rfl rfl dX6_shorten_5 ?_
    refine gg_get (C := RX6) (T := TX6) (N := 4) hx hb hts hown hK iX6_shorten_X6 1 rfl rfl 3 (by decide) (List.mem_of_getElem? (i := 1) rfl) rfl dX6_shorten_6 ?_
    refine gg_icmp_gt (tgt := 22) hx hb h.1 h.2.1 dX6_shorten_9 rfl (fun c9 => ?_) (fun c9 => ?_)
    · have h := h.2.2.1 c9
      exact gg_vret hx hb hr hlk h dX6_shorten_22
    · have h := h.2.2.2 c9
      refine gg_aload_n hx hb 0 rfl rfl dX6_shorten_12 ?_
      refine gg_dup hx hb rfl dX6_shorten_13 ?_
      refine gg_get (C := RX6) (T := TX6) (N := 4) hx hb hts hown hK iX6_shorten_X6 1 rfl rfl 3 (by decide) (List.mem_of_getElem? (i := 1) rfl) rfl dX6_shorten_14 ?_
      refine gg_iload_n hx hb 1 rfl rfl dX6_shorten_17 ?_
      refine gg_isub hx hb dX6_shorten_18 ?_
      refine gg_put (C := RX6) (T := TX6) (N := 4) hx hb hts hown hK iX6_shorten_X6 tyX6 tyX6_ok nmX6 1 rfl rfl 3 (by decide) (List.mem_of_getElem? (i := 1) rfl) rfl rfl (Nat.le_of_ble_eq_true rfl) (cX_set_1_3 aa cI cZ cJ _ _) dX6_shorten_19 (fun σ_19 e19 => ?_)
      have h := h σ_19 e19
      exact gg_vret hx hb hr hlk h dX6_shorten_22
abbrev rmX9_back : Room := { frames := 1, cells := 0, slots := 0, locals := 21 }
theorem iX9_back_X9 : ∀ w ∈ u_ws RX9 TX9 9, w ∈ wsX9_back := (fun _ h => List.mem_cons_of_mem _ (List.mem_append_left _ (List.mem_append_right _ h)))
theorem hd_X9_back : (yX9_back.cls = RX9 ∧ yX9_back.cls ≠ "java/lang/invoke/MethodHandle" ∧ yX9_back.cls ≠ "java/lang/invoke/VarHandle" ∧ (parseMethodDescriptor yX9_back.desc).map (fun d => d.parameters.length) = some 1) := by decide +kernel
set_option maxRecDepth 100000 in
set_option maxHeartbeats 4000000 in
theorem c_X9_back (l : Launch) (D : va_G) (aa : Nat → Nat) (cI cZ cJ : ClassId) (tR tU : Nat) (a1 : Int) (σ : xSt) (Post : Int → xSt → Prop) (h : wp_X9_back a1 σ Post) : MI l D (tyL cI cZ cJ) (cX aa cI cZ cJ) tR tU yX9_back wsX9_back rmX9_back [.ref (aa 0), .int (xI a1)] σ Post := by
  refine mi_of (cc := cX9_back) (maxL := 2) (ret := (some .int)) (by decide) rfl (Nat.le_of_ble_eq_true rfl) ?_
  intro p e s m args below meth c A hF
  obtain ⟨hx, hb, hr, hml, hown, hts, hlk, hK, hZ, hA⟩ := hF
  have hown : s.vm.findClass RX9 = some m.cls := hown
  delta wp_X9_back at h
  refine gg_lv (lv' := [(0, .ref (aa 0)), (1, .int (xI a1))]) [0, 1] rfl ?_
  refine gg_iload_n hx hb 1 rfl rfl dX9_back_0 ?_
  refine gg_iconst hx hb dX9_back_1 ?_
  refine gg_icmp_lt (tgt := 11) hx hb h.1 (by decide) dX9_back_2 rfl (fun c2 => ?_) (fun c2 => ?_)
  · have h := h.2.1 c2
    refine gg_sipush hx hb dX9_back_11 rfl ?_
    exact gg_iret hx hb hr hlk h dX9_back_14
  · have h := h.2.2 c2
    refine gg_iload_n hx hb 1 rfl rfl dX9_back_5 ?_
    refine gg_bipush hx hb dX9_back_6 rfl ?_
    refine gg_icmp_le (tgt := 15) hx hb h.1 (by decide) dX9_back_8 rfl (fun c8 => ?_) (fun c8 => ?_)
    · have h := h.2.1 c8
      refine gg_iload_n hx hb 1 rfl rfl dX9_back_15 ?_
      refine gg_aload_n hx hb 0 rfl rfl dX9_back_16 ?_
      refine gg_get (C := RX9) (T := TX9) (N := 9) hx hb hts hown hK iX9_back_X9 0 rfl rfl 0 (by decide) (List.mem_of_getElem? (i := 1) rfl) rfl dX9_back_17 ?_
      refine gg_callVip (As := []) (rest := [.int (xI a1)]) hx hb hml hown hts hK hZ hA (c_X6_steps l D aa cI cZ cJ tR tU σ _ h) (cwV 0 hts gX9_back_X6_steps rfl rfl rfl hd_X6_steps ⟨Nat.le_of_ble_eq_true rfl, Nat.le_of_ble_eq_true rfl⟩) 1 rfl rfl rfl rfl (Nat.le_of_ble_eq_true rfl) dX9_back_20 (fun r20 h => ?_)
      refine gg_icmp_le (tgt := 30) hx hb h.1 h.2.1 dX9_back_23 rfl (fun c23 => ?_) (fun c23 => ?_)
      · have h := h.2.2.1 c23
        refine gg_aload_n hx hb 0 rfl rfl dX9_back_30 ?_
        refine gg_get (C := RX9) (T := TX9) (N := 9) hx hb hts hown hK iX9_back_X9 0 rfl rfl 0 (by decide) (List.mem_of_getElem? (i := 1) rfl) rfl dX9_back_31 ?_
        refine gg_iload_n hx hb 1 rfl rfl dX9_back_34 ?_
        refine gg_callVv (As := [.int (xI a1)]) (rest := []) hx hb hml hown hts hK hZ hA (c_X6_shorten l D aa cI cZ cJ tR tU a1 σ _ h) (cwV 1 hts gX9_back_X6_shorten rfl rfl rfl hd_X6_shorten ⟨Nat.le_of_ble_eq_true rfl, Nat.le_of_ble_eq_true rfl⟩) 1 rfl rfl rfl rfl (Nat.le_of_ble_eq_true rfl) dX9_back_35 (fun t35 h => ?_)
        refine gg_aload_n hx hb 0 rfl rfl dX9_back_38 ?_
        refine gg_get (C := RX9) (T := TX9) (N := 9) hx hb hts hown hK iX9_back_X9 0 rfl rfl 0 (by decide) (List.mem_of_getElem? (i := 1) rfl) rfl dX9_back_39 ?_
        refine gg_callVip (As := []) (rest := []) hx hb hml hown hts hK hZ hA (c_X6_steps l D aa cI cZ cJ tR tU t35 _ h) (cwV 0 hts gX9_back_X6_steps rfl rfl rfl hd_X6_steps ⟨Nat.le_of_ble_eq_true rfl, Nat.le_of_ble_eq_true rfl⟩) 1 rfl rfl rfl rfl (Nat.le_of_ble_eq_true rfl) dX9_back_42 (fun r42 h => ?_)
        exact gg_iret hx hb hr hlk h dX9_back_45
      · have h := h.2.2.2 c23
        refine gg_sipush hx hb dX9_back_26 rfl ?_
        exact gg_iret hx hb hr hlk h dX9_back_29
    · have h := h.2.2 c8
      refine gg_sipush hx hb dX9_back_11 rfl ?_
      exact gg_iret hx hb hr hlk h dX9_back_14
abbrev rmX6_hasStep : Room := { frames := 0, cells := 0, slots := 0, locals := 0 }
theorem iX6_hasStep_X6 : ∀ w ∈ u_ws RX6 TX6 4, w ∈ wsX6_hasStep := (fun _ h => List.mem_cons_of_mem _ (List.mem_append_right _ h))
theorem hd_X6_hasStep : (yX6_hasStep.cls = RX6 ∧ yX6_hasStep.cls ≠ "java/lang/invoke/MethodHandle" ∧ yX6_hasStep.cls ≠ "java/lang/invoke/VarHandle" ∧ (parseMethodDescriptor yX6_hasStep.desc).map (fun d => d.parameters.length) = some 1) := by decide +kernel
set_option maxRecDepth 100000 in
set_option maxHeartbeats 4000000 in
theorem c_X6_hasStep (l : Launch) (D : va_G) (aa : Nat → Nat) (cI cZ cJ : ClassId) (tR tU : Nat) (a1 : Int) (σ : xSt) (Post : Int → Prop) (h : wp_X6_hasStep a1 σ Post) : MI l D (tyL cI cZ cJ) (cX aa cI cZ cJ) tR tU yX6_hasStep wsX6_hasStep rmX6_hasStep [.ref (aa 1), .int (xI a1)] σ (fun r9 σ9 => σ9 = σ ∧ Post r9) := by
  refine mi_of (cc := cX6_hasStep) (maxL := 2) (ret := (some .boolean)) (by decide) rfl (Nat.le_of_ble_eq_true rfl) ?_
  intro p e s m args below meth c A hF
  obtain ⟨hx, hb, hr, hml, hown, hts, hlk, hK, hZ, hA⟩ := hF
  have hown : s.vm.findClass RX6 = some m.cls := hown
  delta wp_X6_hasStep at h
  refine gg_lv (lv' := [(0, .ref (aa 1)), (1, .int (xI a1))]) [0, 1] rfl ?_
  refine gg_iload_n hx hb 1 rfl rfl dX6_hasStep_0 ?_
  refine gg_if_lt (tgt := 16) hx hb h.1 dX6_hasStep_1 rfl (fun c1 => ?_) (fun c1 => ?_)
  · have h := h.2.1 c1
    refine gg_iconst hx hb dX6_hasStep_16 ?_
    exact gg_zret hx hb hr hlk (Or.inl rfl) ⟨rfl, h⟩ dX6_hasStep_17
  · have h := h.2.2 c1
    refine gg_iload_n hx hb 1 rfl rfl dX6_hasStep_4 ?_
    refine gg_aload_n hx hb 0 rfl rfl dX6_hasStep_5 ?_
    refine gg_get (C := RX6) (T := TX6) (N := 4) hx hb hts hown hK iX6_hasStep_X6 1 rfl rfl 3 (by decide) (List.mem_of_getElem? (i := 1) rfl) rfl dX6_hasStep_6 ?_
    refine gg_icmp_ge (tgt := 16) hx hb h.1 h.2.1 dX6_hasStep_9 rfl (fun c9 => ?_) (fun c9 => ?_)
    · have h := h.2.2.1 c9
      refine gg_iconst hx hb dX6_hasStep_16 ?_
      exact gg_zret hx hb hr hlk (Or.inl rfl) ⟨rfl, h⟩ dX6_hasStep_17
    · have h := h.2.2.2 c9
      refine gg_iconst hx hb dX6_hasStep_12 ?_
      refine gg_goto (tgt := 17) hx hb dX6_hasStep_13 rfl ?_
      exact gg_zret hx hb hr hlk (Or.inr rfl) ⟨rfl, h⟩ dX6_hasStep_17
abbrev rmX6_wayOf : Room := { frames := 1, cells := 0, slots := 0, locals := 21 }
theorem iX6_wayOf_X6 : ∀ w ∈ u_ws RX6 TX6 4, w ∈ wsX6_wayOf := (fun _ h => List.mem_cons_of_mem _ (List.mem_append_right _ h))
theorem hd_X6_wayOf : (yX6_wayOf.cls = RX6 ∧ yX6_wayOf.cls ≠ "java/lang/invoke/MethodHandle" ∧ yX6_wayOf.cls ≠ "java/lang/invoke/VarHandle" ∧ (parseMethodDescriptor yX6_wayOf.desc).map (fun d => d.parameters.length) = some 1) := by decide +kernel
set_option maxRecDepth 100000 in
set_option maxHeartbeats 4000000 in
theorem c_X6_wayOf (l : Launch) (D : va_G) (aa : Nat → Nat) (cI cZ cJ : ClassId) (tR tU : Nat) (a1 : Int) (σ : xSt) (Post : Int → Prop) (h : wp_X6_wayOf a1 σ Post) : MI l D (tyL cI cZ cJ) (cX aa cI cZ cJ) tR tU yX6_wayOf wsX6_wayOf rmX6_wayOf [.ref (aa 1), .int (xI a1)] σ (fun r9 σ9 => σ9 = σ ∧ Post r9) := by
  refine mi_of (cc := cX6_wayOf) (maxL := 2) (ret := (some .int)) (by decide) rfl (Nat.le_of_ble_eq_true rfl) ?_
  intro p e s m args below meth c A hF
  obtain ⟨hx, hb, hr, hml, hown, hts, hlk, hK, hZ, hA⟩ := hF
  have hown : s.vm.findClass RX6 = some m.cls := hown
  delta wp_X6_wayOf at h
  refine gg_lv (lv' := [(0, .ref (aa 1)), (1, .int (xI a1))]) [0, 1] rfl ?_
  refine gg_aload_n hx hb 0 rfl rfl dX6_wayOf_0 ?_
  refine gg_iload_n hx hb 1 rfl rfl dX6_wayOf_1 ?_
  refine gg_callVip (As := [.int (xI a1)]) (rest := []) hx hb hml hown hts hK hZ hA (c_X6_hasStep l D aa cI cZ cJ tR tU a1 σ _ h) (cwV 1 hts gX6_wayOf_X6_hasStep rfl rfl rfl hd_X6_hasStep ⟨Nat.le_of_ble_eq_true rfl, Nat.le_of_ble_eq_true rfl⟩) 1 rfl rfl rfl rfl (Nat.le_of_ble_eq_true rfl) dX6_wayOf_2 (fun r2 h => ?_)
  refine gg_if_eq (tgt := 17) hx hb h.1 dX6_wayOf_5 rfl (fun c5 => ?_) (fun c5 => ?_)
  · have h := h.2.1 c5
    refine gg_iconst hx hb dX6_wayOf_17 ?_
    exact gg_iret hx hb hr hlk ⟨rfl, h⟩ dX6_wayOf_18
  · have h := h.2.2 c5
    refine gg_aload_n hx hb 0 rfl rfl dX6_wayOf_8 ?_
    refine gg_get (C := RX6) (T := TX6) (N := 4) hx hb hts hown hK iX6_wayOf_X6 1 rfl rfl 0 (by decide) (List.mem_of_getElem? (i := 1) rfl) rfl dX6_wayOf_9 ?_
    refine gg_iload_n hx hb 1 rfl rfl dX6_wayOf_12 ?_
    refine gg_iald hx hb hK 2 0 rfl rfl (by decide) h.1 dX6_wayOf_13 ?_
    have h := h.2
    refine gg_goto (tgt := 18) hx hb dX6_wayOf_14 rfl ?_
    exact gg_iret hx hb hr hlk ⟨rfl, h⟩ dX6_wayOf_18
abbrev rmX9_way : Room := { frames := 2, cells := 0, slots := 0, locals := 42 }
theorem iX9_way_X9 : ∀ w ∈ u_ws RX9 TX9 9, w ∈ wsX9_way := (fun _ h => List.mem_cons_of_mem _ (List.mem_append_left _ (List.mem_append_right _ h)))
theorem hd_X9_way : (yX9_way.cls = RX9 ∧ yX9_way.cls ≠ "java/lang/invoke/MethodHandle" ∧ yX9_way.cls ≠ "java/lang/invoke/VarHandle" ∧ (parseMethodDescriptor yX9_way.desc).map (fun d => d.parameters.length) = some 1) := by decide +kernel
set_option maxRecDepth 100000 in
set_option maxHeartbeats 4000000 in
theorem c_X9_way (l : Launch) (D : va_G) (aa : Nat → Nat) (cI cZ cJ : ClassId) (tR tU : Nat) (a1 : Int) (σ : xSt) (Post : Int → Prop) (h : wp_X9_way a1 σ Post) : MI l D (tyL cI cZ cJ) (cX aa cI cZ cJ) tR tU yX9_way wsX9_way rmX9_way [.ref (aa 0), .int (xI a1)] σ (fun r9 σ9 => σ9 = σ ∧ Post r9) := by
  refine mi_of (cc := cX9_way) (maxL := 2) (ret := (some .int)) (by decide) rfl (Nat.le_of_ble_eq_true rfl) ?_
  intro p e s m args below meth c A hF
  obtain ⟨hx, hb, hr, hml, hown, hts, hlk, hK, hZ, hA⟩ := hF
  have hown : s.vm.findClass RX9 = some m.cls := hown
  delta wp_X9_way at h
  refine gg_lv (lv' := [(0, .ref (aa 0)), (1, .int (xI a1))]) [0, 1] rfl ?_
  refine gg_aload_n hx hb 0 rfl rfl dX9_way_0 ?_
  refine gg_get (C := RX9) (T := TX9) (N := 9) hx hb hts hown hK iX9_way_X9 0 rfl rfl 0 (by decide) (List.mem_of_getElem? (i := 1) rfl) rfl dX9_way_1 ?_
  refine gg_iload_n hx hb 1 rfl rfl dX9_way_4 ?_
  refine gg_callVip (As := [.int (xI a1)]) (rest := []) hx hb hml hown hts hK hZ hA (c_X6_hasStep l D aa cI cZ cJ tR tU a1 σ _ h) (cwV 1 hts gX9_way_X6_hasStep rfl rfl rfl hd_X6_hasStep ⟨Nat.le_of_ble_eq_true rfl, Nat.le_of_ble_eq_true rfl⟩) 1 rfl rfl rfl rfl (Nat.le_of_ble_eq_true rfl) dX9_way_5 (fun r5 h => ?_)
  refine gg_if_eq (tgt := 22) hx hb h.1 dX9_way_8 rfl (fun c8 => ?_) (fun c8 => ?_)
  · have h := h.2.1 c8
    refine gg_sipush hx hb dX9_way_22 rfl ?_
    exact gg_iret hx hb hr hlk ⟨rfl, h⟩ dX9_way_25
  · have h := h.2.2 c8
    refine gg_aload_n hx hb 0 rfl rfl dX9_way_11 ?_
    refine gg_get (C := RX9) (T := TX9) (N := 9) hx hb hts hown hK iX9_way_X9 0 rfl rfl 0 (by decide) (List.mem_of_getElem? (i := 1) rfl) rfl dX9_way_12 ?_
    refine gg_iload_n hx hb 1 rfl rfl dX9_way_15 ?_
    refine gg_callVip (As := [.int (xI a1)]) (rest := []) hx hb hml hown hts hK hZ hA (c_X6_wayOf l D aa cI cZ cJ tR tU a1 σ _ h) (cwV 1 hts gX9_way_X6_wayOf rfl rfl rfl hd_X6_wayOf ⟨Nat.le_of_ble_eq_true rfl, Nat.le_of_ble_eq_true rfl⟩) 1 rfl rfl rfl rfl (Nat.le_of_ble_eq_true rfl) dX9_way_16 (fun r16 h => ?_)
    refine gg_goto (tgt := 25) hx hb dX9_way_19 rfl ?_
    exact gg_iret hx hb hr hlk ⟨rfl, h⟩ dX9_way_25
abbrev rmX6_hasPlace : Room := { frames := 0, cells := 0, slots := 0, locals := 0 }
theorem iX6_hasPlace_X6 : ∀ w ∈ u_ws RX6 TX6 4, w ∈ wsX6_hasPlace := (fun _ h => List.mem_cons_of_mem _ (List.mem_append_right _ h))
theorem hd_X6_hasPlace : (yX6_hasPlace.cls = RX6 ∧ yX6_hasPlace.cls ≠ "java/lang/invoke/MethodHandle" ∧ yX6_hasPlace.cls ≠ "java/lang/invoke/VarHandle" ∧ (parseMethodDescriptor yX6_hasPlace.desc).map (fun d => d.parameters.length) = some 1) := by decide +kernel
set_option maxRecDepth 100000 in
set_option maxHeartbeats 4000000 in
theorem c_X6_hasPlace (l : Launch) (D : va_G) (aa : Nat → Nat) (cI cZ cJ : ClassId) (tR tU : Nat) (a1 : Int) (σ : xSt) (Post : Int → Prop) (h : wp_X6_hasPlace a1 σ Post) : MI l D (tyL cI cZ cJ) (cX aa cI cZ cJ) tR tU yX6_hasPlace wsX6_hasPlace rmX6_hasPlace [.ref (aa 1), .int (xI a1)] σ (fun r9 σ9 => σ9 = σ ∧ Post r9) := by
  refine mi_of (cc := cX6_hasPlace) (maxL := 2) (ret := (some .boolean)) (by decide) rfl (Nat.le_of_ble_eq_true rfl) ?_
  intro p e s m args below meth c A hF
  obtain ⟨hx, hb, hr, hml, hown, hts, hlk, hK, hZ, hA⟩ := hF
  have hown : s.vm.findClass RX6 = some m.cls := hown
  delta wp_X6_hasPlace at h
  refine gg_lv (lv' := [(0, .ref (aa 1)), (1, .int (xI a1))]) [0, 1] rfl ?_
  refine gg_iload_n hx hb 1 rfl rfl dX6_hasPlace_0 ?_
  refine gg_if_lt (tgt := 16) hx hb h.1 dX6_hasPlace_1 rfl (fun c1 => ?_) (fun c1 => ?_)
  · have h := h.2.1 c1
    refine gg_iconst hx hb dX6_hasPlace_16 ?_
    exact gg_zret hx hb hr hlk (Or.inl rfl) ⟨rfl, h⟩ dX6_hasPlace_17
  · have h := h.2.2 c1
    refine gg_iload_n hx hb 1 rfl rfl dX6_hasPlace_4 ?_
    refine gg_aload_n hx hb 0 rfl rfl dX6_hasPlace_5 ?_
    refine gg_get (C := RX6) (T := TX6) (N := 4) hx hb hts hown hK iX6_hasPlace_X6 1 rfl rfl 3 (by decide) (List.mem_of_getElem? (i := 1) rfl) rfl dX6_hasPlace_6 ?_
    refine gg_icmp_gt (tgt := 16) hx hb h.1 h.2.1 dX6_hasPlace_9 rfl (fun c9 => ?_) (fun c9 => ?_)
    · have h := h.2.2.1 c9
      refine gg_iconst hx hb dX6_hasPlace_16 ?_
      exact gg_zret hx hb hr hlk (Or.inl rfl) ⟨rfl, h⟩ dX6_hasPlace_17
    · have h := h.2.2.2 c9
      refine gg_iconst hx hb dX6_hasPlace_12 ?_
      refine gg_goto (tgt := 17) hx hb dX6_hasPlace_13 rfl ?_
      exact gg_zret hx hb hr hlk (Or.inr rfl) ⟨rfl, h⟩ dX6_hasPlace_17
abbrev rmX6_yOf : Room := { frames := 1, cells := 0, slots := 0, locals := 21 }
theorem iX6_yOf_X6 : ∀ w ∈ u_ws RX6 TX6 4, w ∈ wsX6_yOf := (fun _ h => List.mem_cons_of_mem _ (List.mem_append_right _ h))
theorem hd_X6_yOf : (yX6_yOf.cls = RX6 ∧ yX6_yOf.cls ≠ "java/lang/invoke/MethodHandle" ∧ yX6_yOf.cls ≠ "java/lang/invoke/VarHandle" ∧ (parseMethodDescriptor yX6_yOf.desc).map (fun d => d.parameters.length) = some 1) := by decide +kernel
set_option maxRecDepth 100000 in
set_option maxHeartbeats 4000000 in
theorem c_X6_yOf (l : Launch) (D : va_G) (aa : Nat → Nat) (cI cZ cJ : ClassId) (tR tU : Nat) (a1 : Int) (σ : xSt) (Post : Int → Prop) (h : wp_X6_yOf a1 σ Post) : MI l D (tyL cI cZ cJ) (cX aa cI cZ cJ) tR tU yX6_yOf wsX6_yOf rmX6_yOf [.ref (aa 1), .int (xI a1)] σ (fun r9 σ9 => σ9 = σ ∧ Post r9) := by
  refine mi_of (cc := cX6_yOf) (maxL := 2) (ret := (some .int)) (by decide) rfl (Nat.le_of_ble_eq_true rfl) ?_
  intro p e s m args below meth c A hF
  obtain ⟨hx, hb, hr, hml, hown, hts, hlk, hK, hZ, hA⟩ := hF
  have hown : s.vm.findClass RX6 = some m.cls := hown
  delta wp_X6_yOf at h
  refine gg_lv (lv' := [(0, .ref (aa 1)), (1, .int (xI a1))]) [0, 1] rfl ?_
  refine gg_aload_n hx hb 0 rfl rfl dX6_yOf_0 ?_
  refine gg_iload_n hx hb 1 rfl rfl dX6_yOf_1 ?_
  refine gg_callVip (As := [.int (xI a1)]) (rest := []) hx hb hml hown hts hK hZ hA (c_X6_hasPlace l D aa cI cZ cJ tR tU a1 σ _ h) (cwV 1 hts gX6_yOf_X6_hasPlace rfl rfl rfl hd_X6_hasPlace ⟨Nat.le_of_ble_eq_true rfl, Nat.le_of_ble_eq_true rfl⟩) 1 rfl rfl rfl rfl (Nat.le_of_ble_eq_true rfl) dX6_yOf_2 (fun r2 h => ?_)
  refine gg_if_eq (tgt := 17) hx hb h.1 dX6_yOf_5 rfl (fun c5 => ?_) (fun c5 => ?_)
  · have h := h.2.1 c5
    refine gg_iconst hx hb dX6_yOf_17 ?_
    exact gg_iret hx hb hr hlk ⟨rfl, h⟩ dX6_yOf_18
  · have h := h.2.2 c5
    refine gg_aload_n hx hb 0 rfl rfl dX6_yOf_8 ?_
    refine gg_get (C := RX6) (T := TX6) (N := 4) hx hb hts hown hK iX6_yOf_X6 1 rfl rfl 2 (by decide) (List.mem_of_getElem? (i := 1) rfl) rfl dX6_yOf_9 ?_
    refine gg_iload_n hx hb 1 rfl rfl dX6_yOf_12 ?_
    refine gg_iald hx hb hK 4 0 rfl rfl (by decide) h.1 dX6_yOf_13 ?_
    have h := h.2
    refine gg_goto (tgt := 18) hx hb dX6_yOf_14 rfl ?_
    exact gg_iret hx hb hr hlk ⟨rfl, h⟩ dX6_yOf_18
abbrev rmX6_xOf : Room := { frames := 1, cells := 0, slots := 0, locals := 21 }
theorem iX6_xOf_X6 : ∀ w ∈ u_ws RX6 TX6 4, w ∈ wsX6_xOf := (fun _ h => List.mem_cons_of_mem _ (List.mem_append_right _ h))
theorem hd_X6_xOf : (yX6_xOf.cls = RX6 ∧ yX6_xOf.cls ≠ "java/lang/invoke/MethodHandle" ∧ yX6_xOf.cls ≠ "java/lang/invoke/VarHandle" ∧ (parseMethodDescriptor yX6_xOf.desc).map (fun d => d.parameters.length) = some 1) := by decide +kernel
set_option maxRecDepth 100000 in
set_option maxHeartbeats 4000000 in
theorem c_X6_xOf (l : Launch) (D : va_G) (aa : Nat → Nat) (cI cZ cJ : ClassId) (tR tU : Nat) (a1 : Int) (σ : xSt) (Post : Int → Prop) (h : wp_X6_xOf a1 σ Post) : MI l D (tyL cI cZ cJ) (cX aa cI cZ cJ) tR tU yX6_xOf wsX6_xOf rmX6_xOf [.ref (aa 1), .int (xI a1)] σ (fun r9 σ9 => σ9 = σ ∧ Post r9) := by
  refine mi_of (cc := cX6_xOf) (maxL := 2) (ret := (some .int)) (by decide) rfl (Nat.le_of_ble_eq_true rfl) ?_
  intro p e s m args below meth c A hF
  obtain ⟨hx, hb, hr, hml, hown, hts, hlk, hK, hZ, hA⟩ := hF
  have hown : s.vm.findClass RX6 = some m.cls := hown
  delta wp_X6_xOf at h
  refine gg_lv (lv' := [(0, .ref (aa 1)), (1, .int (xI a1))]) [0, 1] rfl ?_
  refine gg_aload_n hx hb 0 rfl rfl dX6_xOf_0 ?_
  refine gg_iload_n hx hb 1 rfl rfl dX6_xOf_1 ?_
  refine gg_callVip (As := [.int (xI a1)]) (rest := []) hx hb hml hown hts hK hZ hA (c_X6_hasPlace l D aa cI cZ cJ tR tU a1 σ _ h) (cwV 1 hts gX6_xOf_X6_hasPlace rfl rfl rfl hd_X6_hasPlace ⟨Nat.le_of_ble_eq_true rfl, Nat.le_of_ble_eq_true rfl⟩) 1 rfl rfl rfl rfl (Nat.le_of_ble_eq_true rfl) dX6_xOf_2 (fun r2 h => ?_)
  refine gg_if_eq (tgt := 17) hx hb h.1 dX6_xOf_5 rfl (fun c5 => ?_) (fun c5 => ?_)
  · have h := h.2.1 c5
    refine gg_iconst hx hb dX6_xOf_17 ?_
    exact gg_iret hx hb hr hlk ⟨rfl, h⟩ dX6_xOf_18
  · have h := h.2.2 c5
    refine gg_aload_n hx hb 0 rfl rfl dX6_xOf_8 ?_
    refine gg_get (C := RX6) (T := TX6) (N := 4) hx hb hts hown hK iX6_xOf_X6 1 rfl rfl 1 (by decide) (List.mem_of_getElem? (i := 1) rfl) rfl dX6_xOf_9 ?_
    refine gg_iload_n hx hb 1 rfl rfl dX6_xOf_12 ?_
    refine gg_iald hx hb hK 3 0 rfl rfl (by decide) h.1 dX6_xOf_13 ?_
    have h := h.2
    refine gg_goto (tgt := 18) hx hb dX6_xOf_14 rfl ?_
    exact gg_iret hx hb hr hlk ⟨rfl, h⟩ dX6_xOf_18
abbrev rmX9_place : Room := { frames := 2, cells := 0, slots := 0, locals := 42 }
theorem iX9_place_X9 : ∀ w ∈ u_ws RX9 TX9 9, w ∈ wsX9_place := (fun _ h => List.mem_cons_of_mem _ (List.mem_append_left _ (List.mem_append_right _ h)))
theorem hd_X9_place : (yX9_place.cls = RX9 ∧ yX9_place.cls ≠ "java/lang/invoke/MethodHandle" ∧ yX9_place.cls ≠ "java/lang/invoke/VarHandle" ∧ (parseMethodDescriptor yX9_place.desc).map (fun d => d.parameters.length) = some 2) := by decide +kernel
set_option maxRecDepth 100000 in
set_option maxHeartbeats 4000000 in
theorem c_X9_place (l : Launch) (D : va_G) (aa : Nat → Nat) (cI cZ cJ : ClassId) (tR tU : Nat) (a1 : Int) (a2 : Int) (σ : xSt) (Post : Int → Prop) (h : wp_X9_place a1 a2 σ Post) : MI l D (tyL cI cZ cJ) (cX aa cI cZ cJ) tR tU yX9_place wsX9_place rmX9_place [.ref (aa 0), .int (xI a1), .int (xI a2)] σ (fun r9 σ9 => σ9 = σ ∧ Post r9) := by
  refine mi_of (cc := cX9_place) (maxL := 3) (ret := (some .int)) (by decide) rfl (Nat.le_of_ble_eq_true rfl) ?_
  intro p e s m args below meth c A hF
  obtain ⟨hx, hb, hr, hml, hown, hts, hlk, hK, hZ, hA⟩ := hF
  have hown : s.vm.findClass RX9 = some m.cls := hown
  delta wp_X9_place at h
  refine gg_lv (lv' := [(0, .ref (aa 0)), (1, .int (xI a1)), (2, .int (xI a2))]) [0, 1, 2] rfl ?_
  refine gg_aload_n hx hb 0 rfl rfl dX9_place_0 ?_
  refine gg_get (C := RX9) (T := TX9) (N := 9) hx hb hts hown hK iX9_place_X9 0 rfl rfl 0 (by decide) (List.mem_of_getElem? (i := 1) rfl) rfl dX9_place_1 ?_
  refine gg_iload_n hx hb 1 rfl rfl dX9_place_4 ?_
  refine gg_callVip (As := [.int (xI a1)]) (rest := []) hx hb hml hown hts hK hZ hA (c_X6_hasPlace l D aa cI cZ cJ tR tU a1 σ _ h) (cwV 1 hts gX9_place_X6_hasPlace rfl rfl rfl hd_X6_hasPlace ⟨Nat.le_of_ble_eq_true rfl, Nat.le_of_ble_eq_true rfl⟩) 1 rfl rfl rfl rfl (Nat.le_of_ble_eq_true rfl) dX9_place_5 (fun r5 h => ?_)
  refine gg_if_ne (tgt := 15) hx hb h.1 dX9_place_8 rfl (fun c8 => ?_) (fun c8 => ?_)
  · have h := h.2.1 c8
    refine gg_iload_n hx hb 2 rfl rfl dX9_place_15 ?_
    refine gg_if_eq (tgt := 30) hx hb h.1 dX9_place_16 rfl (fun c16 => ?_) (fun c16 => ?_)
    · have h := h.2.1 c16
      refine gg_aload_n hx hb 0 rfl rfl dX9_place_30 ?_
      refine gg_get (C := RX9) (T := TX9) (N := 9) hx hb hts hown hK iX9_place_X9 0 rfl rfl 0 (by decide) (List.mem_of_getElem? (i := 1) rfl) rfl dX9_place_31 ?_
      refine gg_iload_n hx hb 1 rfl rfl dX9_place_34 ?_
      refine gg_callVip (As := [.int (xI a1)]) (rest := []) hx hb hml hown hts hK hZ hA (c_X6_xOf l D aa cI cZ cJ tR tU a1 σ _ h) (cwV 1 hts gX9_place_X6_xOf rfl rfl rfl hd_X6_xOf ⟨Nat.le_of_ble_eq_true rfl, Nat.le_of_ble_eq_true rfl⟩) 1 rfl rfl rfl rfl (Nat.le_of_ble_eq_true rfl) dX9_place_35 (fun r35 h => ?_)
      exact gg_iret hx hb hr hlk ⟨rfl, h⟩ dX9_place_38
    · have h := h.2.2 c16
      refine gg_aload_n hx hb 0 rfl rfl dX9_place_19 ?_
      refine gg_get (C := RX9) (T := TX9) (N := 9) hx hb hts hown hK iX9_place_X9 0 rfl rfl 0 (by decide) (List.mem_of_getElem? (i := 1) rfl) rfl dX9_place_20 ?_
      refine gg_iload_n hx hb 1 rfl rfl dX9_place_23 ?_
      refine gg_callVip (As := [.int (xI a1)]) (rest := []) hx hb hml hown hts hK hZ hA (c_X6_yOf l D aa cI cZ cJ tR tU a1 σ _ h) (cwV 1 hts gX9_place_X6_yOf rfl rfl rfl hd_X6_yOf ⟨Nat.le_of_ble_eq_true rfl, Nat.le_of_ble_eq_true rfl⟩) 1 rfl rfl rfl rfl (Nat.le_of_ble_eq_true rfl) dX9_place_24 (fun r24 h => ?_)
      refine gg_goto (tgt := 38) hx hb dX9_place_27 rfl ?_
      exact gg_iret hx hb hr hlk ⟨rfl, h⟩ dX9_place_38
  · have h := h.2.2 c8
    refine gg_sipush hx hb dX9_place_11 rfl ?_
    exact gg_iret hx hb hr hlk ⟨rfl, h⟩ dX9_place_14
abbrev rmJ9_floorDiv_7cf53 : Room := { frames := 0, cells := 0, slots := 0, locals := 0 }
theorem hd_J9_floorDiv_7cf53 : (yJ9_floorDiv_7cf53.cls ≠ "java/lang/invoke/MethodHandle" ∧ yJ9_floorDiv_7cf53.cls ≠ "java/lang/invoke/VarHandle" ∧ (parseMethodDescriptor yJ9_floorDiv_7cf53.desc).map (fun d => d.parameters.length) = some 2) := by decide +kernel
set_option maxRecDepth 100000 in
set_option maxHeartbeats 4000000 in
theorem c_J9_floorDiv_7cf53 (l : Launch) (D : va_G) (aa : Nat → Nat) (cI cZ cJ : ClassId) (tR tU : Nat) (a0 : Int) (a1 : Int) (σ : xSt) (Post : Int → Prop) (h : wp_J9_floorDiv_7cf53 a0 a1 σ Post) : MI l D (tyL cI cZ cJ) (cX aa cI cZ cJ) tR tU yJ9_floorDiv_7cf53 wsJ9_floorDiv_7cf53 rmJ9_floorDiv_7cf53 [.int (xI a0), .int (xI a1)] σ (fun r9 σ9 => σ9 = σ ∧ Post r9) := by
  refine mi_ofF (cc := cJ9_floorDiv_7cf53) (maxL := 3) (ret := (some .int)) (by decide +kernel) rfl (Nat.le_of_ble_eq_true rfl) ?_
  intro p e s m args below meth c A hF
  obtain ⟨hx, hb, hr, hml, hown, hts, hlk, hK, hZ, hA⟩ := hF
  have hown : s.vm.findClass RJ9 = some m.cls := hown
  delta wp_J9_floorDiv_7cf53 at h
  refine gg_lv (lv' := [(0, .int (xI a0)), (1, .int (xI a1))]) [0, 1] rfl ?_
  refine gg_iload_n hx hb 0 rfl rfl dJ9_floorDiv_7cf53_0 ?_
  refine gg_iload_n hx hb 1 rfl rfl dJ9_floorDiv_7cf53_1 ?_
  refine gg_idiv hx hb h.1 h.2.1 h.2.2.1 dJ9_floorDiv_7cf53_2 ?_
  have h := h.2.2.2
  refine gg_istore_n (lv' := [(2, .int (xI (Int.tdiv a0 a1))), (0, .int (xI a0)), (1, .int (xI a1))]) hx hb rfl (by decide) rfl dJ9_floorDiv_7cf53_3 ?_
  refine gg_iload_n hx hb 1 rfl rfl dJ9_floorDiv_7cf53_4 ?_
  refine gg_iload_n hx hb 2 rfl rfl dJ9_floorDiv_7cf53_5 ?_
  refine gg_ixor hx hb dJ9_floorDiv_7cf53_6 ?_
  refine gg_if_ge (tgt := 21) hx hb h.1 dJ9_floorDiv_7cf53_7 rfl (fun c7 => ?_) (fun c7 => ?_)
  · have h := h.2.1 c7
    refine gg_iload_n hx hb 0 rfl rfl dJ9_floorDiv_7cf53_21 ?_
    exact gg_iret hx hb hr hlk ⟨rfl, h⟩ dJ9_floorDiv_7cf53_22
  · have h := h.2.2 c7
    refine gg_iload_n hx hb 0 rfl rfl dJ9_floorDiv_7cf53_10 ?_
    refine gg_iload_n hx hb 2 rfl rfl dJ9_floorDiv_7cf53_11 ?_
    refine gg_imul hx hb dJ9_floorDiv_7cf53_12 ?_
    refine gg_iload_n hx hb 1 rfl rfl dJ9_floorDiv_7cf53_13 ?_
    refine gg_icmp_eq (tgt := 21) hx hb h.1 h.2.1 dJ9_floorDiv_7cf53_14 rfl (fun c14 => ?_) (fun c14 => ?_)
    · have h := h.2.2.1 c14
      refine gg_iload_n hx hb 0 rfl rfl dJ9_floorDiv_7cf53_21 ?_
      exact gg_iret hx hb hr hlk ⟨rfl, h⟩ dJ9_floorDiv_7cf53_22
    · have h := h.2.2.2 c14
      refine gg_iload_n hx hb 0 rfl rfl dJ9_floorDiv_7cf53_17 ?_
      refine gg_iconst hx hb dJ9_floorDiv_7cf53_18 ?_
      refine gg_isub hx hb dJ9_floorDiv_7cf53_19 ?_
      exact gg_iret hx hb hr hlk ⟨rfl, h⟩ dJ9_floorDiv_7cf53_20
abbrev rmX6_nearest : Room := { frames := 1, cells := 0, slots := 0, locals := 22 }
theorem hd_X6_nearest : (yX6_nearest.cls ≠ "java/lang/invoke/MethodHandle" ∧ yX6_nearest.cls ≠ "java/lang/invoke/VarHandle" ∧ (parseMethodDescriptor yX6_nearest.desc).map (fun d => d.parameters.length) = some 2) := by decide +kernel
set_option maxRecDepth 100000 in
set_option maxHeartbeats 4000000 in
theorem c_X6_nearest (l : Launch) (D : va_G) (aa : Nat → Nat) (cI cZ cJ : ClassId) (tR tU : Nat) (a0 : Int) (a1 : Int) (σ : xSt) (Post : Int → Prop) (h : wp_X6_nearest a0 a1 σ Post) : MI l D (tyL cI cZ cJ) (cX aa cI cZ cJ) tR tU yX6_nearest wsX6_nearest rmX6_nearest [.int (xI a0), .int (xI a1)] σ (fun r9 σ9 => σ9 = σ ∧ Post r9) := by
  refine mi_of (cc := cX6_nearest) (maxL := 2) (ret := (some .int)) (by decide) rfl (Nat.le_of_ble_eq_true rfl) ?_
  intro p e s m args below meth c A hF
  obtain ⟨hx, hb, hr, hml, hown, hts, hlk, hK, hZ, hA⟩ := hF
  have hown : s.vm.findClass RX6 = some m.cls := hown
  delta wp_X6_nearest at h
  refine gg_lv (lv' := [(0, .int (xI a0)), (1, .int (xI a1))]) [0, 1] rfl ?_
  refine gg_iload_n hx hb 1 rfl rfl dX6_nearest_0 ?_
  refine gg_if_le (tgt := 18) hx hb h.1 dX6_nearest_1 rfl (fun c1 => ?_) (fun c1 => ?_)
  · have h := h.2.1 c1
    refine gg_iconst hx hb dX6_nearest_18 ?_
    exact gg_iret hx hb hr hlk ⟨rfl, h⟩ dX6_nearest_19
  · have h := h.2.2 c1
    refine gg_iconst hx hb dX6_nearest_4 ?_
    refine gg_iload_n hx hb 0 rfl rfl dX6_nearest_5 ?_
    refine gg_imul hx hb dX6_nearest_6 ?_
    refine gg_iload_n hx hb 1 rfl rfl dX6_nearest_7 ?_
    refine gg_iadd hx hb dX6_nearest_8 ?_
    refine gg_iconst hx hb dX6_nearest_9 ?_
    refine gg_iload_n hx hb 1 rfl rfl dX6_nearest_10 ?_
    refine gg_imul hx hb dX6_nearest_11 ?_
    refine gg_callSip (As := [.int (xI ((2 * a0) + a1)), .int (xI (2 * a1))]) (rest := []) hx hb hml hown hts hK hZ hA (c_J9_floorDiv_7cf53 l D aa cI cZ cJ tR tU ((2 * a0) + a1) (2 * a1) σ _ h) (va_cwS 2 hts gX6_nearest_J9_floorDiv_7cf53 rfl rfl rfl hd_J9_floorDiv_7cf53 ⟨Nat.le_of_ble_eq_true rfl, Nat.le_of_ble_eq_true rfl⟩) rfl rfl (Nat.le_of_ble_eq_true rfl) dX6_nearest_12 (fun r12 h => ?_)
    refine gg_goto (tgt := 19) hx hb dX6_nearest_15 rfl ?_
    exact gg_iret hx hb hr hlk ⟨rfl, h⟩ dX6_nearest_19
abbrev rmX6_wayBy : Room := { frames := 0, cells := 0, slots := 0, locals := 0 }
theorem hd_X6_wayBy : (yX6_wayBy.cls ≠ "java/lang/invoke/MethodHandle" ∧ yX6_wayBy.cls ≠ "java/lang/invoke/VarHandle" ∧ (parseMethodDescriptor yX6_wayBy.desc).map (fun d => d.parameters.length) = some 2) := by decide +kernel
set_option maxRecDepth 100000 in
set_option maxHeartbeats 4000000 in
theorem c_X6_wayBy (l : Launch) (D : va_G) (aa : Nat → Nat) (cI cZ cJ : ClassId) (tR tU : Nat) (a0 : Int) (a1 : Int) (σ : xSt) (Post : Int → Prop) (h : wp_X6_wayBy a0 a1 σ Post) : MI l D (tyL cI cZ cJ) (cX aa cI cZ cJ) tR tU yX6_wayBy wsX6_wayBy rmX6_wayBy [.int (xI a0), .int (xI a1)] σ (fun r9 σ9 => σ9 = σ ∧ Post r9) := by
  refine mi_of (cc := cX6_wayBy) (maxL := 3) (ret := (some .int)) (by decide) rfl (Nat.le_of_ble_eq_true rfl) ?_
  intro p e s m args below meth c A hF
  obtain ⟨hx, hb, hr, hml, hown, hts, hlk, hK, hZ, hA⟩ := hF
  have hown : s.vm.findClass RX6 = some m.cls := hown
  obtain ⟨hZ1, hZ2, hZ3, hZ4, hN1, hN2, hN3, hN4, hN5, hN6⟩ := id hZ
  delta wp_X6_wayBy at h
  refine gg_lv (lv' := [(0, .int (xI a0)), (1, .int (xI a1))]) [0, 1] rfl ?_
  refine gg_iconst hx hb dX6_wayBy_0 ?_
  refine gg_istore_n (lv' := [(2, .int (xI 0)), (0, .int (xI a0)), (1, .int (xI a1))]) hx hb rfl (by decide) rfl dX6_wayBy_1 ?_
  have h := h (fun (x2_2 : Int) => GG p l e rmX6_wayBy s m args below meth c (QI below D (cX aa cI cZ cJ) A args s (fun r9 σ9 => σ9 = σ ∧ Post r9)) A D (cX aa cI cZ cJ) 3 σ 2 [(0, .int (xI a0)), (1, .int (xI a1)), (2, .int (xI x2_2))] [])
  have h := h (by
    intro x2_2 h
    refine gg_iload_n hx hb 2 rfl rfl dX6_wayBy_2 ?_
    refine gg_bipush hx hb dX6_wayBy_3 rfl ?_
    refine gg_icmp_ge (tgt := 34) hx hb h.1 (by decide) dX6_wayBy_5 rfl (fun c5 => ?_) (fun c5 => ?_)
    · have h := h.2.1 c5
      refine gg_sipush hx hb dX6_wayBy_34 rfl ?_
      exact gg_iret hx hb hr hlk ⟨rfl, h⟩ dX6_wayBy_37
    · have h := h.2.2 c5
      refine gg_gets hx hb hZ1 hown hN5 dX6_wayBy_8 ?_
      refine gg_iload_n hx hb 2 rfl rfl dX6_wayBy_11 ?_
      refine gg_tald hx hb xRt hZ2 (by decide) h.1 dX6_wayBy_12 ?_
      have h := h.2
      refine gg_iload_n hx hb 0 rfl rfl dX6_wayBy_13 ?_
      refine gg_icmp_ne (tgt := 28) hx hb h.1 h.2.1 dX6_wayBy_14 rfl (fun c14 => ?_) (fun c14 => ?_)
      · have h := h.2.2.1 c14
        refine gg_iinc (lv' := [(2, .int (xI (x2_2 + 1))), (0, .int (xI a0)), (1, .int (xI a1))]) hx hb 2 rfl (by decide) rfl dX6_wayBy_28 ?_
        refine gg_goto (tgt := 2) hx hb dX6_wayBy_31 rfl ?_
        refine gg_lv [1, 2, 0] rfl ?_
        exact h
      · have h := h.2.2.2 c14
        refine gg_gets hx hb hZ3 hown hN6 dX6_wayBy_17 ?_
        refine gg_iload_n hx hb 2 rfl rfl dX6_wayBy_20 ?_
        refine gg_tald hx hb xUp hZ4 (by decide) h.1 dX6_wayBy_21 ?_
        have h := h.2
        refine gg_iload_n hx hb 1 rfl rfl dX6_wayBy_22 ?_
        refine gg_icmp_ne (tgt := 28) hx hb h.1 h.2.1 dX6_wayBy_23 rfl (fun c23 => ?_) (fun c23 => ?_)
        · have h := h.2.2.1 c23
          refine gg_iinc (lv' := [(2, .int (xI (x2_2 + 1))), (0, .int (xI a0)), (1, .int (xI a1))]) hx hb 2 rfl (by decide) rfl dX6_wayBy_28 ?_
          refine gg_goto (tgt := 2) hx hb dX6_wayBy_31 rfl ?_
          refine gg_lv [1, 2, 0] rfl ?_
          exact h
        · have h := h.2.2.2 c23
          refine gg_iload_n hx hb 2 rfl rfl dX6_wayBy_26 ?_
          exact gg_iret hx hb hr hlk ⟨rfl, h⟩ dX6_wayBy_27)
  refine gg_lv [1, 2, 0] rfl ?_
  exact h
abbrev rmX6_appendLine : Room := { frames := 2, cells := 0, slots := 0, locals := 43 }
theorem hd_X6_appendLine : (yX6_appendLine.cls = RX6 ∧ yX6_appendLine.cls ≠ "java/lang/invoke/MethodHandle" ∧ yX6_appendLine.cls ≠ "java/lang/invoke/VarHandle" ∧ (parseMethodDescriptor yX6_appendLine.desc).map (fun d => d.parameters.length) = some 3) := by decide +kernel
set_option maxRecDepth 100000 in
set_option maxHeartbeats 4000000 in
theorem c_X6_appendLine (l : Launch) (D : va_G) (aa : Nat → Nat) (cI cZ cJ : ClassId) (tR tU : Nat) (a1 : Int) (a2 : Int) (a3 : Int) (σ : xSt) (Post : xSt → Prop) (h : wp_X6_appendLine a1 a2 a3 σ Post) : MV l D (tyL cI cZ cJ) (cX aa cI cZ cJ) tR tU yX6_appendLine wsX6_appendLine rmX6_appendLine [.ref (aa 1), .int (xI a1), .int (xI a2), .int (xI a3)] σ Post := by
  refine mv_of (cc := cX6_appendLine) (maxL := 9) (ret := none) (by decide) rfl (Nat.le_of_ble_eq_true rfl) ?_
  intro p e s m args below meth c A hF
  obtain ⟨hx, hb, hr, hml, hown, hts, hlk, hK, hZ, hA⟩ := hF
  have hown : s.vm.findClass RX6 = some m.cls := hown
  delta wp_X6_appendLine at h
  refine gg_lv (lv' := [(0, .ref (aa 1)), (1, .int (xI a1)), (2, .int (xI a2)), (3, .int (xI a3))]) [0, 1, 2, 3] rfl ?_
  refine gg_iconst hx hb dX6_appendLine_0 ?_
  refine gg_istore (lv' := [(4, .int (xI 0)), (0, .ref (aa 1)), (1, .int (xI a1)), (2, .int (xI a2)), (3, .int (xI a3))]) hx hb (by decide) rfl dX6_appendLine_1 ?_
  refine gg_iconst hx hb dX6_appendLine_3 ?_
  refine gg_istore (lv' := [(5, .int (xI 0)), (4, .int (xI 0)), (0, .ref (aa 1)), (1, .int (xI a1)), (2, .int (xI a2)), (3, .int (xI a3))]) hx hb (by decide) rfl dX6_appendLine_4 ?_
  refine gg_iconst hx hb dX6_appendLine_6 ?_
  refine gg_istore (lv' := [(6, .int (xI 1)), (5, .int (xI 0)), (4, .int (xI 0)), (0, .ref (aa 1)), (1, .int (xI a1)), (2, .int (xI a2)), (3, .int (xI a3))]) hx hb (by decide) rfl dX6_appendLine_7 ?_
  have h := h (fun (x4_9 x5_9 x6_9 : Int) (s9 : xSt) => GG p l e rmX6_appendLine s m args below meth c (QV below D (cX aa cI cZ cJ) A args s Post) A D (cX aa cI cZ cJ) 9 s9 9 [(0, .ref (aa 1)), (1, .int (xI a1)), (2, .int (xI a2)), (3, .int (xI a3)), (4, .int (xI x4_9)), (5, .int (xI x5_9)), (6, .int (xI x6_9))] [])
  have h := h (by
    intro x4_9 x5_9 x6_9 s9 h
    refine gg_iload hx hb 6 rfl dX6_appendLine_9 ?_
    refine gg_iload_n hx hb 3 rfl rfl dX6_appendLine_11 ?_
    refine gg_icmp_gt (tgt := 66) hx hb h.1 h.2.1 dX6_appendLine_12 rfl (fun c12 => ?_) (fun c12 => ?_)
    · have h := h.2.2.1 c12
      exact gg_vret hx hb hr hlk h dX6_appendLine_66
    · have h := h.2.2.2 c12
      refine gg_iload_n hx hb 1 rfl rfl dX6_appendLine_15 ?_
      refine gg_iload hx hb 6 rfl dX6_appendLine_16 ?_
      refine gg_imul hx hb dX6_appendLine_18 ?_
      refine gg_iload_n hx hb 3 rfl rfl dX6_appendLine_19 ?_
      refine gg_callSip (As := [.int (xI (a1 * x6_9)), .int (xI a3)]) (rest := []) hx hb hml hown hts hK hZ hA (c_X6_nearest l D aa cI cZ cJ tR tU (a1 * x6_9) a3 s9 _ h) (va_cwS 2 hts gX6_appendLine_X6_nearest rfl rfl rfl hd_X6_nearest ⟨Nat.le_of_ble_eq_true rfl, Nat.le_of_ble_eq_true rfl⟩) rfl rfl (Nat.le_of_ble_eq_true rfl) dX6_appendLine_20 (fun r20 h => ?_)
      refine gg_istore (lv' := [(7, .int (xI r20)), (0, .ref (aa 1)), (1, .int (xI a1)), (2, .int (xI a2)), (3, .int (xI a3)), (4, .int (xI x4_9)), (5, .int (xI x5_9)), (6, .int (xI x6_9))]) hx hb (by decide) rfl dX6_appendLine_23 ?_
      refine gg_iload_n hx hb 3 rfl rfl dX6_appendLine_25 ?_
      refine gg_iload hx hb 7 rfl dX6_appendLine_26 ?_
      refine gg_imul hx hb dX6_appendLine_28 ?_
      refine gg_iload_n hx hb 4 rfl rfl dX6_appendLine_29 ?_
      refine gg_callSip (As := [.int (xI (a2 * x6_9)), .int (xI a3)]) (rest := []) hx hb hml hown hts hK hZ hA (c_X6_nearest l D aa cI cZ cJ tR tU (a2 * x6_9) a3 s9 _ h) (va_cwS 2 hts gX6_appendLine_X6_nearest rfl rfl rfl hd_X6_nearest ⟨Nat.le_of_ble_eq_true rfl, Nat.le_of_ble_eq_true rfl⟩) rfl rfl (Nat.le_of_ble_eq_true rfl) dX6_appendLine_30 (fun r30 h => ?_)
      refine gg_istore (lv' := [(8, .int (xI r30)), (7, .int (xI r20)), (0, .ref (aa 1)), (1, .int (xI a1)), (2, .int (xI a2)), (3, .int (xI a3)), (4, .int (xI x4_9)), (5, .int (xI x5_9)), (6, .int (xI x6_9))]) hx hb (by decide) rfl dX6_appendLine_33 ?_
      refine gg_aload_n hx hb 2 rfl rfl dX6_appendLine_35 ?_
      refine gg_iload hx hb 1 rfl dX6_appendLine_36 ?_
      refine gg_iload hx hb 6 rfl dX6_appendLine_38 ?_
      refine gg_isub hx hb dX6_appendLine_40 ?_
      refine gg_iload hx hb 0 rfl dX6_appendLine_41 ?_
      refine gg_iload hx hb 7 rfl dX6_appendLine_43 ?_
      refine gg_isub hx hb dX6_appendLine_45 ?_
      refine gg_callSip (As := [.int (xI (r20 - x4_9)), .int (xI (r30 - x5_9))]) (rest := [.ref (aa 1)]) hx hb hml hown hts hK hZ hA (c_X6_wayBy l D aa cI cZ cJ tR tU (r20 - x4_9) (r30 - x5_9) s9 _ h) (va_cwS 2 hts gX6_appendLine_X6_wayBy rfl rfl rfl hd_X6_wayBy ⟨Nat.le_of_ble_eq_true rfl, Nat.le_of_ble_eq_true rfl⟩) rfl rfl (Nat.le_of_ble_eq_true rfl) dX6_appendLine_46 (fun r46 h => ?_)
      refine gg_callVv (As := [.int (xI r46)]) (rest := []) hx hb hml hown hts hK hZ hA (c_X6_append l D aa cI cZ cJ tR tU r46 s9 _ h) (cwV 1 hts gX6_appendLine_X6_append rfl rfl rfl hd_X6_append ⟨Nat.le_of_ble_eq_true rfl, Nat.le_of_ble_eq_true rfl⟩) 1 rfl rfl rfl rfl (Nat.le_of_ble_eq_true rfl) dX6_appendLine_49 (fun t49 h => ?_)
      refine gg_iload hx hb 1 rfl dX6_appendLine_52 ?_
      refine gg_istore (lv' := [(4, .int (xI r20)), (8, .int (xI r30)), (7, .int (xI r20)), (0, .ref (aa 1)), (1, .int (xI a1)), (2, .int (xI a2)), (3, .int (xI a3)), (5, .int (xI x5_9)), (6, .int (xI x6_9))]) hx hb (by decide) rfl dX6_appendLine_54 ?_
      refine gg_iload hx hb 1 rfl dX6_appendLine_56 ?_
      refine gg_istore (lv' := [(5, .int (xI r30)), (4, .int (xI r20)), (8, .int (xI r30)), (7, .int (xI r20)), (0, .ref (aa 1)), (1, .int (xI a1)), (2, .int (xI a2)), (3, .int (xI a3)), (6, .int (xI x6_9))]) hx hb (by decide) rfl dX6_appendLine_58 ?_
      refine gg_iinc (lv' := [(6, .int (xI (x6_9 + 1))), (5, .int (xI r30)), (4, .int (xI r20)), (8, .int (xI r30)), (7, .int (xI r20)), (0, .ref (aa 1)), (1, .int (xI a1)), (2, .int (xI a2)), (3, .int (xI a3))]) hx hb 8 rfl (by decide) rfl dX6_appendLine_60 ?_
      refine gg_goto (tgt := 9) hx hb dX6_appendLine_63 rfl ?_
      refine gg_lv [5, 6, 7, 8, 2, 1, 0] rfl ?_
      exact h)
  refine gg_lv [3, 4, 5, 6, 2, 1, 0] rfl ?_
  exact h
abbrev rmX9_draw : Room := { frames := 3, cells := 0, slots := 0, locals := 71 }
theorem iX9_draw_X9 : ∀ w ∈ u_ws RX9 TX9 9, w ∈ wsX9_draw := (fun _ h => List.mem_cons_of_mem _ (List.mem_append_left _ (List.mem_append_right _ h)))
theorem hd_X9_draw : (yX9_draw.cls = RX9 ∧ yX9_draw.cls ≠ "java/lang/invoke/MethodHandle" ∧ yX9_draw.cls ≠ "java/lang/invoke/VarHandle" ∧ (parseMethodDescriptor yX9_draw.desc).map (fun d => d.parameters.length) = some 2) := by decide +kernel
set_option maxRecDepth 100000 in
set_option maxHeartbeats 4000000 in
theorem c_X9_draw (l : Launch) (D : va_G) (aa : Nat → Nat) (cI cZ cJ : ClassId) (tR tU : Nat) (a1 : Int) (a2 : Int) (σ : xSt) (Post : Int → xSt → Prop) (h : wp_X9_draw a1 a2 σ Post) : MI l D (tyL cI cZ cJ) (cX aa cI cZ cJ) tR tU yX9_draw wsX9_draw rmX9_draw [.ref (aa 0), .int (xI a1), .int (xI a2)] σ Post := by
  refine mi_of (cc := cX9_draw) (maxL := 4) (ret := (some .int)) (by decide) rfl (Nat.le_of_ble_eq_true rfl) ?_
  intro p e s m args below meth c A hF
  obtain ⟨hx, hb, hr, hml, hown, hts, hlk, hK, hZ, hA⟩ := hF
  have hown : s.vm.findClass RX9 = some m.cls := hown
  delta wp_X9_draw at h
  refine gg_lv (lv' := [(0, .ref (aa 0)), (1, .int (xI a1)), (2, .int (xI a2))]) [0, 1, 2] rfl ?_
  refine gg_iload_n hx hb 1 rfl rfl dX9_draw_0 ?_
  refine gg_bipush hx hb dX9_draw_1 rfl ?_
  refine gg_icmp_lt (tgt := 24) hx hb h.1 (by decide) dX9_draw_3 rfl (fun c3 => ?_) (fun c3 => ?_)
  · have h := h.2.1 c3
    refine gg_sipush hx hb dX9_draw_24 rfl ?_
    exact gg_iret hx hb hr hlk h dX9_draw_27
  · have h := h.2.2 c3
    refine gg_iload_n hx hb 1 rfl rfl dX9_draw_6 ?_
    refine gg_bipush hx hb dX9_draw_7 rfl ?_
    refine gg_icmp_gt (tgt := 24) hx hb h.1 (by decide) dX9_draw_9 rfl (fun c9 => ?_) (fun c9 => ?_)
    · have h := h.2.1 c9
      refine gg_sipush hx hb dX9_draw_24 rfl ?_
      exact gg_iret hx hb hr hlk h dX9_draw_27
    · have h := h.2.2 c9
      refine gg_iload_n hx hb 2 rfl rfl dX9_draw_12 ?_
      refine gg_bipush hx hb dX9_draw_13 rfl ?_
      refine gg_icmp_lt (tgt := 24) hx hb h.1 (by decide) dX9_draw_15 rfl (fun c15 => ?_) (fun c15 => ?_)
      · have h := h.2.1 c15
        refine gg_sipush hx hb dX9_draw_24 rfl ?_
        exact gg_iret hx hb hr hlk h dX9_draw_27
      · have h := h.2.2 c15
        refine gg_iload_n hx hb 2 rfl rfl dX9_draw_18 ?_
        refine gg_bipush hx hb dX9_draw_19 rfl ?_
        refine gg_icmp_le (tgt := 28) hx hb h.1 (by decide) dX9_draw_21 rfl (fun c21 => ?_) (fun c21 => ?_)
        · have h := h.2.1 c21
          refine gg_iload_n hx hb 1 rfl rfl dX9_draw_28 ?_
          refine gg_mabs hx hb hml hown hts h.1 (List.mem_of_getElem? (i := 1) rfl) (List.mem_of_getElem? (i := 2) rfl) (List.mem_of_getElem? (i := 3) rfl) (List.mem_of_getElem? (i := 4) rfl) (Nat.le_of_ble_eq_true rfl) (Nat.le_of_ble_eq_true rfl) dX9_draw_29 ?_
          have h := h.2
          refine gg_iload_n hx hb 2 rfl rfl dX9_draw_32 ?_
          refine gg_mabs hx hb hml hown hts h.1 (List.mem_of_getElem? (i := 1) rfl) (List.mem_of_getElem? (i := 2) rfl) (List.mem_of_getElem? (i := 3) rfl) (List.mem_of_getElem? (i := 4) rfl) (Nat.le_of_ble_eq_true rfl) (Nat.le_of_ble_eq_true rfl) dX9_draw_33 ?_
          have h := h.2
          refine gg_mmax hx hb hml hown hts h.1 h.2.1 (List.mem_of_getElem? (i := 5) rfl) (List.mem_of_getElem? (i := 6) rfl) (List.mem_of_getElem? (i := 3) rfl) (List.mem_of_getElem? (i := 7) rfl) (Nat.le_of_ble_eq_true rfl) (Nat.le_of_ble_eq_true rfl) dX9_draw_36 ?_
          have h := h.2.2
          refine gg_nm (fun z3_39 e39 => ?_)
          have h := h z3_39 e39
          refine gg_istore_n (lv' := [(3, .int (xI z3_39)), (0, .ref (aa 0)), (1, .int (xI a1)), (2, .int (xI a2))]) hx hb rfl (by decide) rfl dX9_draw_39 ?_
          refine gg_iload_n hx hb 0 rfl rfl dX9_draw_40 ?_
          refine gg_if_ne (tgt := 48) hx hb h.1 dX9_draw_41 rfl (fun c41 => ?_) (fun c41 => ?_)
          · have h := h.2.1 c41
            refine gg_aload_n hx hb 1 rfl rfl dX9_draw_48 ?_
            refine gg_get (C := RX9) (T := TX9) (N := 9) hx hb hts hown hK iX9_draw_X9 0 rfl rfl 0 (by decide) (List.mem_of_getElem? (i := 8) rfl) rfl dX9_draw_49 ?_
            refine gg_callVip (As := []) (rest := []) hx hb hml hown hts hK hZ hA (c_X6_steps l D aa cI cZ cJ tR tU σ _ h) (cwV 0 hts gX9_draw_X6_steps rfl rfl rfl hd_X6_steps ⟨Nat.le_of_ble_eq_true rfl, Nat.le_of_ble_eq_true rfl⟩) 1 rfl rfl rfl rfl (Nat.le_of_ble_eq_true rfl) dX9_draw_52 (fun r52 h => ?_)
            refine gg_iload_n hx hb 0 rfl rfl dX9_draw_55 ?_
            refine gg_iadd hx hb dX9_draw_56 ?_
            refine gg_bipush hx hb dX9_draw_57 rfl ?_
            refine gg_icmp_le (tgt := 66) hx hb h.1 (by decide) dX9_draw_59 rfl (fun c59 => ?_) (fun c59 => ?_)
            · have h := h.2.1 c59
              refine gg_aload_n hx hb 1 rfl rfl dX9_draw_66 ?_
              refine gg_get (C := RX9) (T := TX9) (N := 9) hx hb hts hown hK iX9_draw_X9 0 rfl rfl 0 (by decide) (List.mem_of_getElem? (i := 8) rfl) rfl dX9_draw_67 ?_
              refine gg_iload_n hx hb 2 rfl rfl dX9_draw_70 ?_
              refine gg_iload_n hx hb 3 rfl rfl dX9_draw_71 ?_
              refine gg_iload_n hx hb 0 rfl rfl dX9_draw_72 ?_
              refine gg_callVv (As := [.int (xI a1), .int (xI a2), .int (xI z3_39)]) (rest := []) hx hb hml hown hts hK hZ hA (c_X6_appendLine l D aa cI cZ cJ tR tU a1 a2 z3_39 σ _ h) (cwV 3 hts gX9_draw_X6_appendLine rfl rfl rfl hd_X6_appendLine ⟨Nat.le_of_ble_eq_true rfl, Nat.le_of_ble_eq_true rfl⟩) 1 rfl rfl rfl rfl (Nat.le_of_ble_eq_true rfl) dX9_draw_73 (fun t73 h => ?_)
              refine gg_aload_n hx hb 1 rfl rfl dX9_draw_76 ?_
              refine gg_get (C := RX9) (T := TX9) (N := 9) hx hb hts hown hK iX9_draw_X9 0 rfl rfl 0 (by decide) (List.mem_of_getElem? (i := 8) rfl) rfl dX9_draw_77 ?_
              refine gg_callVip (As := []) (rest := []) hx hb hml hown hts hK hZ hA (c_X6_steps l D aa cI cZ cJ tR tU t73 _ h) (cwV 0 hts gX9_draw_X6_steps rfl rfl rfl hd_X6_steps ⟨Nat.le_of_ble_eq_true rfl, Nat.le_of_ble_eq_true rfl⟩) 1 rfl rfl rfl rfl (Nat.le_of_ble_eq_true rfl) dX9_draw_80 (fun r80 h => ?_)
              exact gg_iret hx hb hr hlk h dX9_draw_83
            · have h := h.2.2 c59
              refine gg_sipush hx hb dX9_draw_62 rfl ?_
              exact gg_iret hx hb hr hlk h dX9_draw_65
          · have h := h.2.2 c41
            refine gg_sipush hx hb dX9_draw_44 rfl ?_
            exact gg_iret hx hb hr hlk h dX9_draw_47
        · have h := h.2.2 c21
          refine gg_sipush hx hb dX9_draw_24 rfl ?_
          exact gg_iret hx hb hr hlk h dX9_draw_27
abbrev rmX9_word : Room := { frames := 0, cells := 0, slots := 0, locals := 0 }
theorem hd_X9_word : (yX9_word.cls = RX9 ∧ yX9_word.cls ≠ "java/lang/invoke/MethodHandle" ∧ yX9_word.cls ≠ "java/lang/invoke/VarHandle" ∧ (parseMethodDescriptor yX9_word.desc).map (fun d => d.parameters.length) = some 3) := by decide +kernel
set_option maxRecDepth 100000 in
set_option maxHeartbeats 4000000 in
theorem c_X9_word (l : Launch) (D : va_G) (aa : Nat → Nat) (cI cZ cJ : ClassId) (tR tU : Nat) (a1 : Int) (a2 : Int) (a3 : Int) (σ : xSt) (Post : Int → Prop) (h : wp_X9_word a1 a2 a3 σ Post) : MI l D (tyL cI cZ cJ) (cX aa cI cZ cJ) tR tU yX9_word wsX9_word rmX9_word [.ref (aa 0), .int (xI a1), .int (xI a2), .int (xI a3)] σ (fun r9 σ9 => σ9 = σ ∧ Post r9) := by
  refine mi_of (cc := cX9_word) (maxL := 4) (ret := (some .int)) (by decide) rfl (Nat.le_of_ble_eq_true rfl) ?_
  intro p e s m args below meth c A hF
  obtain ⟨hx, hb, hr, hml, hown, hts, hlk, hK, hZ, hA⟩ := hF
  have hown : s.vm.findClass RX9 = some m.cls := hown
  delta wp_X9_word at h
  refine gg_lv (lv' := [(0, .ref (aa 0)), (1, .int (xI a1)), (2, .int (xI a2)), (3, .int (xI a3))]) [0, 1, 2, 3] rfl ?_
  refine gg_iload_n hx hb 1 rfl rfl dX9_word_0 ?_
  refine gg_iconst hx hb dX9_word_1 ?_
  refine gg_icmp_lt (tgt := 29) hx hb h.1 (by decide) dX9_word_2 rfl (fun c2 => ?_) (fun c2 => ?_)
  · have h := h.2.1 c2
    refine gg_sipush hx hb dX9_word_29 rfl ?_
    exact gg_iret hx hb hr hlk ⟨rfl, h⟩ dX9_word_32
  · have h := h.2.2 c2
    refine gg_iload_n hx hb 1 rfl rfl dX9_word_5 ?_
    refine gg_bipush hx hb dX9_word_6 rfl ?_
    refine gg_icmp_gt (tgt := 29) hx hb h.1 (by decide) dX9_word_8 rfl (fun c8 => ?_) (fun c8 => ?_)
    · have h := h.2.1 c8
      refine gg_sipush hx hb dX9_word_29 rfl ?_
      exact gg_iret hx hb hr hlk ⟨rfl, h⟩ dX9_word_32
    · have h := h.2.2 c8
      refine gg_iload_n hx hb 2 rfl rfl dX9_word_11 ?_
      refine gg_if_lt (tgt := 29) hx hb h.1 dX9_word_12 rfl (fun c12 => ?_) (fun c12 => ?_)
      · have h := h.2.1 c12
        refine gg_sipush hx hb dX9_word_29 rfl ?_
        exact gg_iret hx hb hr hlk ⟨rfl, h⟩ dX9_word_32
      · have h := h.2.2 c12
        refine gg_iload_n hx hb 2 rfl rfl dX9_word_15 ?_
        refine gg_iload_n hx hb 1 rfl rfl dX9_word_16 ?_
        refine gg_icmp_gt (tgt := 29) hx hb h.1 h.2.1 dX9_word_17 rfl (fun c17 => ?_) (fun c17 => ?_)
        · have h := h.2.2.1 c17
          refine gg_sipush hx hb dX9_word_29 rfl ?_
          exact gg_iret hx hb hr hlk ⟨rfl, h⟩ dX9_word_32
        · have h := h.2.2.2 c17
          refine gg_iload_n hx hb 3 rfl rfl dX9_word_20 ?_
          refine gg_if_lt (tgt := 29) hx hb h.1 dX9_word_21 rfl (fun c21 => ?_) (fun c21 => ?_)
          · have h := h.2.1 c21
            refine gg_sipush hx hb dX9_word_29 rfl ?_
            exact gg_iret hx hb hr hlk ⟨rfl, h⟩ dX9_word_32
          · have h := h.2.2 c21
            refine gg_iload_n hx hb 3 rfl rfl dX9_word_24 ?_
            refine gg_iload_n hx hb 1 rfl rfl dX9_word_25 ?_
            refine gg_icmp_lt (tgt := 33) hx hb h.1 h.2.1 dX9_word_26 rfl (fun c26 => ?_) (fun c26 => ?_)
            · have h := h.2.2.1 c26
              refine gg_iload_n hx hb 3 rfl rfl dX9_word_33 ?_
              refine gg_iconst hx hb dX9_word_34 ?_
              refine gg_iadd hx hb dX9_word_35 ?_
              refine gg_iload_n hx hb 2 rfl rfl dX9_word_36 ?_
              refine gg_imul hx hb dX9_word_37 ?_
              refine gg_iload_n hx hb 1 rfl rfl dX9_word_38 ?_
              refine gg_idiv hx hb h.1 h.2.1 h.2.2.1 dX9_word_39 ?_
              have h := h.2.2.2
              refine gg_iload_n hx hb 3 rfl rfl dX9_word_40 ?_
              refine gg_iload_n hx hb 2 rfl rfl dX9_word_41 ?_
              refine gg_imul hx hb dX9_word_42 ?_
              refine gg_iload_n hx hb 1 rfl rfl dX9_word_43 ?_
              refine gg_idiv hx hb h.1 h.2.1 h.2.2.1 dX9_word_44 ?_
              have h := h.2.2.2
              refine gg_icmp_le (tgt := 52) hx hb h.1 h.2.1 dX9_word_45 rfl (fun c45 => ?_) (fun c45 => ?_)
              · have h := h.2.2.1 c45
                refine gg_iconst hx hb dX9_word_52 ?_
                exact gg_iret hx hb hr hlk ⟨rfl, h⟩ dX9_word_53
              · have h := h.2.2.2 c45
                refine gg_iconst hx hb dX9_word_48 ?_
                refine gg_goto (tgt := 53) hx hb dX9_word_49 rfl ?_
                exact gg_iret hx hb hr hlk ⟨rfl, h⟩ dX9_word_53
            · have h := h.2.2.2 c26
              refine gg_sipush hx hb dX9_word_29 rfl ?_
              exact gg_iret hx hb hr hlk ⟨rfl, h⟩ dX9_word_32
abbrev rmX9_refusalOfPiece : Room := { frames := 1, cells := 0, slots := 0, locals := 21 }
theorem iX9_refusalOfPiece_X9 : ∀ w ∈ u_ws RX9 TX9 9, w ∈ wsX9_refusalOfPiece := (fun _ h => List.mem_cons_of_mem _ (List.mem_append_left _ (List.mem_append_right _ h)))
theorem hd_X9_refusalOfPiece : (yX9_refusalOfPiece.cls = RX9 ∧ yX9_refusalOfPiece.cls ≠ "java/lang/invoke/MethodHandle" ∧ yX9_refusalOfPiece.cls ≠ "java/lang/invoke/VarHandle" ∧ (parseMethodDescriptor yX9_refusalOfPiece.desc).map (fun d => d.parameters.length) = some 2) := by decide +kernel
set_option maxRecDepth 100000 in
set_option maxHeartbeats 4000000 in
theorem c_X9_refusalOfPiece (l : Launch) (D : va_G) (aa : Nat → Nat) (cI cZ cJ : ClassId) (tR tU : Nat) (a1 : Int) (a2 : Int) (σ : xSt) (Post : Int → Prop) (h : wp_X9_refusalOfPiece a1 a2 σ Post) : MI l D (tyL cI cZ cJ) (cX aa cI cZ cJ) tR tU yX9_refusalOfPiece wsX9_refusalOfPiece rmX9_refusalOfPiece [.ref (aa 0), .int (xI a1), .int (xI a2)] σ (fun r9 σ9 => σ9 = σ ∧ Post r9) := by
  refine mi_of (cc := cX9_refusalOfPiece) (maxL := 3) (ret := (some .int)) (by decide) rfl (Nat.le_of_ble_eq_true rfl) ?_
  intro p e s m args below meth c A hF
  obtain ⟨hx, hb, hr, hml, hown, hts, hlk, hK, hZ, hA⟩ := hF
  have hown : s.vm.findClass RX9 = some m.cls := hown
  delta wp_X9_refusalOfPiece at h
  refine gg_lv (lv' := [(0, .ref (aa 0)), (1, .int (xI a1)), (2, .int (xI a2))]) [0, 1, 2] rfl ?_
  refine gg_aload_n hx hb 0 rfl rfl dX9_refusalOfPiece_0 ?_
  refine gg_get (C := RX9) (T := TX9) (N := 9) hx hb hts hown hK iX9_refusalOfPiece_X9 0 rfl rfl 0 (by decide) (List.mem_of_getElem? (i := 1) rfl) rfl dX9_refusalOfPiece_1 ?_
  refine gg_iload_n hx hb 1 rfl rfl dX9_refusalOfPiece_4 ?_
  refine gg_callVip (As := [.int (xI a1)]) (rest := []) hx hb hml hown hts hK hZ hA (c_X6_hasPlace l D aa cI cZ cJ tR tU a1 σ _ h) (cwV 1 hts gX9_refusalOfPiece_X6_hasPlace rfl rfl rfl hd_X6_hasPlace ⟨Nat.le_of_ble_eq_true rfl, Nat.le_of_ble_eq_true rfl⟩) 1 rfl rfl rfl rfl (Nat.le_of_ble_eq_true rfl) dX9_refusalOfPiece_5 (fun r5 h => ?_)
  refine gg_if_eq (tgt := 22) hx hb h.1 dX9_refusalOfPiece_8 rfl (fun c8 => ?_) (fun c8 => ?_)
  · have h := h.2.1 c8
    refine gg_sipush hx hb dX9_refusalOfPiece_22 rfl ?_
    exact gg_iret hx hb hr hlk ⟨rfl, h⟩ dX9_refusalOfPiece_25
  · have h := h.2.2 c8
    refine gg_aload_n hx hb 0 rfl rfl dX9_refusalOfPiece_11 ?_
    refine gg_get (C := RX9) (T := TX9) (N := 9) hx hb hts hown hK iX9_refusalOfPiece_X9 0 rfl rfl 0 (by decide) (List.mem_of_getElem? (i := 1) rfl) rfl dX9_refusalOfPiece_12 ?_
    refine gg_iload_n hx hb 2 rfl rfl dX9_refusalOfPiece_15 ?_
    refine gg_callVip (As := [.int (xI a2)]) (rest := []) hx hb hml hown hts hK hZ hA (c_X6_hasPlace l D aa cI cZ cJ tR tU a2 σ _ h) (cwV 1 hts gX9_refusalOfPiece_X6_hasPlace rfl rfl rfl hd_X6_hasPlace ⟨Nat.le_of_ble_eq_true rfl, Nat.le_of_ble_eq_true rfl⟩) 1 rfl rfl rfl rfl (Nat.le_of_ble_eq_true rfl) dX9_refusalOfPiece_16 (fun r16 h => ?_)
    refine gg_if_ne (tgt := 26) hx hb h.1 dX9_refusalOfPiece_19 rfl (fun c19 => ?_) (fun c19 => ?_)
    · have h := h.2.1 c19
      refine gg_iload_n hx hb 2 rfl rfl dX9_refusalOfPiece_26 ?_
      refine gg_iload_n hx hb 1 rfl rfl dX9_refusalOfPiece_27 ?_
      refine gg_icmp_ge (tgt := 37) hx hb h.1 h.2.1 dX9_refusalOfPiece_28 rfl (fun c28 => ?_) (fun c28 => ?_)
      · have h := h.2.2.1 c28
        refine gg_iconst hx hb dX9_refusalOfPiece_37 ?_
        exact gg_iret hx hb hr hlk ⟨rfl, h⟩ dX9_refusalOfPiece_38
      · have h := h.2.2.2 c28
        refine gg_sipush hx hb dX9_refusalOfPiece_31 rfl ?_
        refine gg_goto (tgt := 38) hx hb dX9_refusalOfPiece_34 rfl ?_
        exact gg_iret hx hb hr hlk ⟨rfl, h⟩ dX9_refusalOfPiece_38
    · have h := h.2.2 c19
      refine gg_sipush hx hb dX9_refusalOfPiece_22 rfl ?_
      exact gg_iret hx hb hr hlk ⟨rfl, h⟩ dX9_refusalOfPiece_25
abbrev rmX5_begin : Room := { frames := 0, cells := 0, slots := 0, locals := 0 }
theorem iX5_begin_X5 : ∀ w ∈ u_ws RX5 TX5 7, w ∈ wsX5_begin := (fun _ h => List.mem_cons_of_mem _ (List.mem_append_right _ h))
theorem hd_X5_begin : (yX5_begin.cls = RX5 ∧ yX5_begin.cls ≠ "java/lang/invoke/MethodHandle" ∧ yX5_begin.cls ≠ "java/lang/invoke/VarHandle" ∧ (parseMethodDescriptor yX5_begin.desc).map (fun d => d.parameters.length) = some 0) := by decide +kernel
set_option maxRecDepth 100000 in
set_option maxHeartbeats 4000000 in
theorem c_X5_begin (l : Launch) (D : va_G) (aa : Nat → Nat) (cI cZ cJ : ClassId) (tR tU : Nat) (σ : xSt) (Post : xSt → Prop) (h : wp_X5_begin σ Post) : MV l D (tyL cI cZ cJ) (cX aa cI cZ cJ) tR tU yX5_begin wsX5_begin rmX5_begin [.ref (aa 5)] σ Post := by
  refine mv_of (cc := cX5_begin) (maxL := 1) (ret := none) (by decide) rfl (Nat.le_of_ble_eq_true rfl) ?_
  intro p e s m args below meth c A hF
  obtain ⟨hx, hb, hr, hml, hown, hts, hlk, hK, hZ, hA⟩ := hF
  have hown : s.vm.findClass RX5 = some m.cls := hown
  delta wp_X5_begin at h
  refine gg_lv (lv' := [(0, .ref (aa 5))]) [0] rfl ?_
  refine gg_aload_n hx hb 0 rfl rfl dX5_begin_0 ?_
  refine gg_iconst hx hb dX5_begin_1 ?_
  refine gg_put (C := RX5) (T := TX5) (N := 7) hx hb hts hown hK iX5_begin_X5 tyX5 tyX5_ok nmX5 5 rfl rfl 1 (by decide) (List.mem_of_getElem? (i := 1) rfl) rfl rfl (Nat.le_of_ble_eq_true rfl) (cX_set_5_1 aa cI cZ cJ _ _) dX5_begin_2 (fun σ_2 e2 => ?_)
  have h := h σ_2 e2
  refine gg_aload_n hx hb 0 rfl rfl dX5_begin_5 ?_
  refine gg_iconst hx hb dX5_begin_6 ?_
  refine gg_put (C := RX5) (T := TX5) (N := 7) hx hb hts hown hK iX5_begin_X5 tyX5 tyX5_ok nmX5 5 rfl rfl 2 (by decide) (List.mem_of_getElem? (i := 2) rfl) rfl rfl (Nat.le_of_ble_eq_true rfl) (cX_set_5_2 aa cI cZ cJ _ _) dX5_begin_7 (fun σ_7 e7 => ?_)
  have h := h σ_7 e7
  refine gg_aload_n hx hb 0 rfl rfl dX5_begin_10 ?_
  refine gg_iconst hx hb dX5_begin_11 ?_
  refine gg_put (C := RX5) (T := TX5) (N := 7) hx hb hts hown hK iX5_begin_X5 tyX5 tyX5_ok nmX5 5 rfl rfl 3 (by decide) (List.mem_of_getElem? (i := 3) rfl) rfl rfl (Nat.le_of_ble_eq_true rfl) (cX_set_5_3 aa cI cZ cJ _ _) dX5_begin_12 (fun σ_12 e12 => ?_)
  have h := h σ_12 e12
  refine gg_aload_n hx hb 0 rfl rfl dX5_begin_15 ?_
  refine gg_iconst hx hb dX5_begin_16 ?_
  refine gg_put (C := RX5) (T := TX5) (N := 7) hx hb hts hown hK iX5_begin_X5 tyX5 tyX5_ok nmX5 5 rfl rfl 4 (by decide) (List.mem_of_getElem? (i := 4) rfl) rfl rfl (Nat.le_of_ble_eq_true rfl) (cX_set_5_4 aa cI cZ cJ _ _) dX5_begin_17 (fun σ_17 e17 => ?_)
  have h := h σ_17 e17
  refine gg_aload_n hx hb 0 rfl rfl dX5_begin_20 ?_
  refine gg_iconst hx hb dX5_begin_21 ?_
  refine gg_put (C := RX5) (T := TX5) (N := 7) hx hb hts hown hK iX5_begin_X5 tyX5 tyX5_ok nmX5 5 rfl rfl 5 (by decide) (List.mem_of_getElem? (i := 5) rfl) rfl rfl (Nat.le_of_ble_eq_true rfl) (cX_set_5_5 aa cI cZ cJ _ _) dX5_begin_22 (fun σ_22 e22 => ?_)
  have h := h σ_22 e22
  refine gg_aload_n hx hb 0 rfl rfl dX5_begin_25 ?_
  refine gg_iconst hx hb dX5_begin_26 ?_
  refine gg_put (C := RX5) (T := TX5) (N := 7) hx hb hts hown hK iX5_begin_X5 tyX5 tyX5_ok nmX5 5 rfl rfl 6 (by decide) (List.mem_of_getElem? (i := 6) rfl) rfl rfl (Nat.le_of_ble_eq_true rfl) (cX_set_5_6 aa cI cZ cJ _ _) dX5_begin_27 (fun σ_27 e27 => ?_)
  have h := h σ_27 e27
  exact gg_vret hx hb hr hlk h dX5_begin_30
abbrev rmX5_narrow : Room := { frames := 0, cells := 0, slots := 0, locals := 0 }
theorem iX5_narrow_X5 : ∀ w ∈ u_ws RX5 TX5 7, w ∈ wsX5_narrow := (fun _ h => List.mem_cons_of_mem _ (List.mem_append_right _ h))
theorem hd_X5_narrow : (yX5_narrow.cls = RX5 ∧ yX5_narrow.cls ≠ "java/lang/invoke/MethodHandle" ∧ yX5_narrow.cls ≠ "java/lang/invoke/VarHandle" ∧ (parseMethodDescriptor yX5_narrow.desc).map (fun d => d.parameters.length) = some 2) := by decide +kernel
set_option maxRecDepth 100000 in
set_option maxHeartbeats 4000000 in
theorem c_X5_narrow (l : Launch) (D : va_G) (aa : Nat → Nat) (cI cZ cJ : ClassId) (tR tU : Nat) (a1 : Int) (a2 : Int) (σ : xSt) (Post : xSt → Prop) (h : wp_X5_narrow a1 a2 σ Post) : MV l D (tyL cI cZ cJ) (cX aa cI cZ cJ) tR tU yX5_narrow wsX5_narrow rmX5_narrow [.ref (aa 5), .int (xI a1), .int (xI a2)] σ Post := by
  refine mv_of (cc := cX5_narrow) (maxL := 3) (ret := none) (by decide) rfl (Nat.le_of_ble_eq_true rfl) ?_
  intro p e s m args below meth c A hF
  obtain ⟨hx, hb, hr, hml, hown, hts, hlk, hK, hZ, hA⟩ := hF
  have hown : s.vm.findClass RX5 = some m.cls := hown
  delta wp_X5_narrow at h
  refine gg_lv (lv' := [(0, .ref (aa 5)), (1, .int (xI a1)), (2, .int (xI a2))]) [0, 1, 2] rfl ?_
  refine gg_iload_n hx hb 1 rfl rfl dX5_narrow_0 ?_
  refine gg_iconst hx hb dX5_narrow_1 ?_
  refine gg_isub hx hb dX5_narrow_2 ?_
  refine gg_aload_n hx hb 0 rfl rfl dX5_narrow_3 ?_
  refine gg_get (C := RX5) (T := TX5) (N := 7) hx hb hts hown hK iX5_narrow_X5 5 rfl rfl 4 (by decide) (List.mem_of_getElem? (i := 1) rfl) rfl dX5_narrow_4 ?_
  refine gg_imul hx hb dX5_narrow_7 ?_
  refine gg_aload_n hx hb 0 rfl rfl dX5_narrow_8 ?_
  refine gg_get (C := RX5) (T := TX5) (N := 7) hx hb hts hown hK iX5_narrow_X5 5 rfl rfl 3 (by decide) (List.mem_of_getElem? (i := 2) rfl) rfl dX5_narrow_9 ?_
  refine gg_iload_n hx hb 2 rfl rfl dX5_narrow_12 ?_
  refine gg_imul hx hb dX5_narrow_13 ?_
  have h := h (fun (s29 : xSt) => GG p l e rmX5_narrow s m args below meth c (QV below D (cX aa cI cZ cJ) A args s Post) A D (cX aa cI cZ cJ) 3 s29 29 [(0, .ref (aa 5)), (1, .int (xI a1)), (2, .int (xI a2))] [])
  have h := h (by
    intro s29 h
    refine gg_iload_n hx hb 1 rfl rfl dX5_narrow_29 ?_
    refine gg_iconst hx hb dX5_narrow_30 ?_
    refine gg_iadd hx hb dX5_narrow_31 ?_
    refine gg_aload_n hx hb 0 rfl rfl dX5_narrow_32 ?_
    refine gg_get (C := RX5) (T := TX5) (N := 7) hx hb hts hown hK iX5_narrow_X5 5 rfl rfl 6 (by decide) (List.mem_of_getElem? (i := 3) rfl) rfl dX5_narrow_33 ?_
    refine gg_imul hx hb dX5_narrow_36 ?_
    refine gg_aload_n hx hb 0 rfl rfl dX5_narrow_37 ?_
    refine gg_get (C := RX5) (T := TX5) (N := 7) hx hb hts hown hK iX5_narrow_X5 5 rfl rfl 5 (by decide) (List.mem_of_getElem? (i := 4) rfl) rfl dX5_narrow_38 ?_
    refine gg_iload_n hx hb 2 rfl rfl dX5_narrow_41 ?_
    refine gg_imul hx hb dX5_narrow_42 ?_
    refine gg_icmp_ge (tgt := 58) hx hb h.1 h.2.1 dX5_narrow_43 rfl (fun c43 => ?_) (fun c43 => ?_)
    · have h := h.2.2.1 c43
      exact gg_vret hx hb hr hlk h dX5_narrow_58
    · have h := h.2.2.2 c43
      refine gg_aload_n hx hb 0 rfl rfl dX5_narrow_46 ?_
      refine gg_iload_n hx hb 1 rfl rfl dX5_narrow_47 ?_
      refine gg_iconst hx hb dX5_narrow_48 ?_
      refine gg_iadd hx hb dX5_narrow_49 ?_
      refine gg_put (C := RX5) (T := TX5) (N := 7) hx hb hts hown hK iX5_narrow_X5 tyX5 tyX5_ok nmX5 5 rfl rfl 5 (by decide) (List.mem_of_getElem? (i := 4) rfl) rfl rfl (Nat.le_of_ble_eq_true rfl) (cX_set_5_5 aa cI cZ cJ _ _) dX5_narrow_50 (fun σ_50 e50 => ?_)
      have h := h σ_50 e50
      refine gg_aload_n hx hb 0 rfl rfl dX5_narrow_53 ?_
      refine gg_iload_n hx hb 2 rfl rfl dX5_narrow_54 ?_
      refine gg_put (C := RX5) (T := TX5) (N := 7) hx hb hts hown hK iX5_narrow_X5 tyX5 tyX5_ok nmX5 5 rfl rfl 6 (by decide) (List.mem_of_getElem? (i := 3) rfl) rfl rfl (Nat.le_of_ble_eq_true rfl) (cX_set_5_6 aa cI cZ cJ _ _) dX5_narrow_55 (fun σ_55 e55 => ?_)
      have h := h σ_55 e55
      exact gg_vret hx hb hr hlk h dX5_narrow_58)
  refine gg_icmp_le (tgt := 29) hx hb h.1 h.2.1 dX5_narrow_14 rfl (fun c14 => ?_) (fun c14 => ?_)
  · have h := h.2.2.1 c14
    exact h
  · have h := h.2.2.2 c14
    refine gg_aload_n hx hb 0 rfl rfl dX5_narrow_17 ?_
    refine gg_iload_n hx hb 1 rfl rfl dX5_narrow_18 ?_
    refine gg_iconst hx hb dX5_narrow_19 ?_
    refine gg_isub hx hb dX5_narrow_20 ?_
    refine gg_put (C := RX5) (T := TX5) (N := 7) hx hb hts hown hK iX5_narrow_X5 tyX5 tyX5_ok nmX5 5 rfl rfl 3 (by decide) (List.mem_of_getElem? (i := 2) rfl) rfl rfl (Nat.le_of_ble_eq_true rfl) (cX_set_5_3 aa cI cZ cJ _ _) dX5_narrow_21 (fun σ_21 e21 => ?_)
    have h := h σ_21 e21
    refine gg_aload_n hx hb 0 rfl rfl dX5_narrow_24 ?_
    refine gg_iload_n hx hb 2 rfl rfl dX5_narrow_25 ?_
    refine gg_put (C := RX5) (T := TX5) (N := 7) hx hb hts hown hK iX5_narrow_X5 tyX5 tyX5_ok nmX5 5 rfl rfl 4 (by decide) (List.mem_of_getElem? (i := 1) rfl) rfl rfl (Nat.le_of_ble_eq_true rfl) (cX_set_5_4 aa cI cZ cJ _ _) dX5_narrow_26 (fun σ_26 e26 => ?_)
    have h := h σ_26 e26
    exact h
abbrev rmX5_grow : Room := { frames := 1, cells := 0, slots := 0, locals := 22 }
theorem iX5_grow_X5 : ∀ w ∈ u_ws RX5 TX5 7, w ∈ wsX5_grow := (fun _ h => List.mem_cons_of_mem _ (List.mem_append_right _ h))
theorem hd_X5_grow : (yX5_grow.cls = RX5 ∧ yX5_grow.cls ≠ "java/lang/invoke/MethodHandle" ∧ yX5_grow.cls ≠ "java/lang/invoke/VarHandle" ∧ (parseMethodDescriptor yX5_grow.desc).map (fun d => d.parameters.length) = some 1) := by decide +kernel
set_option maxRecDepth 100000 in
set_option maxHeartbeats 4000000 in
theorem c_X5_grow (l : Launch) (D : va_G) (aa : Nat → Nat) (cI cZ cJ : ClassId) (tR tU : Nat) (a1 : Int) (σ : xSt) (Post : xSt → Prop) (h : wp_X5_grow a1 σ Post) : MV l D (tyL cI cZ cJ) (cX aa cI cZ cJ) tR tU yX5_grow wsX5_grow rmX5_grow [.ref (aa 5), .int (xI a1)] σ Post := by
  refine mv_of (cc := cX5_grow) (maxL := 3) (ret := none) (by decide) rfl (Nat.le_of_ble_eq_true rfl) ?_
  intro p e s m args below meth c A hF
  obtain ⟨hx, hb, hr, hml, hown, hts, hlk, hK, hZ, hA⟩ := hF
  have hown : s.vm.findClass RX5 = some m.cls := hown
  delta wp_X5_grow at h
  refine gg_lv (lv' := [(0, .ref (aa 5)), (1, .int (xI a1))]) [0, 1] rfl ?_
  refine gg_aload_n hx hb 0 rfl rfl dX5_grow_0 ?_
  refine gg_get (C := RX5) (T := TX5) (N := 7) hx hb hts hown hK iX5_grow_X5 5 rfl rfl 1 (by decide) (List.mem_of_getElem? (i := 1) rfl) rfl dX5_grow_1 ?_
  refine gg_bipush hx hb dX5_grow_4 rfl ?_
  refine gg_icmp_ge (tgt := 19) hx hb h.1 (by decide) dX5_grow_6 rfl (fun c6 => ?_) (fun c6 => ?_)
  · have h := h.2.1 c6
    exact gg_vret hx hb hr hlk h dX5_grow_19
  · have h := h.2.2 c6
    refine gg_iload_n hx hb 1 rfl rfl dX5_grow_9 ?_
    refine gg_if_lt (tgt := 19) hx hb h.1 dX5_grow_10 rfl (fun c10 => ?_) (fun c10 => ?_)
    · have h := h.2.1 c10
      exact gg_vret hx hb hr hlk h dX5_grow_19
    · have h := h.2.2 c10
      refine gg_iload_n hx hb 1 rfl rfl dX5_grow_13 ?_
      refine gg_bipush hx hb dX5_grow_14 rfl ?_
      refine gg_icmp_lt (tgt := 20) hx hb h.1 (by decide) dX5_grow_16 rfl (fun c16 => ?_) (fun c16 => ?_)
      · have h := h.2.1 c16
        refine gg_aload_n hx hb 0 rfl rfl dX5_grow_20 ?_
        refine gg_dup hx hb rfl dX5_grow_21 ?_
        refine gg_get (C := RX5) (T := TX5) (N := 7) hx hb hts hown hK iX5_grow_X5 5 rfl rfl 2 (by decide) (List.mem_of_getElem? (i := 2) rfl) rfl dX5_grow_22 ?_
        refine gg_iconst hx hb dX5_grow_25 ?_
        refine gg_iload_n hx hb 1 rfl rfl dX5_grow_26 ?_
        refine gg_ishl hx hb dX5_grow_27 ?_
        refine gg_ior hx hb dX5_grow_28 ?_
        refine gg_put (C := RX5) (T := TX5) (N := 7) hx hb hts hown hK iX5_grow_X5 tyX5 tyX5_ok nmX5 5 rfl rfl 2 (by decide) (List.mem_of_getElem? (i := 2) rfl) rfl rfl (Nat.le_of_ble_eq_true rfl) (cX_set_5_2 aa cI cZ cJ _ _) dX5_grow_29 (fun σ_29 e29 => ?_)
        have h := h σ_29 e29
        refine gg_aload_n hx hb 0 rfl rfl dX5_grow_32 ?_
        refine gg_get (C := RX5) (T := TX5) (N := 7) hx hb hts hown hK iX5_grow_X5 5 rfl rfl 0 (by decide) (List.mem_of_getElem? (i := 3) rfl) rfl dX5_grow_33 ?_
        refine gg_aload_n hx hb 0 rfl rfl dX5_grow_36 ?_
        refine gg_get (C := RX5) (T := TX5) (N := 7) hx hb hts hown hK iX5_grow_X5 5 rfl rfl 1 (by decide) (List.mem_of_getElem? (i := 1) rfl) rfl dX5_grow_37 ?_
        refine gg_iconst hx hb dX5_grow_40 ?_
        refine gg_iadd hx hb dX5_grow_41 ?_
        refine gg_aload_n hx hb 0 rfl rfl dX5_grow_42 ?_
        refine gg_get (C := RX5) (T := TX5) (N := 7) hx hb hts hown hK iX5_grow_X5 5 rfl rfl 0 (by decide) (List.mem_of_getElem? (i := 3) rfl) rfl dX5_grow_43 ?_
        refine gg_aload_n hx hb 0 rfl rfl dX5_grow_46 ?_
        refine gg_get (C := RX5) (T := TX5) (N := 7) hx hb hts hown hK iX5_grow_X5 5 rfl rfl 1 (by decide) (List.mem_of_getElem? (i := 1) rfl) rfl dX5_grow_47 ?_
        refine gg_iald hx hb hK 6 0 rfl rfl (by decide) h.1 dX5_grow_50 ?_
        have h := h.2
        refine gg_iload_n hx hb 1 rfl rfl dX5_grow_51 ?_
        refine gg_iconst hx hb dX5_grow_52 ?_
        refine gg_irem hx hb h.1 h.2.1 h.2.2.1 dX5_grow_53 ?_
        have h := h.2.2.2
        refine gg_iadd hx hb dX5_grow_54 ?_
        refine gg_iast hx hb hK 6 0 rfl rfl (cX_st_6 aa cI cZ cJ _ _) (by decide) h.1 dX5_grow_55 (fun σ_55 e55 => ?_)
        have h := h.2 σ_55 e55
        refine gg_aload_n hx hb 0 rfl rfl dX5_grow_56 ?_
        refine gg_dup hx hb rfl dX5_grow_57 ?_
        refine gg_get (C := RX5) (T := TX5) (N := 7) hx hb hts hown hK iX5_grow_X5 5 rfl rfl 1 (by decide) (List.mem_of_getElem? (i := 1) rfl) rfl dX5_grow_58 ?_
        refine gg_iconst hx hb dX5_grow_61 ?_
        refine gg_iadd hx hb dX5_grow_62 ?_
        refine gg_put (C := RX5) (T := TX5) (N := 7) hx hb hts hown hK iX5_grow_X5 tyX5 tyX5_ok nmX5 5 rfl rfl 1 (by decide) (List.mem_of_getElem? (i := 1) rfl) rfl rfl (Nat.le_of_ble_eq_true rfl) (cX_set_5_1 aa cI cZ cJ _ _) dX5_grow_63 (fun σ_63 e63 => ?_)
        have h := h σ_63 e63
        refine gg_iconst hx hb dX5_grow_66 ?_
        refine gg_istore_n (lv' := [(2, .int (xI 0)), (0, .ref (aa 5)), (1, .int (xI a1))]) hx hb rfl (by decide) rfl dX5_grow_67 ?_
        have h := h (fun (x2_68 : Int) (s68 : xSt) => GG p l e rmX5_grow s m args below meth c (QV below D (cX aa cI cZ cJ) A args s Post) A D (cX aa cI cZ cJ) 3 s68 68 [(0, .ref (aa 5)), (2, .int (xI x2_68))] [])
        have h := h (by
          intro x2_68 s68 h
          refine gg_iload_n hx hb 1 rfl rfl dX5_grow_68 ?_
          refine gg_aload_n hx hb 0 rfl rfl dX5_grow_69 ?_
          refine gg_get (C := RX5) (T := TX5) (N := 7) hx hb hts hown hK iX5_grow_X5 5 rfl rfl 1 (by decide) (List.mem_of_getElem? (i := 1) rfl) rfl dX5_grow_70 ?_
          refine gg_icmp_ge (tgt := 108) hx hb h.1 h.2.1 dX5_grow_73 rfl (fun c73 => ?_) (fun c73 => ?_)
          · have h := h.2.2.1 c73
            exact gg_vret hx hb hr hlk h dX5_grow_108
          · have h := h.2.2.2 c73
            refine gg_aload_n hx hb 0 rfl rfl dX5_grow_76 ?_
            refine gg_aload_n hx hb 0 rfl rfl dX5_grow_77 ?_
            refine gg_get (C := RX5) (T := TX5) (N := 7) hx hb hts hown hK iX5_grow_X5 5 rfl rfl 0 (by decide) (List.mem_of_getElem? (i := 3) rfl) rfl dX5_grow_78 ?_
            refine gg_aload_n hx hb 0 rfl rfl dX5_grow_81 ?_
            refine gg_get (C := RX5) (T := TX5) (N := 7) hx hb hts hown hK iX5_grow_X5 5 rfl rfl 1 (by decide) (List.mem_of_getElem? (i := 1) rfl) rfl dX5_grow_82 ?_
            refine gg_iald hx hb hK 6 0 rfl rfl (by decide) h.1 dX5_grow_85 ?_
            have h := h.2
            refine gg_aload_n hx hb 0 rfl rfl dX5_grow_86 ?_
            refine gg_get (C := RX5) (T := TX5) (N := 7) hx hb hts hown hK iX5_grow_X5 5 rfl rfl 0 (by decide) (List.mem_of_getElem? (i := 3) rfl) rfl dX5_grow_87 ?_
            refine gg_iload_n hx hb 1 rfl rfl dX5_grow_90 ?_
            refine gg_iald hx hb hK 6 0 rfl rfl (by decide) h.1 dX5_grow_91 ?_
            have h := h.2
            refine gg_isub hx hb dX5_grow_92 ?_
            refine gg_aload_n hx hb 0 rfl rfl dX5_grow_93 ?_
            refine gg_get (C := RX5) (T := TX5) (N := 7) hx hb hts hown hK iX5_grow_X5 5 rfl rfl 1 (by decide) (List.mem_of_getElem? (i := 1) rfl) rfl dX5_grow_94 ?_
            refine gg_iload_n hx hb 1 rfl rfl dX5_grow_97 ?_
            refine gg_isub hx hb dX5_grow_98 ?_
            refine gg_callVv (As := [.int (xI ((s68 6 (s68 5 1).toNat) - (s68 6 (x2_68).toNat))), .int (xI ((s68 5 1) - x2_68))]) (rest := []) hx hb hml hown hts hK hZ hA (c_X5_narrow l D aa cI cZ cJ tR tU ((s68 6 (s68 5 1).toNat) - (s68 6 (x2_68).toNat)) ((s68 5 1) - x2_68) s68 _ h) (cwV 2 hts gX5_grow_X5_narrow rfl rfl rfl hd_X5_narrow ⟨Nat.le_of_ble_eq_true rfl, Nat.le_of_ble_eq_true rfl⟩) 5 rfl rfl rfl rfl (Nat.le_of_ble_eq_true rfl) dX5_grow_99 (fun t99 h => ?_)
            refine gg_iinc (lv' := [(2, .int (xI (x2_68 + 1))), (0, .ref (aa 5))]) hx hb 1 rfl (by decide) rfl dX5_grow_102 ?_
            refine gg_goto (tgt := 68) hx hb dX5_grow_105 rfl ?_
            refine gg_lv [1, 0] rfl ?_
            exact h)
        refine gg_lv [1, 0] rfl ?_
        exact h
      · have h := h.2.2 c16
        exact gg_vret hx hb hr hlk h dX5_grow_19
abbrev rmX5_measure : Room := { frames := 2, cells := 0, slots := 0, locals := 44 }
theorem hd_X5_measure : (yX5_measure.cls = RX5 ∧ yX5_measure.cls ≠ "java/lang/invoke/MethodHandle" ∧ yX5_measure.cls ≠ "java/lang/invoke/VarHandle" ∧ (parseMethodDescriptor yX5_measure.desc).map (fun d => d.parameters.length) = some 3) := by decide +kernel
set_option maxRecDepth 100000 in
set_option maxHeartbeats 4000000 in
theorem c_X5_measure (l : Launch) (D : va_G) (aa : Nat → Nat) (cI cZ cJ : ClassId) (tR tU : Nat) (a2 : Int) (a3 : Int) (σ : xSt) (Post : xSt → Prop) (h : wp_X5_measure a2 a3 σ Post) : MV l D (tyL cI cZ cJ) (cX aa cI cZ cJ) tR tU yX5_measure wsX5_measure rmX5_measure [.ref (aa 5), .ref (aa 1), .int (xI a2), .int (xI a3)] σ Post := by
  refine mv_of (cc := cX5_measure) (maxL := 5) (ret := none) (by decide) rfl (Nat.le_of_ble_eq_true rfl) ?_
  intro p e s m args below meth c A hF
  obtain ⟨hx, hb, hr, hml, hown, hts, hlk, hK, hZ, hA⟩ := hF
  have hown : s.vm.findClass RX5 = some m.cls := hown
  delta wp_X5_measure at h
  refine gg_lv (lv' := [(0, .ref (aa 5)), (1, .ref (aa 1)), (2, .int (xI a2)), (3, .int (xI a3))]) [0, 1, 2, 3] rfl ?_
  refine gg_aload_n hx hb 0 rfl rfl dX5_measure_0 ?_
  refine gg_callVv (As := []) (rest := []) hx hb hml hown hts hK hZ hA (c_X5_begin l D aa cI cZ cJ tR tU σ _ h) (cwV 0 hts gX5_measure_X5_begin rfl rfl rfl hd_X5_begin ⟨Nat.le_of_ble_eq_true rfl, Nat.le_of_ble_eq_true rfl⟩) 5 rfl rfl rfl rfl (Nat.le_of_ble_eq_true rfl) dX5_measure_1 (fun t1 h => ?_)
  refine gg_iload_n hx hb 2 rfl rfl dX5_measure_4 ?_
  refine gg_istore (lv' := [(4, .int (xI a2)), (0, .ref (aa 5)), (1, .ref (aa 1)), (2, .int (xI a2)), (3, .int (xI a3))]) hx hb (by decide) rfl dX5_measure_5 ?_
  have h := h (fun (x4_7 : Int) (s7 : xSt) => GG p l e rmX5_measure s m args below meth c (QV below D (cX aa cI cZ cJ) A args s Post) A D (cX aa cI cZ cJ) 5 s7 7 [(0, .ref (aa 5)), (1, .ref (aa 1)), (3, .int (xI a3)), (4, .int (xI x4_7))] [])
  have h := h (by
    intro x4_7 s7 h
    refine gg_iload hx hb 3 rfl dX5_measure_7 ?_
    refine gg_iload_n hx hb 2 rfl rfl dX5_measure_9 ?_
    refine gg_icmp_ge (tgt := 29) hx hb h.1 h.2.1 dX5_measure_10 rfl (fun c10 => ?_) (fun c10 => ?_)
    · have h := h.2.2.1 c10
      exact gg_vret hx hb hr hlk h dX5_measure_29
    · have h := h.2.2.2 c10
      refine gg_aload_n hx hb 0 rfl rfl dX5_measure_13 ?_
      refine gg_aload_n hx hb 1 rfl rfl dX5_measure_14 ?_
      refine gg_iload hx hb 3 rfl dX5_measure_15 ?_
      refine gg_callVip (As := [.int (xI x4_7)]) (rest := [.ref (aa 5)]) hx hb hml hown hts hK hZ hA (c_X6_wayOf l D aa cI cZ cJ tR tU x4_7 s7 _ h) (cwV 1 hts gX5_measure_X6_wayOf rfl rfl rfl hd_X6_wayOf ⟨Nat.le_of_ble_eq_true rfl, Nat.le_of_ble_eq_true rfl⟩) 1 rfl rfl rfl rfl (Nat.le_of_ble_eq_true rfl) dX5_measure_17 (fun r17 h => ?_)
      refine gg_callVv (As := [.int (xI r17)]) (rest := []) hx hb hml hown hts hK hZ hA (c_X5_grow l D aa cI cZ cJ tR tU r17 s7 _ h) (cwV 1 hts gX5_measure_X5_grow rfl rfl rfl hd_X5_grow ⟨Nat.le_of_ble_eq_true rfl, Nat.le_of_ble_eq_true rfl⟩) 5 rfl rfl rfl rfl (Nat.le_of_ble_eq_true rfl) dX5_measure_20 (fun t20 h => ?_)
      refine gg_iinc (lv' := [(4, .int (xI (x4_7 + 1))), (0, .ref (aa 5)), (1, .ref (aa 1)), (3, .int (xI a3))]) hx hb 3 rfl (by decide) rfl dX5_measure_23 ?_
      refine gg_goto (tgt := 7) hx hb dX5_measure_26 rfl ?_
      refine gg_lv [1, 2, 3, 0] rfl ?_
      exact h)
  refine gg_lv [1, 2, 4, 0] rfl ?_
  exact h
abbrev rmX5_waysFit : Room := { frames := 0, cells := 0, slots := 0, locals := 0 }
theorem iX5_waysFit_X5 : ∀ w ∈ u_ws RX5 TX5 7, w ∈ wsX5_waysFit := (fun _ h => List.mem_cons_of_mem _ (List.mem_append_right _ h))
theorem hd_X5_waysFit : (yX5_waysFit.cls = RX5 ∧ yX5_waysFit.cls ≠ "java/lang/invoke/MethodHandle" ∧ yX5_waysFit.cls ≠ "java/lang/invoke/VarHandle" ∧ (parseMethodDescriptor yX5_waysFit.desc).map (fun d => d.parameters.length) = some 0) := by decide +kernel
set_option maxRecDepth 100000 in
set_option maxHeartbeats 4000000 in
theorem c_X5_waysFit (l : Launch) (D : va_G) (aa : Nat → Nat) (cI cZ cJ : ClassId) (tR tU : Nat) (σ : xSt) (Post : Int → Prop) (h : wp_X5_waysFit σ Post) : MI l D (tyL cI cZ cJ) (cX aa cI cZ cJ) tR tU yX5_waysFit wsX5_waysFit rmX5_waysFit [.ref (aa 5)] σ (fun r9 σ9 => σ9 = σ ∧ Post r9) := by
  refine mi_of (cc := cX5_waysFit) (maxL := 3) (ret := (some .boolean)) (by decide) rfl (Nat.le_of_ble_eq_true rfl) ?_
  intro p e s m args below meth c A hF
  obtain ⟨hx, hb, hr, hml, hown, hts, hlk, hK, hZ, hA⟩ := hF
  have hown : s.vm.findClass RX5 = some m.cls := hown
  delta wp_X5_waysFit at h
  refine gg_lv (lv' := [(0, .ref (aa 5))]) [0] rfl ?_
  refine gg_iconst hx hb dX5_waysFit_0 ?_
  refine gg_istore_n (lv' := [(1, .int (xI 0)), (0, .ref (aa 5))]) hx hb rfl (by decide) rfl dX5_waysFit_1 ?_
  have h := h (fun (x1_2 : Int) => GG p l e rmX5_waysFit s m args below meth c (QI below D (cX aa cI cZ cJ) A args s (fun r9 σ9 => σ9 = σ ∧ Post r9)) A D (cX aa cI cZ cJ) 3 σ 2 [(0, .ref (aa 5)), (1, .int (xI x1_2))] [])
  have h := h (by
    intro x1_2 h
    refine gg_iload_n hx hb 1 rfl rfl dX5_waysFit_2 ?_
    refine gg_bipush hx hb dX5_waysFit_3 rfl ?_
    refine gg_icmp_ge (tgt := 40) hx hb h.1 (by decide) dX5_waysFit_5 rfl (fun c5 => ?_) (fun c5 => ?_)
    · have h := h.2.1 c5
      refine gg_iconst hx hb dX5_waysFit_40 ?_
      exact gg_zret hx hb hr hlk (Or.inl rfl) ⟨rfl, h⟩ dX5_waysFit_41
    · have h := h.2.2 c5
      refine gg_iconst hx hb dX5_waysFit_8 ?_
      refine gg_iload_n hx hb 1 rfl rfl dX5_waysFit_9 ?_
      refine gg_ishl hx hb dX5_waysFit_10 ?_
      refine gg_iconst hx hb dX5_waysFit_11 ?_
      refine gg_iload_n hx hb 1 rfl rfl dX5_waysFit_12 ?_
      refine gg_iconst hx hb dX5_waysFit_13 ?_
      refine gg_iadd hx hb dX5_waysFit_14 ?_
      refine gg_bipush hx hb dX5_waysFit_15 rfl ?_
      refine gg_irem hx hb h.1 h.2.1 h.2.2.1 dX5_waysFit_17 ?_
      have h := h.2.2.2
      refine gg_ishl hx hb dX5_waysFit_18 ?_
      refine gg_ior hx hb dX5_waysFit_19 ?_
      refine gg_nm (fun z2_20 e20 => ?_)
      have h := h z2_20 e20
      refine gg_istore_n (lv' := [(2, .int (xI z2_20)), (0, .ref (aa 5)), (1, .int (xI x1_2))]) hx hb rfl (by decide) rfl dX5_waysFit_20 ?_
      refine gg_aload_n hx hb 1 rfl rfl dX5_waysFit_21 ?_
      refine gg_get (C := RX5) (T := TX5) (N := 7) hx hb hts hown hK iX5_waysFit_X5 5 rfl rfl 2 (by decide) (List.mem_of_getElem? (i := 1) rfl) rfl dX5_waysFit_22 ?_
      refine gg_iload_n hx hb 0 rfl rfl dX5_waysFit_25 ?_
      refine gg_iconst hx hb dX5_waysFit_26 ?_
      refine gg_ixor hx hb dX5_waysFit_27 ?_
      refine gg_iand hx hb dX5_waysFit_28 ?_
      refine gg_if_ne (tgt := 34) hx hb h.1 dX5_waysFit_29 rfl (fun c29 => ?_) (fun c29 => ?_)
      · have h := h.2.1 c29
        refine gg_iinc (lv' := [(1, .int (xI (x1_2 + 1))), (2, .int (xI z2_20)), (0, .ref (aa 5))]) hx hb 2 rfl (by decide) rfl dX5_waysFit_34 ?_
        refine gg_goto (tgt := 2) hx hb dX5_waysFit_37 rfl ?_
        refine gg_lv [2, 0] rfl ?_
        exact h
      · have h := h.2.2 c29
        refine gg_iconst hx hb dX5_waysFit_32 ?_
        exact gg_zret hx hb hr hlk (Or.inr rfl) ⟨rfl, h⟩ dX5_waysFit_33)
  refine gg_lv [1, 0] rfl ?_
  exact h
abbrev rmX5_isStraight : Room := { frames := 1, cells := 0, slots := 0, locals := 22 }
theorem iX5_isStraight_X5 : ∀ w ∈ u_ws RX5 TX5 7, w ∈ wsX5_isStraight := (fun _ h => List.mem_cons_of_mem _ (List.mem_append_right _ h))
theorem hd_X5_isStraight : (yX5_isStraight.cls = RX5 ∧ yX5_isStraight.cls ≠ "java/lang/invoke/MethodHandle" ∧ yX5_isStraight.cls ≠ "java/lang/invoke/VarHandle" ∧ (parseMethodDescriptor yX5_isStraight.desc).map (fun d => d.parameters.length) = some 0) := by decide +kernel
set_option maxRecDepth 100000 in
set_option maxHeartbeats 4000000 in
theorem c_X5_isStraight (l : Launch) (D : va_G) (aa : Nat → Nat) (cI cZ cJ : ClassId) (tR tU : Nat) (σ : xSt) (Post : Int → Prop) (h : wp_X5_isStraight σ Post) : MI l D (tyL cI cZ cJ) (cX aa cI cZ cJ) tR tU yX5_isStraight wsX5_isStraight rmX5_isStraight [.ref (aa 5)] σ (fun r9 σ9 => σ9 = σ ∧ Post r9) := by
  refine mi_of (cc := cX5_isStraight) (maxL := 1) (ret := (some .boolean)) (by decide) rfl (Nat.le_of_ble_eq_true rfl) ?_
  intro p e s m args below meth c A hF
  obtain ⟨hx, hb, hr, hml, hown, hts, hlk, hK, hZ, hA⟩ := hF
  have hown : s.vm.findClass RX5 = some m.cls := hown
  delta wp_X5_isStraight at h
  refine gg_lv (lv' := [(0, .ref (aa 5))]) [0] rfl ?_
  refine gg_aload_n hx hb 0 rfl rfl dX5_isStraight_0 ?_
  refine gg_get (C := RX5) (T := TX5) (N := 7) hx hb hts hown hK iX5_isStraight_X5 5 rfl rfl 3 (by decide) (List.mem_of_getElem? (i := 1) rfl) rfl dX5_isStraight_1 ?_
  refine gg_aload_n hx hb 0 rfl rfl dX5_isStraight_4 ?_
  refine gg_get (C := RX5) (T := TX5) (N := 7) hx hb hts hown hK iX5_isStraight_X5 5 rfl rfl 6 (by decide) (List.mem_of_getElem? (i := 2) rfl) rfl dX5_isStraight_5 ?_
  refine gg_imul hx hb dX5_isStraight_8 ?_
  refine gg_aload_n hx hb 0 rfl rfl dX5_isStraight_9 ?_
  refine gg_get (C := RX5) (T := TX5) (N := 7) hx hb hts hown hK iX5_isStraight_X5 5 rfl rfl 5 (by decide) (List.mem_of_getElem? (i := 3) rfl) rfl dX5_isStraight_10 ?_
  refine gg_aload_n hx hb 0 rfl rfl dX5_isStraight_13 ?_
  refine gg_get (C := RX5) (T := TX5) (N := 7) hx hb hts hown hK iX5_isStraight_X5 5 rfl rfl 4 (by decide) (List.mem_of_getElem? (i := 4) rfl) rfl dX5_isStraight_14 ?_
  refine gg_imul hx hb dX5_isStraight_17 ?_
  refine gg_icmp_ge (tgt := 32) hx hb h.1 h.2.1 dX5_isStraight_18 rfl (fun c18 => ?_) (fun c18 => ?_)
  · have h := h.2.2.1 c18
    refine gg_iconst hx hb dX5_isStraight_32 ?_
    exact gg_zret hx hb hr hlk (Or.inl rfl) ⟨rfl, h⟩ dX5_isStraight_33
  · have h := h.2.2.2 c18
    refine gg_aload_n hx hb 0 rfl rfl dX5_isStraight_21 ?_
    refine gg_callVip (As := []) (rest := []) hx hb hml hown hts hK hZ hA (c_X5_waysFit l D aa cI cZ cJ tR tU σ _ h) (cwV 0 hts gX5_isStraight_X5_waysFit rfl rfl rfl hd_X5_waysFit ⟨Nat.le_of_ble_eq_true rfl, Nat.le_of_ble_eq_true rfl⟩) 5 rfl rfl rfl rfl (Nat.le_of_ble_eq_true rfl) dX5_isStraight_22 (fun r22 h => ?_)
    refine gg_if_eq (tgt := 32) hx hb h.1 dX5_isStraight_25 rfl (fun c25 => ?_) (fun c25 => ?_)
    · have h := h.2.1 c25
      refine gg_iconst hx hb dX5_isStraight_32 ?_
      exact gg_zret hx hb hr hlk (Or.inl rfl) ⟨rfl, h⟩ dX5_isStraight_33
    · have h := h.2.2 c25
      refine gg_iconst hx hb dX5_isStraight_28 ?_
      refine gg_goto (tgt := 33) hx hb dX5_isStraight_29 rfl ?_
      exact gg_zret hx hb hr hlk (Or.inr rfl) ⟨rfl, h⟩ dX5_isStraight_33
abbrev rmX9_straight : Room := { frames := 3, cells := 0, slots := 0, locals := 68 }
theorem iX9_straight_X9 : ∀ w ∈ u_ws RX9 TX9 9, w ∈ wsX9_straight := (fun _ h => List.mem_cons_of_mem _ (List.mem_append_left _ (List.mem_append_left _ (List.mem_append_right _ h))))
theorem hd_X9_straight : (yX9_straight.cls = RX9 ∧ yX9_straight.cls ≠ "java/lang/invoke/MethodHandle" ∧ yX9_straight.cls ≠ "java/lang/invoke/VarHandle" ∧ (parseMethodDescriptor yX9_straight.desc).map (fun d => d.parameters.length) = some 2) := by decide +kernel
set_option maxRecDepth 100000 in
set_option maxHeartbeats 4000000 in
theorem c_X9_straight (l : Launch) (D : va_G) (aa : Nat → Nat) (cI cZ cJ : ClassId) (tR tU : Nat) (a1 : Int) (a2 : Int) (σ : xSt) (Post : Int → xSt → Prop) (h : wp_X9_straight a1 a2 σ Post) : MI l D (tyL cI cZ cJ) (cX aa cI cZ cJ) tR tU yX9_straight wsX9_straight rmX9_straight [.ref (aa 0), .int (xI a1), .int (xI a2)] σ Post := by
  refine mi_of (cc := cX9_straight) (maxL := 4) (ret := (some .int)) (by decide) rfl (Nat.le_of_ble_eq_true rfl) ?_
  intro p e s m args below meth c A hF
  obtain ⟨hx, hb, hr, hml, hown, hts, hlk, hK, hZ, hA⟩ := hF
  have hown : s.vm.findClass RX9 = some m.cls := hown
  delta wp_X9_straight at h
  refine gg_lv (lv' := [(0, .ref (aa 0)), (1, .int (xI a1)), (2, .int (xI a2))]) [0, 1, 2] rfl ?_
  refine gg_aload_n hx hb 0 rfl rfl dX9_straight_0 ?_
  refine gg_iload_n hx hb 1 rfl rfl dX9_straight_1 ?_
  refine gg_iload_n hx hb 2 rfl rfl dX9_straight_2 ?_
  refine gg_callVip (As := [.int (xI a1), .int (xI a2)]) (rest := []) hx hb hml hown hts hK hZ hA (c_X9_refusalOfPiece l D aa cI cZ cJ tR tU a1 a2 σ _ h) (cwV 2 hts gX9_straight_X9_refusalOfPiece rfl rfl rfl hd_X9_refusalOfPiece ⟨Nat.le_of_ble_eq_true rfl, Nat.le_of_ble_eq_true rfl⟩) 0 rfl rfl rfl rfl (Nat.le_of_ble_eq_true rfl) dX9_straight_3 (fun r3 h => ?_)
  refine gg_istore_n (lv' := [(3, .int (xI r3)), (0, .ref (aa 0)), (1, .int (xI a1)), (2, .int (xI a2))]) hx hb rfl (by decide) rfl dX9_straight_6 ?_
  refine gg_iload_n hx hb 0 rfl rfl dX9_straight_7 ?_
  refine gg_if_eq (tgt := 13) hx hb h.1 dX9_straight_8 rfl (fun c8 => ?_) (fun c8 => ?_)
  · have h := h.2.1 c8
    refine gg_aload_n hx hb 1 rfl rfl dX9_straight_13 ?_
    refine gg_get (C := RX9) (T := TX9) (N := 9) hx hb hts hown hK iX9_straight_X9 0 rfl rfl 1 (by decide) (List.mem_of_getElem? (i := 1) rfl) rfl dX9_straight_14 ?_
    refine gg_aload_n hx hb 1 rfl rfl dX9_straight_17 ?_
    refine gg_get (C := RX9) (T := TX9) (N := 9) hx hb hts hown hK iX9_straight_X9 0 rfl rfl 0 (by decide) (List.mem_of_getElem? (i := 2) rfl) rfl dX9_straight_18 ?_
    refine gg_iload_n hx hb 2 rfl rfl dX9_straight_21 ?_
    refine gg_iload_n hx hb 3 rfl rfl dX9_straight_22 ?_
    refine gg_callVv (As := [.ref (aa 1), .int (xI a1), .int (xI a2)]) (rest := []) hx hb hml hown hts hK hZ hA (c_X5_measure l D aa cI cZ cJ tR tU a1 a2 σ _ h) (cwV 3 hts gX9_straight_X5_measure rfl rfl rfl hd_X5_measure ⟨Nat.le_of_ble_eq_true rfl, Nat.le_of_ble_eq_true rfl⟩) 5 rfl rfl rfl rfl (Nat.le_of_ble_eq_true rfl) dX9_straight_23 (fun t23 h => ?_)
    refine gg_aload_n hx hb 1 rfl rfl dX9_straight_26 ?_
    refine gg_get (C := RX9) (T := TX9) (N := 9) hx hb hts hown hK iX9_straight_X9 0 rfl rfl 1 (by decide) (List.mem_of_getElem? (i := 1) rfl) rfl dX9_straight_27 ?_
    refine gg_callVip (As := []) (rest := []) hx hb hml hown hts hK hZ hA (c_X5_isStraight l D aa cI cZ cJ tR tU t23 _ h) (cwV 0 hts gX9_straight_X5_isStraight rfl rfl rfl hd_X5_isStraight ⟨Nat.le_of_ble_eq_true rfl, Nat.le_of_ble_eq_true rfl⟩) 5 rfl rfl rfl rfl (Nat.le_of_ble_eq_true rfl) dX9_straight_30 (fun r30 h => ?_)
    refine gg_if_eq (tgt := 40) hx hb h.1 dX9_straight_33 rfl (fun c33 => ?_) (fun c33 => ?_)
    · have h := h.2.1 c33
      refine gg_iconst hx hb dX9_straight_40 ?_
      exact gg_iret hx hb hr hlk h dX9_straight_41
    · have h := h.2.2 c33
      refine gg_iconst hx hb dX9_straight_36 ?_
      refine gg_goto (tgt := 41) hx hb dX9_straight_37 rfl ?_
      exact gg_iret hx hb hr hlk h dX9_straight_41
  · have h := h.2.2 c8
    refine gg_iload_n hx hb 0 rfl rfl dX9_straight_11 ?_
    exact gg_iret hx hb hr hlk h dX9_straight_12
abbrev rmX5_commonDivisor : Room := { frames := 0, cells := 0, slots := 0, locals := 0 }
theorem hd_X5_commonDivisor : (yX5_commonDivisor.cls ≠ "java/lang/invoke/MethodHandle" ∧ yX5_commonDivisor.cls ≠ "java/lang/invoke/VarHandle" ∧ (parseMethodDescriptor yX5_commonDivisor.desc).map (fun d => d.parameters.length) = some 2) := by decide +kernel
set_option maxRecDepth 100000 in
set_option maxHeartbeats 4000000 in
theorem c_X5_commonDivisor (l : Launch) (D : va_G) (aa : Nat → Nat) (cI cZ cJ : ClassId) (tR tU : Nat) (a0 : Int) (a1 : Int) (σ : xSt) (Post : Int → Prop) (h : wp_X5_commonDivisor a0 a1 σ Post) : MI l D (tyL cI cZ cJ) (cX aa cI cZ cJ) tR tU yX5_commonDivisor wsX5_commonDivisor rmX5_commonDivisor [.int (xI a0), .int (xI a1)] σ (fun r9 σ9 => σ9 = σ ∧ Post r9) := by
  refine mi_of (cc := cX5_commonDivisor) (maxL := 6) (ret := (some .int)) (by decide) rfl (Nat.le_of_ble_eq_true rfl) ?_
  intro p e s m args below meth c A hF
  obtain ⟨hx, hb, hr, hml, hown, hts, hlk, hK, hZ, hA⟩ := hF
  have hown : s.vm.findClass RX5 = some m.cls := hown
  delta wp_X5_commonDivisor at h
  refine gg_lv (lv' := [(0, .int (xI a0)), (1, .int (xI a1))]) [0, 1] rfl ?_
  refine gg_iload_n hx hb 0 rfl rfl dX5_commonDivisor_0 ?_
  refine gg_istore_n (lv' := [(2, .int (xI a0)), (0, .int (xI a0)), (1, .int (xI a1))]) hx hb rfl (by decide) rfl dX5_commonDivisor_1 ?_
  refine gg_iload_n hx hb 2 rfl rfl dX5_commonDivisor_2 ?_
  refine gg_istore_n (lv' := [(3, .int (xI a1)), (2, .int (xI a0)), (0, .int (xI a0)), (1, .int (xI a1))]) hx hb rfl (by decide) rfl dX5_commonDivisor_3 ?_
  refine gg_iconst hx hb dX5_commonDivisor_4 ?_
  refine gg_istore (lv' := [(4, .int (xI 0)), (3, .int (xI a1)), (2, .int (xI a0)), (0, .int (xI a0)), (1, .int (xI a1))]) hx hb (by decide) rfl dX5_commonDivisor_5 ?_
  have h := h (fun (x2_7 x3_7 x4_7 : Int) => GG p l e rmX5_commonDivisor s m args below meth c (QI below D (cX aa cI cZ cJ) A args s (fun r9 σ9 => σ9 = σ ∧ Post r9)) A D (cX aa cI cZ cJ) 6 σ 7 [(2, .int (xI x2_7)), (3, .int (xI x3_7)), (4, .int (xI x4_7))] [])
  have h := h (by
    intro x2_7 x3_7 x4_7 h
    refine gg_iload hx hb 2 rfl dX5_commonDivisor_7 ?_
    refine gg_bipush hx hb dX5_commonDivisor_9 rfl ?_
    refine gg_icmp_ge (tgt := 34) hx hb h.1 (by decide) dX5_commonDivisor_11 rfl (fun c11 => ?_) (fun c11 => ?_)
    · have h := h.2.1 c11
      refine gg_iload_n hx hb 0 rfl rfl dX5_commonDivisor_34 ?_
      exact gg_iret hx hb hr hlk ⟨rfl, h⟩ dX5_commonDivisor_35
    · have h := h.2.2 c11
      refine gg_iload_n hx hb 1 rfl rfl dX5_commonDivisor_14 ?_
      refine gg_if_eq (tgt := 34) hx hb h.1 dX5_commonDivisor_15 rfl (fun c15 => ?_) (fun c15 => ?_)
      · have h := h.2.1 c15
        refine gg_iload_n hx hb 0 rfl rfl dX5_commonDivisor_34 ?_
        exact gg_iret hx hb hr hlk ⟨rfl, h⟩ dX5_commonDivisor_35
      · have h := h.2.2 c15
        refine gg_iload_n hx hb 0 rfl rfl dX5_commonDivisor_18 ?_
        refine gg_iload_n hx hb 1 rfl rfl dX5_commonDivisor_19 ?_
        refine gg_irem hx hb h.1 h.2.1 h.2.2.1 dX5_commonDivisor_20 ?_
        have h := h.2.2.2
        refine gg_istore (lv' := [(5, .int (xI (Int.tmod x2_7 x3_7))), (2, .int (xI x2_7)), (3, .int (xI x3_7)), (4, .int (xI x4_7))]) hx hb (by decide) rfl dX5_commonDivisor_21 ?_
        refine gg_iload_n hx hb 2 rfl rfl dX5_commonDivisor_23 ?_
        refine gg_istore_n (lv' := [(2, .int (xI x3_7)), (5, .int (xI (Int.tmod x2_7 x3_7))), (3, .int (xI x3_7)), (4, .int (xI x4_7))]) hx hb rfl (by decide) rfl dX5_commonDivisor_24 ?_
        refine gg_iload hx hb 1 rfl dX5_commonDivisor_25 ?_
        refine gg_istore_n (lv' := [(3, .int (xI (Int.tmod x2_7 x3_7))), (2, .int (xI x3_7)), (5, .int (xI (Int.tmod x2_7 x3_7))), (4, .int (xI x4_7))]) hx hb rfl (by decide) rfl dX5_commonDivisor_27 ?_
        refine gg_iinc (lv' := [(4, .int (xI (x4_7 + 1))), (3, .int (xI (Int.tmod x2_7 x3_7))), (2, .int (xI x3_7)), (5, .int (xI (Int.tmod x2_7 x3_7)))]) hx hb 3 rfl (by decide) rfl dX5_commonDivisor_28 ?_
        refine gg_goto (tgt := 7) hx hb dX5_commonDivisor_31 rfl ?_
        refine gg_lv [2, 1, 0] rfl ?_
        exact h)
  refine gg_lv [2, 1, 0] rfl ?_
  exact h
abbrev rmX5_inLeastTerms : Room := { frames := 1, cells := 0, slots := 0, locals := 25 }
theorem hd_X5_inLeastTerms : (yX5_inLeastTerms.cls ≠ "java/lang/invoke/MethodHandle" ∧ yX5_inLeastTerms.cls ≠ "java/lang/invoke/VarHandle" ∧ (parseMethodDescriptor yX5_inLeastTerms.desc).map (fun d => d.parameters.length) = some 3) := by decide +kernel
set_option maxRecDepth 100000 in
set_option maxHeartbeats 4000000 in
theorem c_X5_inLeastTerms (l : Launch) (D : va_G) (aa : Nat → Nat) (cI cZ cJ : ClassId) (tR tU : Nat) (a0 : Int) (a1 : Int) (a2 : Int) (σ : xSt) (Post : Int → Prop) (h : wp_X5_inLeastTerms a0 a1 a2 σ Post) : MI l D (tyL cI cZ cJ) (cX aa cI cZ cJ) tR tU yX5_inLeastTerms wsX5_inLeastTerms rmX5_inLeastTerms [.int (xI a0), .int (xI a1), .int (xI a2)] σ (fun r9 σ9 => σ9 = σ ∧ Post r9) := by
  refine mi_of (cc := cX5_inLeastTerms) (maxL := 4) (ret := (some .int)) (by decide) rfl (Nat.le_of_ble_eq_true rfl) ?_
  intro p e s m args below meth c A hF
  obtain ⟨hx, hb, hr, hml, hown, hts, hlk, hK, hZ, hA⟩ := hF
  have hown : s.vm.findClass RX5 = some m.cls := hown
  delta wp_X5_inLeastTerms at h
  refine gg_lv (lv' := [(0, .int (xI a0)), (1, .int (xI a1)), (2, .int (xI a2))]) [0, 1, 2] rfl ?_
  refine gg_iload_n hx hb 0 rfl rfl dX5_inLeastTerms_0 ?_
  refine gg_mabs hx hb hml hown hts h.1 (List.mem_of_getElem? (i := 1) rfl) (List.mem_of_getElem? (i := 2) rfl) (List.mem_of_getElem? (i := 3) rfl) (List.mem_of_getElem? (i := 4) rfl) (Nat.le_of_ble_eq_true rfl) (Nat.le_of_ble_eq_true rfl) dX5_inLeastTerms_1 ?_
  have h := h.2
  refine gg_iload_n hx hb 1 rfl rfl dX5_inLeastTerms_4 ?_
  refine gg_callSip (As := [.int (xI (xAbs a0)), .int (xI a1)]) (rest := []) hx hb hml hown hts hK hZ hA (c_X5_commonDivisor l D aa cI cZ cJ tR tU (xAbs a0) a1 σ _ h) (va_cwS 2 hts gX5_inLeastTerms_X5_commonDivisor rfl rfl rfl hd_X5_commonDivisor ⟨Nat.le_of_ble_eq_true rfl, Nat.le_of_ble_eq_true rfl⟩) rfl rfl (Nat.le_of_ble_eq_true rfl) dX5_inLeastTerms_5 (fun r5 h => ?_)
  refine gg_istore_n (lv' := [(3, .int (xI r5)), (0, .int (xI a0)), (1, .int (xI a1)), (2, .int (xI a2))]) hx hb rfl (by decide) rfl dX5_inLeastTerms_8 ?_
  refine gg_iload_n hx hb 0 rfl rfl dX5_inLeastTerms_9 ?_
  refine gg_if_gt (tgt := 17) hx hb h.1 dX5_inLeastTerms_10 rfl (fun c10 => ?_) (fun c10 => ?_)
  · have h := h.2.1 c10
    refine gg_iload_n hx hb 3 rfl rfl dX5_inLeastTerms_17 ?_
    refine gg_if_eq (tgt := 27) hx hb h.1 dX5_inLeastTerms_18 rfl (fun c18 => ?_) (fun c18 => ?_)
    · have h := h.2.1 c18
      refine gg_iload_n hx hb 2 rfl rfl dX5_inLeastTerms_27 ?_
      refine gg_iload_n hx hb 0 rfl rfl dX5_inLeastTerms_28 ?_
      refine gg_idiv hx hb h.1 h.2.1 h.2.2.1 dX5_inLeastTerms_29 ?_
      have h := h.2.2.2
      exact gg_iret hx hb hr hlk ⟨rfl, h⟩ dX5_inLeastTerms_30
    · have h := h.2.2 c18
      refine gg_iload_n hx hb 1 rfl rfl dX5_inLeastTerms_21 ?_
      refine gg_iload_n hx hb 0 rfl rfl dX5_inLeastTerms_22 ?_
      refine gg_idiv hx hb h.1 h.2.1 h.2.2.1 dX5_inLeastTerms_23 ?_
      have h := h.2.2.2
      refine gg_goto (tgt := 30) hx hb dX5_inLeastTerms_24 rfl ?_
      exact gg_iret hx hb hr hlk ⟨rfl, h⟩ dX5_inLeastTerms_30
  · have h := h.2.2 c10
    refine gg_sipush hx hb dX5_inLeastTerms_13 rfl ?_
    exact gg_iret hx hb hr hlk ⟨rfl, h⟩ dX5_inLeastTerms_16
abbrev rmX5_highEnd : Room := { frames := 2, cells := 0, slots := 0, locals := 48 }
theorem iX5_highEnd_X5 : ∀ w ∈ u_ws RX5 TX5 7, w ∈ wsX5_highEnd := (fun _ h => List.mem_cons_of_mem _ (List.mem_append_right _ h))
theorem hd_X5_highEnd : (yX5_highEnd.cls = RX5 ∧ yX5_highEnd.cls ≠ "java/lang/invoke/MethodHandle" ∧ yX5_highEnd.cls ≠ "java/lang/invoke/VarHandle" ∧ (parseMethodDescriptor yX5_highEnd.desc).map (fun d => d.parameters.length) = some 1) := by decide +kernel
set_option maxRecDepth 100000 in
set_option maxHeartbeats 4000000 in
theorem c_X5_highEnd (l : Launch) (D : va_G) (aa : Nat → Nat) (cI cZ cJ : ClassId) (tR tU : Nat) (a1 : Int) (σ : xSt) (Post : Int → Prop) (h : wp_X5_highEnd a1 σ Post) : MI l D (tyL cI cZ cJ) (cX aa cI cZ cJ) tR tU yX5_highEnd wsX5_highEnd rmX5_highEnd [.ref (aa 5), .int (xI a1)] σ (fun r9 σ9 => σ9 = σ ∧ Post r9) := by
  refine mi_of (cc := cX5_highEnd) (maxL := 2) (ret := (some .int)) (by decide) rfl (Nat.le_of_ble_eq_true rfl) ?_
  intro p e s m args below meth c A hF
  obtain ⟨hx, hb, hr, hml, hown, hts, hlk, hK, hZ, hA⟩ := hF
  have hown : s.vm.findClass RX5 = some m.cls := hown
  delta wp_X5_highEnd at h
  refine gg_lv (lv' := [(0, .ref (aa 5)), (1, .int (xI a1))]) [0, 1] rfl ?_
  refine gg_aload_n hx hb 0 rfl rfl dX5_highEnd_0 ?_
  refine gg_get (C := RX5) (T := TX5) (N := 7) hx hb hts hown hK iX5_highEnd_X5 5 rfl rfl 5 (by decide) (List.mem_of_getElem? (i := 1) rfl) rfl dX5_highEnd_1 ?_
  refine gg_aload_n hx hb 0 rfl rfl dX5_highEnd_4 ?_
  refine gg_get (C := RX5) (T := TX5) (N := 7) hx hb hts hown hK iX5_highEnd_X5 5 rfl rfl 6 (by decide) (List.mem_of_getElem? (i := 2) rfl) rfl dX5_highEnd_5 ?_
  refine gg_iload_n hx hb 1 rfl rfl dX5_highEnd_8 ?_
  refine gg_callSip (As := [.int (xI (σ 5 5)), .int (xI (σ 5 6)), .int (xI a1)]) (rest := []) hx hb hml hown hts hK hZ hA (c_X5_inLeastTerms l D aa cI cZ cJ tR tU (σ 5 5) (σ 5 6) a1 σ _ h) (va_cwS 3 hts gX5_highEnd_X5_inLeastTerms rfl rfl rfl hd_X5_inLeastTerms ⟨Nat.le_of_ble_eq_true rfl, Nat.le_of_ble_eq_true rfl⟩) rfl rfl (Nat.le_of_ble_eq_true rfl) dX5_highEnd_9 (fun r9 h => ?_)
  exact gg_iret hx hb hr hlk ⟨rfl, h⟩ dX5_highEnd_12
abbrev rmX5_lowEnd : Room := { frames := 2, cells := 0, slots := 0, locals := 48 }
theorem iX5_lowEnd_X5 : ∀ w ∈ u_ws RX5 TX5 7, w ∈ wsX5_lowEnd := (fun _ h => List.mem_cons_of_mem _ (List.mem_append_right _ h))
theorem hd_X5_lowEnd : (yX5_lowEnd.cls = RX5 ∧ yX5_lowEnd.cls ≠ "java/lang/invoke/MethodHandle" ∧ yX5_lowEnd.cls ≠ "java/lang/invoke/VarHandle" ∧ (parseMethodDescriptor yX5_lowEnd.desc).map (fun d => d.parameters.length) = some 1) := by decide +kernel
set_option maxRecDepth 100000 in
set_option maxHeartbeats 4000000 in
theorem c_X5_lowEnd (l : Launch) (D : va_G) (aa : Nat → Nat) (cI cZ cJ : ClassId) (tR tU : Nat) (a1 : Int) (σ : xSt) (Post : Int → Prop) (h : wp_X5_lowEnd a1 σ Post) : MI l D (tyL cI cZ cJ) (cX aa cI cZ cJ) tR tU yX5_lowEnd wsX5_lowEnd rmX5_lowEnd [.ref (aa 5), .int (xI a1)] σ (fun r9 σ9 => σ9 = σ ∧ Post r9) := by
  refine mi_of (cc := cX5_lowEnd) (maxL := 2) (ret := (some .int)) (by decide) rfl (Nat.le_of_ble_eq_true rfl) ?_
  intro p e s m args below meth c A hF
  obtain ⟨hx, hb, hr, hml, hown, hts, hlk, hK, hZ, hA⟩ := hF
  have hown : s.vm.findClass RX5 = some m.cls := hown
  delta wp_X5_lowEnd at h
  refine gg_lv (lv' := [(0, .ref (aa 5)), (1, .int (xI a1))]) [0, 1] rfl ?_
  refine gg_aload_n hx hb 0 rfl rfl dX5_lowEnd_0 ?_
  refine gg_get (C := RX5) (T := TX5) (N := 7) hx hb hts hown hK iX5_lowEnd_X5 5 rfl rfl 3 (by decide) (List.mem_of_getElem? (i := 1) rfl) rfl dX5_lowEnd_1 ?_
  refine gg_aload_n hx hb 0 rfl rfl dX5_lowEnd_4 ?_
  refine gg_get (C := RX5) (T := TX5) (N := 7) hx hb hts hown hK iX5_lowEnd_X5 5 rfl rfl 4 (by decide) (List.mem_of_getElem? (i := 2) rfl) rfl dX5_lowEnd_5 ?_
  refine gg_iload_n hx hb 1 rfl rfl dX5_lowEnd_8 ?_
  refine gg_callSip (As := [.int (xI (σ 5 3)), .int (xI (σ 5 4)), .int (xI a1)]) (rest := []) hx hb hml hown hts hK hZ hA (c_X5_inLeastTerms l D aa cI cZ cJ tR tU (σ 5 3) (σ 5 4) a1 σ _ h) (va_cwS 3 hts gX5_lowEnd_X5_inLeastTerms rfl rfl rfl hd_X5_inLeastTerms ⟨Nat.le_of_ble_eq_true rfl, Nat.le_of_ble_eq_true rfl⟩) rfl rfl (Nat.le_of_ble_eq_true rfl) dX5_lowEnd_9 (fun r9 h => ?_)
  exact gg_iret hx hb hr hlk ⟨rfl, h⟩ dX5_lowEnd_12
abbrev rmX9_span : Room := { frames := 3, cells := 0, slots := 0, locals := 69 }
theorem iX9_span_X9 : ∀ w ∈ u_ws RX9 TX9 9, w ∈ wsX9_span := (fun _ h => List.mem_cons_of_mem _ (List.mem_append_left _ (List.mem_append_left _ (List.mem_append_right _ h))))
theorem hd_X9_span : (yX9_span.cls = RX9 ∧ yX9_span.cls ≠ "java/lang/invoke/MethodHandle" ∧ yX9_span.cls ≠ "java/lang/invoke/VarHandle" ∧ (parseMethodDescriptor yX9_span.desc).map (fun d => d.parameters.length) = some 4) := by decide +kernel
set_option maxRecDepth 100000 in
set_option maxHeartbeats 4000000 in
theorem c_X9_span (l : Launch) (D : va_G) (aa : Nat → Nat) (cI cZ cJ : ClassId) (tR tU : Nat) (a1 : Int) (a2 : Int) (a3 : Int) (a4 : Int) (σ : xSt) (Post : Int → xSt → Prop) (h : wp_X9_span a1 a2 a3 a4 σ Post) : MI l D (tyL cI cZ cJ) (cX aa cI cZ cJ) tR tU yX9_span wsX9_span rmX9_span [.ref (aa 0), .int (xI a1), .int (xI a2), .int (xI a3), .int (xI a4)] σ Post := by
  refine mi_of (cc := cX9_span) (maxL := 6) (ret := (some .int)) (by decide) rfl (Nat.le_of_ble_eq_true rfl) ?_
  intro p e s m args below meth c A hF
  obtain ⟨hx, hb, hr, hml, hown, hts, hlk, hK, hZ, hA⟩ := hF
  have hown : s.vm.findClass RX9 = some m.cls := hown
  delta wp_X9_span at h
  refine gg_lv (lv' := [(0, .ref (aa 0)), (1, .int (xI a1)), (2, .int (xI a2)), (3, .int (xI a3)), (4, .int (xI a4))]) [0, 1, 2, 3, 4] rfl ?_
  refine gg_aload_n hx hb 0 rfl rfl dX9_span_0 ?_
  refine gg_iload_n hx hb 1 rfl rfl dX9_span_1 ?_
  refine gg_iload_n hx hb 2 rfl rfl dX9_span_2 ?_
  refine gg_callVip (As := [.int (xI a1), .int (xI a2)]) (rest := []) hx hb hml hown hts hK hZ hA (c_X9_refusalOfPiece l D aa cI cZ cJ tR tU a1 a2 σ _ h) (cwV 2 hts gX9_span_X9_refusalOfPiece rfl rfl rfl hd_X9_refusalOfPiece ⟨Nat.le_of_ble_eq_true rfl, Nat.le_of_ble_eq_true rfl⟩) 0 rfl rfl rfl rfl (Nat.le_of_ble_eq_true rfl) dX9_span_3 (fun r3 h => ?_)
  refine gg_istore (lv' := [(5, .int (xI r3)), (0, .ref (aa 0)), (1, .int (xI a1)), (2, .int (xI a2)), (3, .int (xI a3)), (4, .int (xI a4))]) hx hb (by decide) rfl dX9_span_6 ?_
  refine gg_iload hx hb 0 rfl dX9_span_8 ?_
  refine gg_if_eq (tgt := 16) hx hb h.1 dX9_span_10 rfl (fun c10 => ?_) (fun c10 => ?_)
  · have h := h.2.1 c10
    refine gg_aload_n hx hb 1 rfl rfl dX9_span_16 ?_
    refine gg_get (C := RX9) (T := TX9) (N := 9) hx hb hts hown hK iX9_span_X9 0 rfl rfl 1 (by decide) (List.mem_of_getElem? (i := 1) rfl) rfl dX9_span_17 ?_
    refine gg_aload_n hx hb 1 rfl rfl dX9_span_20 ?_
    refine gg_get (C := RX9) (T := TX9) (N := 9) hx hb hts hown hK iX9_span_X9 0 rfl rfl 0 (by decide) (List.mem_of_getElem? (i := 2) rfl) rfl dX9_span_21 ?_
    refine gg_iload_n hx hb 2 rfl rfl dX9_span_24 ?_
    refine gg_iload_n hx hb 3 rfl rfl dX9_span_25 ?_
    refine gg_callVv (As := [.ref (aa 1), .int (xI a1), .int (xI a2)]) (rest := []) hx hb hml hown hts hK hZ hA (c_X5_measure l D aa cI cZ cJ tR tU a1 a2 σ _ h) (cwV 3 hts gX9_span_X5_measure rfl rfl rfl hd_X5_measure ⟨Nat.le_of_ble_eq_true rfl, Nat.le_of_ble_eq_true rfl⟩) 5 rfl rfl rfl rfl (Nat.le_of_ble_eq_true rfl) dX9_span_26 (fun t26 h => ?_)
    refine gg_aload_n hx hb 1 rfl rfl dX9_span_29 ?_
    refine gg_get (C := RX9) (T := TX9) (N := 9) hx hb hts hown hK iX9_span_X9 0 rfl rfl 1 (by decide) (List.mem_of_getElem? (i := 1) rfl) rfl dX9_span_30 ?_
    refine gg_callVip (As := []) (rest := []) hx hb hml hown hts hK hZ hA (c_X5_waysFit l D aa cI cZ cJ tR tU t26 _ h) (cwV 0 hts gX9_span_X5_waysFit rfl rfl rfl hd_X5_waysFit ⟨Nat.le_of_ble_eq_true rfl, Nat.le_of_ble_eq_true rfl⟩) 5 rfl rfl rfl rfl (Nat.le_of_ble_eq_true rfl) dX9_span_33 (fun r33 h => ?_)
    refine gg_if_ne (tgt := 43) hx hb h.1 dX9_span_36 rfl (fun c36 => ?_) (fun c36 => ?_)
    · have h := h.2.1 c36
      refine gg_iload_n hx hb 4 rfl rfl dX9_span_43 ?_
      refine gg_if_eq (tgt := 59) hx hb h.1 dX9_span_44 rfl (fun c44 => ?_) (fun c44 => ?_)
      · have h := h.2.1 c44
        refine gg_aload_n hx hb 1 rfl rfl dX9_span_59 ?_
        refine gg_get (C := RX9) (T := TX9) (N := 9) hx hb hts hown hK iX9_span_X9 0 rfl rfl 1 (by decide) (List.mem_of_getElem? (i := 1) rfl) rfl dX9_span_60 ?_
        refine gg_iload hx hb 5 rfl dX9_span_63 ?_
        refine gg_callVip (As := [.int (xI a4)]) (rest := []) hx hb hml hown hts hK hZ hA (c_X5_lowEnd l D aa cI cZ cJ tR tU a4 t26 _ h) (cwV 1 hts gX9_span_X5_lowEnd rfl rfl rfl hd_X5_lowEnd ⟨Nat.le_of_ble_eq_true rfl, Nat.le_of_ble_eq_true rfl⟩) 5 rfl rfl rfl rfl (Nat.le_of_ble_eq_true rfl) dX9_span_65 (fun r65 h => ?_)
        exact gg_iret hx hb hr hlk h dX9_span_68
      · have h := h.2.2 c44
        refine gg_aload_n hx hb 1 rfl rfl dX9_span_47 ?_
        refine gg_get (C := RX9) (T := TX9) (N := 9) hx hb hts hown hK iX9_span_X9 0 rfl rfl 1 (by decide) (List.mem_of_getElem? (i := 1) rfl) rfl dX9_span_48 ?_
        refine gg_iload hx hb 5 rfl dX9_span_51 ?_
        refine gg_callVip (As := [.int (xI a4)]) (rest := []) hx hb hml hown hts hK hZ hA (c_X5_highEnd l D aa cI cZ cJ tR tU a4 t26 _ h) (cwV 1 hts gX9_span_X5_highEnd rfl rfl rfl hd_X5_highEnd ⟨Nat.le_of_ble_eq_true rfl, Nat.le_of_ble_eq_true rfl⟩) 5 rfl rfl rfl rfl (Nat.le_of_ble_eq_true rfl) dX9_span_53 (fun r53 h => ?_)
        refine gg_goto (tgt := 68) hx hb dX9_span_56 rfl ?_
        exact gg_iret hx hb hr hlk h dX9_span_68
    · have h := h.2.2 c36
      refine gg_sipush hx hb dX9_span_39 rfl ?_
      exact gg_iret hx hb hr hlk h dX9_span_42
  · have h := h.2.2 c10
    refine gg_iload hx hb 0 rfl dX9_span_13 ?_
    exact gg_iret hx hb hr hlk h dX9_span_15
abbrev rmX5_plainSlope : Room := { frames := 0, cells := 0, slots := 0, locals := 0 }
theorem iX5_plainSlope_X5 : ∀ w ∈ u_ws RX5 TX5 7, w ∈ wsX5_plainSlope := (fun _ h => List.mem_cons_of_mem _ (List.mem_append_right _ h))
theorem hd_X5_plainSlope : (yX5_plainSlope.cls = RX5 ∧ yX5_plainSlope.cls ≠ "java/lang/invoke/MethodHandle" ∧ yX5_plainSlope.cls ≠ "java/lang/invoke/VarHandle" ∧ (parseMethodDescriptor yX5_plainSlope.desc).map (fun d => d.parameters.length) = some 1) := by decide +kernel
set_option maxRecDepth 100000 in
set_option maxHeartbeats 4000000 in
theorem c_X5_plainSlope (l : Launch) (D : va_G) (aa : Nat → Nat) (cI cZ cJ : ClassId) (tR tU : Nat) (a1 : Int) (σ : xSt) (Post : Int → Prop) (h : wp_X5_plainSlope a1 σ Post) : MI l D (tyL cI cZ cJ) (cX aa cI cZ cJ) tR tU yX5_plainSlope wsX5_plainSlope rmX5_plainSlope [.ref (aa 5), .int (xI a1)] σ (fun r9 σ9 => σ9 = σ ∧ Post r9) := by
  refine mi_of (cc := cX5_plainSlope) (maxL := 4) (ret := (some .int)) (by decide) rfl (Nat.le_of_ble_eq_true rfl) ?_
  intro p e s m args below meth c A hF
  obtain ⟨hx, hb, hr, hml, hown, hts, hlk, hK, hZ, hA⟩ := hF
  have hown : s.vm.findClass RX5 = some m.cls := hown
  delta wp_X5_plainSlope at h
  refine gg_lv (lv' := [(0, .ref (aa 5)), (1, .int (xI a1))]) [0, 1] rfl ?_
  refine gg_iconst hx hb dX5_plainSlope_0 ?_
  refine gg_istore_n (lv' := [(2, .int (xI 0)), (0, .ref (aa 5)), (1, .int (xI a1))]) hx hb rfl (by decide) rfl dX5_plainSlope_1 ?_
  refine gg_iconst hx hb dX5_plainSlope_2 ?_
  refine gg_istore_n (lv' := [(3, .int (xI 1)), (2, .int (xI 0)), (0, .ref (aa 5)), (1, .int (xI a1))]) hx hb rfl (by decide) rfl dX5_plainSlope_3 ?_
  have h := h (fun (x2_4 x3_4 : Int) => GG p l e rmX5_plainSlope s m args below meth c (QI below D (cX aa cI cZ cJ) A args s (fun r9 σ9 => σ9 = σ ∧ Post r9)) A D (cX aa cI cZ cJ) 4 σ 4 [(0, .ref (aa 5)), (1, .int (xI a1)), (2, .int (xI x2_4)), (3, .int (xI x3_4))] [])
  have h := h (by
    intro x2_4 x3_4 h
    refine gg_iload_n hx hb 3 rfl rfl dX5_plainSlope_4 ?_
    refine gg_bipush hx hb dX5_plainSlope_5 rfl ?_
    have h := h (fun (x2_10 : Int) => GG p l e rmX5_plainSlope s m args below meth c (QI below D (cX aa cI cZ cJ) A args s (fun r9 σ9 => σ9 = σ ∧ Post r9)) A D (cX aa cI cZ cJ) 4 σ 10 [(0, .ref (aa 5)), (1, .int (xI a1)), (2, .int (xI x2_10)), (3, .int (xI x3_4))] [])
    have h := h (by
      intro x2_10 h
      refine gg_iload_n hx hb 2 rfl rfl dX5_plainSlope_10 ?_
      refine gg_iload_n hx hb 3 rfl rfl dX5_plainSlope_11 ?_
      have h := h (GG p l e rmX5_plainSlope s m args below meth c (QI below D (cX aa cI cZ cJ) A args s (fun r9 σ9 => σ9 = σ ∧ Post r9)) A D (cX aa cI cZ cJ) 4 σ 36 [(0, .ref (aa 5)), (1, .int (xI a1)), (2, .int (xI x2_10)), (3, .int (xI x3_4))] [])
      have h := h (by
        intro h
        refine gg_iload_n hx hb 2 rfl rfl dX5_plainSlope_36 ?_
        refine gg_iload_n hx hb 3 rfl rfl dX5_plainSlope_37 ?_
        refine gg_icmp_gt (tgt := 66) hx hb h.1 h.2.1 dX5_plainSlope_38 rfl (fun c38 => ?_) (fun c38 => ?_)
        · have h := h.2.2.1 c38
          refine gg_iinc (lv' := [(3, .int (xI (x3_4 + 1))), (0, .ref (aa 5)), (1, .int (xI a1)), (2, .int (xI x2_10))]) hx hb 3 rfl (by decide) rfl dX5_plainSlope_66 ?_
          refine gg_goto (tgt := 4) hx hb dX5_plainSlope_69 rfl ?_
          refine gg_lv [1, 2, 3, 0] rfl ?_
          exact h
        · have h := h.2.2.2 c38
          refine gg_iload_n hx hb 2 rfl rfl dX5_plainSlope_41 ?_
          refine gg_aload_n hx hb 0 rfl rfl dX5_plainSlope_42 ?_
          refine gg_get (C := RX5) (T := TX5) (N := 7) hx hb hts hown hK iX5_plainSlope_X5 5 rfl rfl 6 (by decide) (List.mem_of_getElem? (i := 3) rfl) rfl dX5_plainSlope_43 ?_
          refine gg_imul hx hb dX5_plainSlope_46 ?_
          refine gg_aload_n hx hb 0 rfl rfl dX5_plainSlope_47 ?_
          refine gg_get (C := RX5) (T := TX5) (N := 7) hx hb hts hown hK iX5_plainSlope_X5 5 rfl rfl 5 (by decide) (List.mem_of_getElem? (i := 4) rfl) rfl dX5_plainSlope_48 ?_
          refine gg_iload_n hx hb 3 rfl rfl dX5_plainSlope_51 ?_
          refine gg_imul hx hb dX5_plainSlope_52 ?_
          refine gg_icmp_ge (tgt := 66) hx hb h.1 h.2.1 dX5_plainSlope_53 rfl (fun c53 => ?_) (fun c53 => ?_)
          · have h := h.2.2.1 c53
            refine gg_iinc (lv' := [(3, .int (xI (x3_4 + 1))), (0, .ref (aa 5)), (1, .int (xI a1)), (2, .int (xI x2_10))]) hx hb 3 rfl (by decide) rfl dX5_plainSlope_66 ?_
            refine gg_goto (tgt := 4) hx hb dX5_plainSlope_69 rfl ?_
            refine gg_lv [1, 2, 3, 0] rfl ?_
            exact h
          · have h := h.2.2.2 c53
            refine gg_iload_n hx hb 1 rfl rfl dX5_plainSlope_56 ?_
            refine gg_if_eq (tgt := 64) hx hb h.1 dX5_plainSlope_57 rfl (fun c57 => ?_) (fun c57 => ?_)
            · have h := h.2.1 c57
              refine gg_iload_n hx hb 3 rfl rfl dX5_plainSlope_64 ?_
              exact gg_iret hx hb hr hlk ⟨rfl, h⟩ dX5_plainSlope_65
            · have h := h.2.2 c57
              refine gg_iload_n hx hb 2 rfl rfl dX5_plainSlope_60 ?_
              refine gg_goto (tgt := 65) hx hb dX5_plainSlope_61 rfl ?_
              exact gg_iret hx hb hr hlk ⟨rfl, h⟩ dX5_plainSlope_65)
      refine gg_icmp_gt (tgt := 36) hx hb h.1 h.2.1 dX5_plainSlope_12 rfl (fun c12 => ?_) (fun c12 => ?_)
      · have h := h.2.2.1 c12
        exact h
      · have h := h.2.2.2 c12
        refine gg_iload_n hx hb 2 rfl rfl dX5_plainSlope_15 ?_
        refine gg_aload_n hx hb 0 rfl rfl dX5_plainSlope_16 ?_
        refine gg_get (C := RX5) (T := TX5) (N := 7) hx hb hts hown hK iX5_plainSlope_X5 5 rfl rfl 4 (by decide) (List.mem_of_getElem? (i := 1) rfl) rfl dX5_plainSlope_17 ?_
        refine gg_imul hx hb dX5_plainSlope_20 ?_
        refine gg_aload_n hx hb 0 rfl rfl dX5_plainSlope_21 ?_
        refine gg_get (C := RX5) (T := TX5) (N := 7) hx hb hts hown hK iX5_plainSlope_X5 5 rfl rfl 3 (by decide) (List.mem_of_getElem? (i := 2) rfl) rfl dX5_plainSlope_22 ?_
        refine gg_iload_n hx hb 3 rfl rfl dX5_plainSlope_25 ?_
        refine gg_imul hx hb dX5_plainSlope_26 ?_
        refine gg_icmp_gt (tgt := 36) hx hb h.1 h.2.1 dX5_plainSlope_27 rfl (fun c27 => ?_) (fun c27 => ?_)
        · have h := h.2.2.1 c27
          exact h
        · have h := h.2.2.2 c27
          refine gg_iinc (lv' := [(2, .int (xI (x2_10 + 1))), (0, .ref (aa 5)), (1, .int (xI a1)), (3, .int (xI x3_4))]) hx hb 2 rfl (by decide) rfl dX5_plainSlope_30 ?_
          refine gg_goto (tgt := 10) hx hb dX5_plainSlope_33 rfl ?_
          refine gg_lv [1, 2, 0, 3] rfl ?_
          exact h)
    refine gg_icmp_gt (tgt := 72) hx hb h.1 (by decide) dX5_plainSlope_7 rfl (fun c7 => ?_) (fun c7 => ?_)
    · have h := h.2.1 c7
      refine gg_sipush hx hb dX5_plainSlope_72 rfl ?_
      exact gg_iret hx hb hr hlk ⟨rfl, h⟩ dX5_plainSlope_75
    · have h := h.2.2 c7
      exact h)
  refine gg_lv [2, 3, 1, 0] rfl ?_
  exact h
