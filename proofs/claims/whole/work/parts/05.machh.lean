abbrev rmX10_is : Room := { frames := 5, cells := 0, slots := 0, locals := 117 }
theorem iX10_is_X10 : ∀ w ∈ u_ws RX10 TX10 18, w ∈ wsX10_is := (fun _ h => List.mem_cons_of_mem _ (List.mem_append_right _ h))
theorem tbo_X10_is (a : Int) (c0 : ¬ a = 0) (c1 : ¬ a = 1) (c2 : ¬ a = 2) : a < 0 ∨ 2 < a := by omega
theorem hd_X10_is : (yX10_is.cls = RX10 ∧ yX10_is.cls ≠ "java/lang/invoke/MethodHandle" ∧ yX10_is.cls ≠ "java/lang/invoke/VarHandle" ∧ (parseMethodDescriptor yX10_is.desc).map (fun d => d.parameters.length) = some 1) := by decide +kernel
set_option maxRecDepth 100000 in
set_option maxHeartbeats 4000000 in
theorem c_X10_is (l : Launch) (D : va_G) (aa : Nat → Nat) (cI cZ cJ : ClassId) (tR tU : Nat) (a1 : Int) (σ : xSt) (Post : Int → xSt → Prop) (h : wp_X10_is a1 σ Post) : MI l D (tyL cI cZ cJ) (cM aa cI cZ cJ) tR tU yX10_is wsX10_is rmX10_is [.ref (aa 0), .int (xI a1)] σ Post := by
  refine mi_of (cc := cX10_is) (maxL := 2) (ret := (some .int)) (by decide) rfl (Nat.le_of_ble_eq_true rfl) ?_
  intro p e s m args below meth c A hF
  obtain ⟨hx, hb, hr, hml, hown, hts, hlk, hK, hZ, hA⟩ := hF
  have hown : s.vm.findClass RX10 = some m.cls := hown
  delta wp_X10_is at h
  refine gg_lv (lv' := [(0, .ref (aa 0)), (1, .int (xI a1))]) [0, 1] rfl ?_
  refine gg_aload_n hx hb 0 rfl rfl dX10_is_0 ?_
  refine gg_iconst hx hb dX10_is_1 ?_
  refine gg_put (C := RX10) (T := TX10) (N := 18) hx hb hts hown hK iX10_is_X10 tyX10 tyX10_ok nmX10 0 rfl rfl 0 (by decide) (List.mem_of_getElem? (i := 1) rfl) rfl rfl (Nat.le_of_ble_eq_true rfl) (cM_set_0_0 aa cI cZ cJ _ _) dX10_is_2 (fun σ_2 e2 => ?_)
  have h := h σ_2 e2
  refine gg_iload_n hx hb 1 rfl rfl dX10_is_5 ?_
  have hq := h.1
  have h := h.2
  by_cases c6_0 : a1 = 0
  · have h := h.1 c6_0
    refine gg_tableIn (k := 0) (tgt := 32) hx hb hq c6_0 dX10_is_6 (by decide) (by decide) rfl rfl ?_
    refine gg_aload_n hx hb 0 rfl rfl dX10_is_32 ?_
    refine gg_callVi (As := []) (rest := []) hx hb hml hown hts hK hZ hA (c_X10_lacks l D aa cI cZ cJ tR tU σ_2 _ h) (cwV 0 hts gX10_is_X10_lacks rfl rfl rfl hd_X10_lacks ⟨Nat.le_of_ble_eq_true rfl, Nat.le_of_ble_eq_true rfl⟩) 0 rfl rfl rfl rfl (Nat.le_of_ble_eq_true rfl) dX10_is_33 (fun r33 t33 h => ?_)
    refine gg_if_ne (tgt := 43) hx hb h.1 dX10_is_36 rfl (fun c36 => ?_) (fun c36 => ?_)
    · have h := h.2.1 c36
      refine gg_iconst hx hb dX10_is_43 ?_
      exact gg_iret hx hb hr hlk h dX10_is_44
    · have h := h.2.2 c36
      refine gg_iconst hx hb dX10_is_39 ?_
      refine gg_goto (tgt := 44) hx hb dX10_is_40 rfl ?_
      exact gg_iret hx hb hr hlk h dX10_is_44
  have h := h.2
  by_cases c6_1 : a1 = 1
  · have h := h.1 c6_1
    refine gg_tableIn (k := 1) (tgt := 45) hx hb hq c6_1 dX10_is_6 (by decide) (by decide) rfl rfl ?_
    refine gg_aload_n hx hb 0 rfl rfl dX10_is_45 ?_
    refine gg_callVip (As := []) (rest := []) hx hb hml hown hts hK hZ hA (c_X10_hasStairs l D aa cI cZ cJ tR tU σ_2 _ h) (cwV 0 hts gX10_is_X10_hasStairs rfl rfl rfl hd_X10_hasStairs ⟨Nat.le_of_ble_eq_true rfl, Nat.le_of_ble_eq_true rfl⟩) 0 rfl rfl rfl rfl (Nat.le_of_ble_eq_true rfl) dX10_is_46 (fun r46 h => ?_)
    refine gg_if_eq (tgt := 56) hx hb h.1 dX10_is_49 rfl (fun c49 => ?_) (fun c49 => ?_)
    · have h := h.2.1 c49
      refine gg_iconst hx hb dX10_is_56 ?_
      exact gg_iret hx hb hr hlk h dX10_is_57
    · have h := h.2.2 c49
      refine gg_iconst hx hb dX10_is_52 ?_
      refine gg_goto (tgt := 57) hx hb dX10_is_53 rfl ?_
      exact gg_iret hx hb hr hlk h dX10_is_57
  have h := h.2
  by_cases c6_2 : a1 = 2
  · have h := h.1 c6_2
    refine gg_tableIn (k := 2) (tgt := 58) hx hb hq c6_2 dX10_is_6 (by decide) (by decide) rfl rfl ?_
    refine gg_aload_n hx hb 0 rfl rfl dX10_is_58 ?_
    refine gg_callVi (As := []) (rest := []) hx hb hml hown hts hK hZ hA (c_X10_isDisc l D aa cI cZ cJ tR tU σ_2 _ h) (cwV 0 hts gX10_is_X10_isDisc rfl rfl rfl hd_X10_isDisc ⟨Nat.le_of_ble_eq_true rfl, Nat.le_of_ble_eq_true rfl⟩) 0 rfl rfl rfl rfl (Nat.le_of_ble_eq_true rfl) dX10_is_59 (fun r59 t59 h => ?_)
    refine gg_if_eq (tgt := 69) hx hb h.1 dX10_is_62 rfl (fun c62 => ?_) (fun c62 => ?_)
    · have h := h.2.1 c62
      refine gg_iconst hx hb dX10_is_69 ?_
      exact gg_iret hx hb hr hlk h dX10_is_70
    · have h := h.2.2 c62
      refine gg_iconst hx hb dX10_is_65 ?_
      refine gg_goto (tgt := 70) hx hb dX10_is_66 rfl ?_
      exact gg_iret hx hb hr hlk h dX10_is_70
  have h := h.2
  have cD := tbo_X10_is a1 c6_0 c6_1 c6_2
  have h := h cD
  refine gg_tableOut (tgt := 71) hx hb hq cD dX10_is_6 rfl ?_
  refine gg_sipush hx hb dX10_is_71 rfl ?_
  exact gg_iret hx hb hr hlk h dX10_is_74
abbrev rmX10_disc : Room := { frames := 3, cells := 0, slots := 0, locals := 71 }
theorem iX10_disc_X10 : ∀ w ∈ u_ws RX10 TX10 18, w ∈ wsX10_disc := (fun _ h => List.mem_cons_of_mem _ (List.mem_append_right _ h))
theorem hd_X10_disc : (yX10_disc.cls = RX10 ∧ yX10_disc.cls ≠ "java/lang/invoke/MethodHandle" ∧ yX10_disc.cls ≠ "java/lang/invoke/VarHandle" ∧ (parseMethodDescriptor yX10_disc.desc).map (fun d => d.parameters.length) = some 1) := by decide +kernel
set_option maxRecDepth 100000 in
set_option maxHeartbeats 4000000 in
theorem c_X10_disc (l : Launch) (D : va_G) (aa : Nat → Nat) (cI cZ cJ : ClassId) (tR tU : Nat) (a1 : Int) (σ : xSt) (Post : Int → xSt → Prop) (h : wp_X10_disc a1 σ Post) : MI l D (tyL cI cZ cJ) (cM aa cI cZ cJ) tR tU yX10_disc wsX10_disc rmX10_disc [.ref (aa 0), .int (xI a1)] σ Post := by
  refine mi_of (cc := cX10_disc) (maxL := 2) (ret := (some .int)) (by decide) rfl (Nat.le_of_ble_eq_true rfl) ?_
  intro p e s m args below meth c A hF
  obtain ⟨hx, hb, hr, hml, hown, hts, hlk, hK, hZ, hA⟩ := hF
  have hown : s.vm.findClass RX10 = some m.cls := hown
  delta wp_X10_disc at h
  refine gg_lv (lv' := [(0, .ref (aa 0)), (1, .int (xI a1))]) [0, 1] rfl ?_
  refine gg_aload_n hx hb 0 rfl rfl dX10_disc_0 ?_
  refine gg_iconst hx hb dX10_disc_1 ?_
  refine gg_put (C := RX10) (T := TX10) (N := 18) hx hb hts hown hK iX10_disc_X10 tyX10 tyX10_ok nmX10 0 rfl rfl 0 (by decide) (List.mem_of_getElem? (i := 1) rfl) rfl rfl (Nat.le_of_ble_eq_true rfl) (cM_set_0_0 aa cI cZ cJ _ _) dX10_disc_2 (fun σ_2 e2 => ?_)
  have h := h σ_2 e2
  refine gg_iload_n hx hb 1 rfl rfl dX10_disc_5 ?_
  refine gg_i2l hx hb h.1 dX10_disc_6 ?_
  have h := h.2
  refine gg_lconst (z := 0) hx hb dX10_disc_7 rfl ?_
  refine gg_ldc2 hx hb (2) hown (hts _ (List.mem_of_getElem? (i := 2) rfl)) rfl dX10_disc_8 ?_
  refine gg_callSip (As := [.long (xJ a1), .long (xJ 0), .long (xJ 2)]) (rest := []) hx hb hml hown hts hK hZ hA (c_X10_in l D aa cI cZ cJ tR tU a1 0 2 σ_2 _ h) (va_cwS 3 hts gX10_disc_X10_in rfl rfl rfl hd_X10_in ⟨Nat.le_of_ble_eq_true rfl, Nat.le_of_ble_eq_true rfl⟩) rfl rfl (Nat.le_of_ble_eq_true rfl) dX10_disc_11 (fun r11 h => ?_)
  refine gg_if_ne (tgt := 21) hx hb h.1 dX10_disc_14 rfl (fun c14 => ?_) (fun c14 => ?_)
  · have h := h.2.1 c14
    refine gg_aload_n hx hb 0 rfl rfl dX10_disc_21 ?_
    refine gg_callVi (As := []) (rest := []) hx hb hml hown hts hK hZ hA (c_X10_isDisc l D aa cI cZ cJ tR tU σ_2 _ h) (cwV 0 hts gX10_disc_X10_isDisc rfl rfl rfl hd_X10_isDisc ⟨Nat.le_of_ble_eq_true rfl, Nat.le_of_ble_eq_true rfl⟩) 0 rfl rfl rfl rfl (Nat.le_of_ble_eq_true rfl) dX10_disc_22 (fun r22 t22 h => ?_)
    refine gg_if_ne (tgt := 34) hx hb h.1 dX10_disc_25 rfl (fun c25 => ?_) (fun c25 => ?_)
    · have h := h.2.1 c25
      refine gg_iload_n hx hb 1 rfl rfl dX10_disc_34 ?_
      refine gg_if_ne (tgt := 45) hx hb h.1 dX10_disc_35 rfl (fun c35 => ?_) (fun c35 => ?_)
      · have h := h.2.1 c35
        refine gg_iload_n hx hb 1 rfl rfl dX10_disc_45 ?_
        refine gg_iconst hx hb dX10_disc_46 ?_
        refine gg_icmp_ne (tgt := 57) hx hb h.1 (by decide) dX10_disc_47 rfl (fun c47 => ?_) (fun c47 => ?_)
        · have h := h.2.1 c47
          refine gg_aload_n hx hb 0 rfl rfl dX10_disc_57 ?_
          refine gg_get (C := RX10) (T := TX10) (N := 18) hx hb hts hown hK iX10_disc_X10 0 rfl rfl 17 (by decide) (List.mem_of_getElem? (i := 5) rfl) rfl dX10_disc_58 ?_
          exact gg_iret hx hb hr hlk h dX10_disc_61
        · have h := h.2.2 c47
          refine gg_aload_n hx hb 0 rfl rfl dX10_disc_50 ?_
          refine gg_get (C := RX10) (T := TX10) (N := 18) hx hb hts hown hK iX10_disc_X10 0 rfl rfl 16 (by decide) (List.mem_of_getElem? (i := 4) rfl) rfl dX10_disc_51 ?_
          refine gg_goto (tgt := 61) hx hb dX10_disc_54 rfl ?_
          exact gg_iret hx hb hr hlk h dX10_disc_61
      · have h := h.2.2 c35
        refine gg_aload_n hx hb 0 rfl rfl dX10_disc_38 ?_
        refine gg_get (C := RX10) (T := TX10) (N := 18) hx hb hts hown hK iX10_disc_X10 0 rfl rfl 15 (by decide) (List.mem_of_getElem? (i := 3) rfl) rfl dX10_disc_39 ?_
        refine gg_goto (tgt := 61) hx hb dX10_disc_42 rfl ?_
        exact gg_iret hx hb hr hlk h dX10_disc_61
    · have h := h.2.2 c25
      refine gg_sipush hx hb dX10_disc_28 rfl ?_
      refine gg_goto (tgt := 61) hx hb dX10_disc_31 rfl ?_
      exact gg_iret hx hb hr hlk h dX10_disc_61
  · have h := h.2.2 c14
    refine gg_sipush hx hb dX10_disc_17 rfl ?_
    exact gg_iret hx hb hr hlk h dX10_disc_20
abbrev rmX10_part : Room := { frames := 3, cells := 0, slots := 0, locals := 66 }
theorem iX10_part_X10 : ∀ w ∈ u_ws RX10 TX10 18, w ∈ wsX10_part := (fun _ h => List.mem_cons_of_mem _ (List.mem_append_right _ h))
theorem hd_X10_part : (yX10_part.cls = RX10 ∧ yX10_part.cls ≠ "java/lang/invoke/MethodHandle" ∧ yX10_part.cls ≠ "java/lang/invoke/VarHandle" ∧ (parseMethodDescriptor yX10_part.desc).map (fun d => d.parameters.length) = some 1) := by decide +kernel
set_option maxRecDepth 100000 in
set_option maxHeartbeats 4000000 in
theorem c_X10_part (l : Launch) (D : va_G) (aa : Nat → Nat) (cI cZ cJ : ClassId) (tR tU : Nat) (a1 : Int) (σ : xSt) (Post : Int → xSt → Prop) (h : wp_X10_part a1 σ Post) : MI l D (tyL cI cZ cJ) (cM aa cI cZ cJ) tR tU yX10_part wsX10_part rmX10_part [.ref (aa 0), .int (xI a1)] σ Post := by
  refine mi_of (cc := cX10_part) (maxL := 2) (ret := (some .int)) (by decide) rfl (Nat.le_of_ble_eq_true rfl) ?_
  intro p e s m args below meth c A hF
  obtain ⟨hx, hb, hr, hml, hown, hts, hlk, hK, hZ, hA⟩ := hF
  have hown : s.vm.findClass RX10 = some m.cls := hown
  delta wp_X10_part at h
  refine gg_lv (lv' := [(0, .ref (aa 0)), (1, .int (xI a1))]) [0, 1] rfl ?_
  refine gg_aload_n hx hb 0 rfl rfl dX10_part_0 ?_
  refine gg_iconst hx hb dX10_part_1 ?_
  refine gg_put (C := RX10) (T := TX10) (N := 18) hx hb hts hown hK iX10_part_X10 tyX10 tyX10_ok nmX10 0 rfl rfl 0 (by decide) (List.mem_of_getElem? (i := 1) rfl) rfl rfl (Nat.le_of_ble_eq_true rfl) (cM_set_0_0 aa cI cZ cJ _ _) dX10_part_2 (fun σ_2 e2 => ?_)
  have h := h σ_2 e2
  refine gg_aload_n hx hb 0 rfl rfl dX10_part_5 ?_
  refine gg_iload_n hx hb 1 rfl rfl dX10_part_6 ?_
  refine gg_callVip (As := [.int (xI a1)]) (rest := []) hx hb hml hown hts hK hZ hA (c_X10_noField l D aa cI cZ cJ tR tU a1 σ_2 _ h) (cwV 1 hts gX10_part_X10_noField rfl rfl rfl hd_X10_noField ⟨Nat.le_of_ble_eq_true rfl, Nat.le_of_ble_eq_true rfl⟩) 0 rfl rfl rfl rfl (Nat.le_of_ble_eq_true rfl) dX10_part_7 (fun r7 h => ?_)
  refine gg_if_eq (tgt := 17) hx hb h.1 dX10_part_10 rfl (fun c10 => ?_) (fun c10 => ?_)
  · have h := h.2.1 c10
    refine gg_aload_n hx hb 0 rfl rfl dX10_part_17 ?_
    refine gg_iconst hx hb dX10_part_18 ?_
    refine gg_callVv (As := [.int (xI 1)]) (rest := []) hx hb hml hown hts hK hZ hA (c_X10_hang l D aa cI cZ cJ tR tU 1 σ_2 _ h) (cwV 1 hts gX10_part_X10_hang rfl rfl rfl hd_X10_hang ⟨Nat.le_of_ble_eq_true rfl, Nat.le_of_ble_eq_true rfl⟩) 0 rfl rfl rfl rfl (Nat.le_of_ble_eq_true rfl) dX10_part_19 (fun t19 h => ?_)
    refine gg_aload_n hx hb 0 rfl rfl dX10_part_22 ?_
    refine gg_get (C := RX10) (T := TX10) (N := 18) hx hb hts hown hK iX10_part_X10 0 rfl rfl 9 (by decide) (List.mem_of_getElem? (i := 2) rfl) rfl dX10_part_23 ?_
    refine gg_iload_n hx hb 1 rfl rfl dX10_part_26 ?_
    refine gg_iald hx hb hK 6 0 rfl rfl (by decide) h.1 dX10_part_27 ?_
    have h := h.2
    exact gg_iret hx hb hr hlk h dX10_part_28
  · have h := h.2.2 c10
    refine gg_sipush hx hb dX10_part_13 rfl ?_
    exact gg_iret hx hb hr hlk h dX10_part_16
abbrev rmX10_hull : Room := { frames := 4, cells := 0, slots := 0, locals := 94 }
theorem iX10_hull_X10 : ∀ w ∈ u_ws RX10 TX10 18, w ∈ wsX10_hull := (fun _ h => List.mem_cons_of_mem _ (List.mem_append_right _ h))
theorem hd_X10_hull : (yX10_hull.cls = RX10 ∧ yX10_hull.cls ≠ "java/lang/invoke/MethodHandle" ∧ yX10_hull.cls ≠ "java/lang/invoke/VarHandle" ∧ (parseMethodDescriptor yX10_hull.desc).map (fun d => d.parameters.length) = some 0) := by decide +kernel
set_option maxRecDepth 100000 in
set_option maxHeartbeats 4000000 in
theorem c_X10_hull (l : Launch) (D : va_G) (aa : Nat → Nat) (cI cZ cJ : ClassId) (tR tU : Nat) (σ : xSt) (Post : Int → xSt → Prop) (h : wp_X10_hull σ Post) : MI l D (tyL cI cZ cJ) (cM aa cI cZ cJ) tR tU yX10_hull wsX10_hull rmX10_hull [.ref (aa 0)] σ Post := by
  refine mi_of (cc := cX10_hull) (maxL := 1) (ret := (some .int)) (by decide) rfl (Nat.le_of_ble_eq_true rfl) ?_
  intro p e s m args below meth c A hF
  obtain ⟨hx, hb, hr, hml, hown, hts, hlk, hK, hZ, hA⟩ := hF
  have hown : s.vm.findClass RX10 = some m.cls := hown
  delta wp_X10_hull at h
  refine gg_lv (lv' := [(0, .ref (aa 0))]) [0] rfl ?_
  refine gg_aload_n hx hb 0 rfl rfl dX10_hull_0 ?_
  refine gg_iconst hx hb dX10_hull_1 ?_
  refine gg_put (C := RX10) (T := TX10) (N := 18) hx hb hts hown hK iX10_hull_X10 tyX10 tyX10_ok nmX10 0 rfl rfl 0 (by decide) (List.mem_of_getElem? (i := 1) rfl) rfl rfl (Nat.le_of_ble_eq_true rfl) (cM_set_0_0 aa cI cZ cJ _ _) dX10_hull_2 (fun σ_2 e2 => ?_)
  have h := h σ_2 e2
  refine gg_aload_n hx hb 0 rfl rfl dX10_hull_5 ?_
  refine gg_callVi (As := []) (rest := []) hx hb hml hown hts hK hZ hA (c_X10_corners l D aa cI cZ cJ tR tU σ_2 _ h) (cwV 0 hts gX10_hull_X10_corners rfl rfl rfl hd_X10_corners ⟨Nat.le_of_ble_eq_true rfl, Nat.le_of_ble_eq_true rfl⟩) 0 rfl rfl rfl rfl (Nat.le_of_ble_eq_true rfl) dX10_hull_6 (fun r6 t6 h => ?_)
  exact gg_iret hx hb hr hlk h dX10_hull_9
abbrev rmX10_corner : Room := { frames := 4, cells := 0, slots := 0, locals := 94 }
theorem iX10_corner_X10 : ∀ w ∈ u_ws RX10 TX10 18, w ∈ wsX10_corner := (fun _ h => List.mem_cons_of_mem _ (List.mem_append_right _ h))
theorem hd_X10_corner : (yX10_corner.cls = RX10 ∧ yX10_corner.cls ≠ "java/lang/invoke/MethodHandle" ∧ yX10_corner.cls ≠ "java/lang/invoke/VarHandle" ∧ (parseMethodDescriptor yX10_corner.desc).map (fun d => d.parameters.length) = some 1) := by decide +kernel
set_option maxRecDepth 100000 in
set_option maxHeartbeats 4000000 in
theorem c_X10_corner (l : Launch) (D : va_G) (aa : Nat → Nat) (cI cZ cJ : ClassId) (tR tU : Nat) (a1 : Int) (σ : xSt) (Post : Int → xSt → Prop) (h : wp_X10_corner a1 σ Post) : MI l D (tyL cI cZ cJ) (cM aa cI cZ cJ) tR tU yX10_corner wsX10_corner rmX10_corner [.ref (aa 0), .int (xI a1)] σ Post := by
  refine mi_of (cc := cX10_corner) (maxL := 3) (ret := (some .int)) (by decide) rfl (Nat.le_of_ble_eq_true rfl) ?_
  intro p e s m args below meth c A hF
  obtain ⟨hx, hb, hr, hml, hown, hts, hlk, hK, hZ, hA⟩ := hF
  have hown : s.vm.findClass RX10 = some m.cls := hown
  delta wp_X10_corner at h
  refine gg_lv (lv' := [(0, .ref (aa 0)), (1, .int (xI a1))]) [0, 1] rfl ?_
  refine gg_aload_n hx hb 0 rfl rfl dX10_corner_0 ?_
  refine gg_iconst hx hb dX10_corner_1 ?_
  refine gg_put (C := RX10) (T := TX10) (N := 18) hx hb hts hown hK iX10_corner_X10 tyX10 tyX10_ok nmX10 0 rfl rfl 0 (by decide) (List.mem_of_getElem? (i := 1) rfl) rfl rfl (Nat.le_of_ble_eq_true rfl) (cM_set_0_0 aa cI cZ cJ _ _) dX10_corner_2 (fun σ_2 e2 => ?_)
  have h := h σ_2 e2
  refine gg_aload_n hx hb 0 rfl rfl dX10_corner_5 ?_
  refine gg_callVi (As := []) (rest := []) hx hb hml hown hts hK hZ hA (c_X10_corners l D aa cI cZ cJ tR tU σ_2 _ h) (cwV 0 hts gX10_corner_X10_corners rfl rfl rfl hd_X10_corners ⟨Nat.le_of_ble_eq_true rfl, Nat.le_of_ble_eq_true rfl⟩) 0 rfl rfl rfl rfl (Nat.le_of_ble_eq_true rfl) dX10_corner_6 (fun r6 t6 h => ?_)
  refine gg_istore_n (lv' := [(2, .int (xI r6)), (0, .ref (aa 0)), (1, .int (xI a1))]) hx hb rfl (by decide) rfl dX10_corner_9 ?_
  refine gg_iload_n hx hb 2 rfl rfl dX10_corner_10 ?_
  refine gg_i2l hx hb h.1 dX10_corner_11 ?_
  have h := h.2
  refine gg_lconst (z := 0) hx hb dX10_corner_12 rfl ?_
  refine gg_iload_n hx hb 0 rfl rfl dX10_corner_13 ?_
  refine gg_iconst hx hb dX10_corner_14 ?_
  refine gg_isub hx hb dX10_corner_15 ?_
  refine gg_i2l hx hb h.1 dX10_corner_16 ?_
  have h := h.2
  refine gg_callSip (As := [.long (xJ a1), .long (xJ 0), .long (xJ (r6 - 1))]) (rest := []) hx hb hml hown hts hK hZ hA (c_X10_in l D aa cI cZ cJ tR tU a1 0 (r6 - 1) t6 _ h) (va_cwS 3 hts gX10_corner_X10_in rfl rfl rfl hd_X10_in ⟨Nat.le_of_ble_eq_true rfl, Nat.le_of_ble_eq_true rfl⟩) rfl rfl (Nat.le_of_ble_eq_true rfl) dX10_corner_17 (fun r17 h => ?_)
  refine gg_if_eq (tgt := 32) hx hb h.1 dX10_corner_20 rfl (fun c20 => ?_) (fun c20 => ?_)
  · have h := h.2.1 c20
    refine gg_sipush hx hb dX10_corner_32 rfl ?_
    exact gg_iret hx hb hr hlk h dX10_corner_35
  · have h := h.2.2 c20
    refine gg_aload_n hx hb 1 rfl rfl dX10_corner_23 ?_
    refine gg_get (C := RX10) (T := TX10) (N := 18) hx hb hts hown hK iX10_corner_X10 0 rfl rfl 12 (by decide) (List.mem_of_getElem? (i := 2) rfl) rfl dX10_corner_24 ?_
    refine gg_iload_n hx hb 2 rfl rfl dX10_corner_27 ?_
    refine gg_iald hx hb hK 9 0 rfl rfl (by decide) h.1 dX10_corner_28 ?_
    have h := h.2
    refine gg_goto (tgt := 35) hx hb dX10_corner_29 rfl ?_
    exact gg_iret hx hb hr hlk h dX10_corner_35
abbrev rmX10_depthOf : Room := { frames := 3, cells := 0, slots := 0, locals := 69 }
theorem iX10_depthOf_X10 : ∀ w ∈ u_ws RX10 TX10 18, w ∈ wsX10_depthOf := (fun _ h => List.mem_cons_of_mem _ (List.mem_append_right _ h))
theorem hd_X10_depthOf : (yX10_depthOf.cls = RX10 ∧ yX10_depthOf.cls ≠ "java/lang/invoke/MethodHandle" ∧ yX10_depthOf.cls ≠ "java/lang/invoke/VarHandle" ∧ (parseMethodDescriptor yX10_depthOf.desc).map (fun d => d.parameters.length) = some 1) := by decide +kernel
set_option maxRecDepth 100000 in
set_option maxHeartbeats 4000000 in
theorem c_X10_depthOf (l : Launch) (D : va_G) (aa : Nat → Nat) (cI cZ cJ : ClassId) (tR tU : Nat) (a1 : Int) (σ : xSt) (Post : Int → Prop) (h : wp_X10_depthOf a1 σ Post) : MI l D (tyL cI cZ cJ) (cM aa cI cZ cJ) tR tU yX10_depthOf wsX10_depthOf rmX10_depthOf [.ref (aa 0), .int (xI a1)] σ (fun r9 σ9 => σ9 = σ ∧ Post r9) := by
  refine mi_of (cc := cX10_depthOf) (maxL := 8) (ret := (some .int)) (by decide) rfl (Nat.le_of_ble_eq_true rfl) ?_
  intro p e s m args below meth c A hF
  obtain ⟨hx, hb, hr, hml, hown, hts, hlk, hK, hZ, hA⟩ := hF
  have hown : s.vm.findClass RX10 = some m.cls := hown
  delta wp_X10_depthOf at h
  refine gg_lv (lv' := [(0, .ref (aa 0)), (1, .int (xI a1))]) [0, 1] rfl ?_
  refine gg_aload_n hx hb 0 rfl rfl dX10_depthOf_0 ?_
  refine gg_get (C := RX10) (T := TX10) (N := 18) hx hb hts hown hK iX10_depthOf_X10 0 rfl rfl 7 (by decide) (List.mem_of_getElem? (i := 1) rfl) rfl dX10_depthOf_1 ?_
  refine gg_iload_n hx hb 1 rfl rfl dX10_depthOf_4 ?_
  refine gg_zald hx hb hK 4 1 rfl rfl (by decide) h.1 dX10_depthOf_5 ?_
  have h := h.2
  have h := h (fun (y0_15 : Int) => GG p l e rmX10_depthOf s m args below meth c (QI below D (cM aa cI cZ cJ) A args s (fun r9 σ9 => σ9 = σ ∧ Post r9)) A D (cM aa cI cZ cJ) 8 σ 15 [(0, .ref (aa 0)), (1, .int (xI a1))] [.int (xI y0_15)])
  have h := h (by
    intro y0_15 h
    refine gg_istore_n (lv' := [(2, .int (xI y0_15)), (0, .ref (aa 0)), (1, .int (xI a1))]) hx hb rfl (by decide) rfl dX10_depthOf_15 ?_
    refine gg_iconst hx hb dX10_depthOf_16 ?_
    refine gg_istore_n (lv' := [(3, .int (xI (-1))), (2, .int (xI y0_15)), (0, .ref (aa 0)), (1, .int (xI a1))]) hx hb rfl (by decide) rfl dX10_depthOf_17 ?_
    have h := h (fun (x2_18 x3_18 : Int) => GG p l e rmX10_depthOf s m args below meth c (QI below D (cM aa cI cZ cJ) A args s (fun r9 σ9 => σ9 = σ ∧ Post r9)) A D (cM aa cI cZ cJ) 8 σ 18 [(0, .ref (aa 0)), (1, .int (xI a1)), (2, .int (xI x2_18)), (3, .int (xI x3_18))] [])
    have h := h (by
      intro x2_18 x3_18 h
      refine gg_iload_n hx hb 3 rfl rfl dX10_depthOf_18 ?_
      refine gg_aload_n hx hb 0 rfl rfl dX10_depthOf_19 ?_
      refine gg_get (C := RX10) (T := TX10) (N := 18) hx hb hts hown hK iX10_depthOf_X10 0 rfl rfl 6 (by decide) (List.mem_of_getElem? (i := 3) rfl) rfl dX10_depthOf_20 ?_
      refine gg_icmp_gt (tgt := 107) hx hb h.1 h.2.1 dX10_depthOf_23 rfl (fun c23 => ?_) (fun c23 => ?_)
      · have h := h.2.2.1 c23
        refine gg_iload_n hx hb 2 rfl rfl dX10_depthOf_107 ?_
        exact gg_iret hx hb hr hlk ⟨rfl, h⟩ dX10_depthOf_108
      · have h := h.2.2.2 c23
        refine gg_iconst hx hb dX10_depthOf_26 ?_
        refine gg_istore (lv' := [(4, .int (xI (-1))), (0, .ref (aa 0)), (1, .int (xI a1)), (2, .int (xI x2_18)), (3, .int (xI x3_18))]) hx hb (by decide) rfl dX10_depthOf_27 ?_
        have h := h (fun (x2_29 x4_29 : Int) => GG p l e rmX10_depthOf s m args below meth c (QI below D (cM aa cI cZ cJ) A args s (fun r9 σ9 => σ9 = σ ∧ Post r9)) A D (cM aa cI cZ cJ) 8 σ 29 [(0, .ref (aa 0)), (1, .int (xI a1)), (2, .int (xI x2_29)), (3, .int (xI x3_18)), (4, .int (xI x4_29))] [])
        have h := h (by
          intro x2_29 x4_29 h
          refine gg_iload hx hb 4 rfl dX10_depthOf_29 ?_
          refine gg_aload_n hx hb 0 rfl rfl dX10_depthOf_31 ?_
          refine gg_get (C := RX10) (T := TX10) (N := 18) hx hb hts hown hK iX10_depthOf_X10 0 rfl rfl 5 (by decide) (List.mem_of_getElem? (i := 4) rfl) rfl dX10_depthOf_32 ?_
          refine gg_icmp_gt (tgt := 101) hx hb h.1 h.2.1 dX10_depthOf_35 rfl (fun c35 => ?_) (fun c35 => ?_)
          · have h := h.2.2.1 c35
            refine gg_iinc (lv' := [(3, .int (xI (x3_18 + 1))), (0, .ref (aa 0)), (1, .int (xI a1)), (2, .int (xI x2_29)), (4, .int (xI x4_29))]) hx hb 3 rfl (by decide) rfl dX10_depthOf_101 ?_
            refine gg_goto (tgt := 18) hx hb dX10_depthOf_104 rfl ?_
            refine gg_lv [1, 2, 3, 0] rfl ?_
            exact h
          · have h := h.2.2.2 c35
            refine gg_iload_n hx hb 1 rfl rfl dX10_depthOf_38 ?_
            refine gg_aload_n hx hb 0 rfl rfl dX10_depthOf_39 ?_
            refine gg_get (C := RX10) (T := TX10) (N := 18) hx hb hts hown hK iX10_depthOf_X10 0 rfl rfl 5 (by decide) (List.mem_of_getElem? (i := 4) rfl) rfl dX10_depthOf_40 ?_
            refine gg_irem hx hb h.1 h.2.1 h.2.2.1 dX10_depthOf_43 ?_
            have h := h.2.2.2
            refine gg_iload hx hb 4 rfl dX10_depthOf_44 ?_
            refine gg_isub hx hb dX10_depthOf_46 ?_
            refine gg_nm (fun z5_47 e47 => ?_)
            have h := h z5_47 e47
            refine gg_istore (lv' := [(5, .int (xI z5_47)), (0, .ref (aa 0)), (1, .int (xI a1)), (2, .int (xI x2_29)), (3, .int (xI x3_18)), (4, .int (xI x4_29))]) hx hb (by decide) rfl dX10_depthOf_47 ?_
            refine gg_iload_n hx hb 2 rfl rfl dX10_depthOf_49 ?_
            refine gg_aload_n hx hb 1 rfl rfl dX10_depthOf_50 ?_
            refine gg_get (C := RX10) (T := TX10) (N := 18) hx hb hts hown hK iX10_depthOf_X10 0 rfl rfl 5 (by decide) (List.mem_of_getElem? (i := 4) rfl) rfl dX10_depthOf_51 ?_
            refine gg_idiv hx hb h.1 h.2.1 h.2.2.1 dX10_depthOf_54 ?_
            have h := h.2.2.2
            refine gg_iload_n hx hb 4 rfl rfl dX10_depthOf_55 ?_
            refine gg_isub hx hb dX10_depthOf_56 ?_
            refine gg_nm (fun z6_57 e57 => ?_)
            have h := h z6_57 e57
            refine gg_istore (lv' := [(6, .int (xI z6_57)), (5, .int (xI z5_47)), (0, .ref (aa 0)), (1, .int (xI a1)), (2, .int (xI x2_29)), (3, .int (xI x3_18)), (4, .int (xI x4_29))]) hx hb (by decide) rfl dX10_depthOf_57 ?_
            refine gg_iload hx hb 1 rfl dX10_depthOf_59 ?_
            refine gg_iload hx hb 1 rfl dX10_depthOf_61 ?_
            refine gg_imul hx hb dX10_depthOf_63 ?_
            refine gg_iload hx hb 0 rfl dX10_depthOf_64 ?_
            refine gg_iload hx hb 0 rfl dX10_depthOf_66 ?_
            refine gg_imul hx hb dX10_depthOf_68 ?_
            refine gg_iadd hx hb dX10_depthOf_69 ?_
            refine gg_nm (fun z7_70 e70 => ?_)
            have h := h z7_70 e70
            refine gg_istore (lv' := [(7, .int (xI z7_70)), (6, .int (xI z6_57)), (5, .int (xI z5_47)), (0, .ref (aa 0)), (1, .int (xI a1)), (2, .int (xI x2_29)), (3, .int (xI x3_18)), (4, .int (xI x4_29))]) hx hb (by decide) rfl dX10_depthOf_70 ?_
            refine gg_aload_n hx hb 3 rfl rfl dX10_depthOf_72 ?_
            refine gg_iload hx hb 7 rfl dX10_depthOf_73 ?_
            refine gg_iload_n hx hb 6 rfl rfl dX10_depthOf_75 ?_
            refine gg_callVip (As := [.int (xI x4_29), .int (xI x3_18)]) (rest := []) hx hb hml hown hts hK hZ hA (c_X10_isOf l D aa cI cZ cJ tR tU x4_29 x3_18 σ _ h) (cwV 2 hts gX10_depthOf_X10_isOf rfl rfl rfl hd_X10_isOf ⟨Nat.le_of_ble_eq_true rfl, Nat.le_of_ble_eq_true rfl⟩) 0 rfl rfl rfl rfl (Nat.le_of_ble_eq_true rfl) dX10_depthOf_76 (fun r76 h => ?_)
            refine gg_if_ne (tgt := 93) hx hb h.1 dX10_depthOf_79 rfl (fun c79 => ?_) (fun c79 => ?_)
            · have h := h.2.1 c79
              refine gg_iload_n hx hb 5 rfl rfl dX10_depthOf_93 ?_
              refine gg_istore_n (lv' := [(2, .int (xI x2_29)), (7, .int (xI z7_70)), (6, .int (xI z6_57)), (5, .int (xI z5_47)), (0, .ref (aa 0)), (1, .int (xI a1)), (3, .int (xI x3_18)), (4, .int (xI x4_29))]) hx hb rfl (by decide) rfl dX10_depthOf_94 ?_
              refine gg_iinc (lv' := [(4, .int (xI (x4_29 + 1))), (2, .int (xI x2_29)), (7, .int (xI z7_70)), (6, .int (xI z6_57)), (5, .int (xI z5_47)), (0, .ref (aa 0)), (1, .int (xI a1)), (3, .int (xI x3_18))]) hx hb 7 rfl (by decide) rfl dX10_depthOf_95 ?_
              refine gg_goto (tgt := 29) hx hb dX10_depthOf_98 rfl ?_
              refine gg_lv [5, 6, 1, 7, 0] rfl ?_
              exact h
            · have h := h.2.2 c79
              refine gg_iload hx hb 0 rfl dX10_depthOf_82 ?_
              refine gg_iload_n hx hb 5 rfl rfl dX10_depthOf_84 ?_
              refine gg_icmp_ge (tgt := 93) hx hb h.1 h.2.1 dX10_depthOf_85 rfl (fun c85 => ?_) (fun c85 => ?_)
              · have h := h.2.2.1 c85
                refine gg_iload_n hx hb 5 rfl rfl dX10_depthOf_93 ?_
                refine gg_istore_n (lv' := [(2, .int (xI x2_29)), (7, .int (xI z7_70)), (6, .int (xI z6_57)), (5, .int (xI z5_47)), (0, .ref (aa 0)), (1, .int (xI a1)), (3, .int (xI x3_18)), (4, .int (xI x4_29))]) hx hb rfl (by decide) rfl dX10_depthOf_94 ?_
                refine gg_iinc (lv' := [(4, .int (xI (x4_29 + 1))), (2, .int (xI x2_29)), (7, .int (xI z7_70)), (6, .int (xI z6_57)), (5, .int (xI z5_47)), (0, .ref (aa 0)), (1, .int (xI a1)), (3, .int (xI x3_18))]) hx hb 7 rfl (by decide) rfl dX10_depthOf_95 ?_
                refine gg_goto (tgt := 29) hx hb dX10_depthOf_98 rfl ?_
                refine gg_lv [5, 6, 1, 7, 0] rfl ?_
                exact h
              · have h := h.2.2.2 c85
                refine gg_iload hx hb 0 rfl dX10_depthOf_88 ?_
                refine gg_goto (tgt := 94) hx hb dX10_depthOf_90 rfl ?_
                refine gg_istore_n (lv' := [(2, .int (xI z7_70)), (7, .int (xI z7_70)), (6, .int (xI z6_57)), (5, .int (xI z5_47)), (0, .ref (aa 0)), (1, .int (xI a1)), (3, .int (xI x3_18)), (4, .int (xI x4_29))]) hx hb rfl (by decide) rfl dX10_depthOf_94 ?_
                refine gg_iinc (lv' := [(4, .int (xI (x4_29 + 1))), (2, .int (xI z7_70)), (7, .int (xI z7_70)), (6, .int (xI z6_57)), (5, .int (xI z5_47)), (0, .ref (aa 0)), (1, .int (xI a1)), (3, .int (xI x3_18))]) hx hb 7 rfl (by decide) rfl dX10_depthOf_95 ?_
                refine gg_goto (tgt := 29) hx hb dX10_depthOf_98 rfl ?_
                refine gg_lv [5, 6, 1, 7, 0] rfl ?_
                exact h)
        refine gg_lv [1, 2, 3, 4, 0] rfl ?_
        exact h)
    refine gg_lv [2, 3, 1, 0] rfl ?_
    exact h)
  refine gg_if_eq (tgt := 14) hx hb h.1 dX10_depthOf_6 rfl (fun c6 => ?_) (fun c6 => ?_)
  · have h := h.2.1 c6
    refine gg_iconst hx hb dX10_depthOf_14 ?_
    exact h
  · have h := h.2.2 c6
    refine gg_ldc hx hb (1000000) hown (hts _ (List.mem_of_getElem? (i := 2) rfl)) rfl dX10_depthOf_9 ?_
    refine gg_goto (tgt := 15) hx hb dX10_depthOf_11 rfl ?_
    exact h
abbrev rmX10_deep : Room := { frames := 4, cells := 0, slots := 0, locals := 96 }
theorem iX10_deep_X10 : ∀ w ∈ u_ws RX10 TX10 18, w ∈ wsX10_deep := (fun _ h => List.mem_cons_of_mem _ (List.mem_append_right _ h))
theorem hd_X10_deep : (yX10_deep.cls = RX10 ∧ yX10_deep.cls ≠ "java/lang/invoke/MethodHandle" ∧ yX10_deep.cls ≠ "java/lang/invoke/VarHandle" ∧ (parseMethodDescriptor yX10_deep.desc).map (fun d => d.parameters.length) = some 1) := by decide +kernel
set_option maxRecDepth 100000 in
set_option maxHeartbeats 4000000 in
theorem c_X10_deep (l : Launch) (D : va_G) (aa : Nat → Nat) (cI cZ cJ : ClassId) (tR tU : Nat) (a1 : Int) (σ : xSt) (Post : Int → xSt → Prop) (h : wp_X10_deep a1 σ Post) : MI l D (tyL cI cZ cJ) (cM aa cI cZ cJ) tR tU yX10_deep wsX10_deep rmX10_deep [.ref (aa 0), .int (xI a1)] σ Post := by
  refine mi_of (cc := cX10_deep) (maxL := 2) (ret := (some .int)) (by decide) rfl (Nat.le_of_ble_eq_true rfl) ?_
  intro p e s m args below meth c A hF
  obtain ⟨hx, hb, hr, hml, hown, hts, hlk, hK, hZ, hA⟩ := hF
  have hown : s.vm.findClass RX10 = some m.cls := hown
  delta wp_X10_deep at h
  refine gg_lv (lv' := [(0, .ref (aa 0)), (1, .int (xI a1))]) [0, 1] rfl ?_
  refine gg_aload_n hx hb 0 rfl rfl dX10_deep_0 ?_
  refine gg_iconst hx hb dX10_deep_1 ?_
  refine gg_put (C := RX10) (T := TX10) (N := 18) hx hb hts hown hK iX10_deep_X10 tyX10 tyX10_ok nmX10 0 rfl rfl 0 (by decide) (List.mem_of_getElem? (i := 1) rfl) rfl rfl (Nat.le_of_ble_eq_true rfl) (cM_set_0_0 aa cI cZ cJ _ _) dX10_deep_2 (fun σ_2 e2 => ?_)
  have h := h σ_2 e2
  refine gg_aload_n hx hb 0 rfl rfl dX10_deep_5 ?_
  refine gg_iload_n hx hb 1 rfl rfl dX10_deep_6 ?_
  refine gg_callVip (As := [.int (xI a1)]) (rest := []) hx hb hml hown hts hK hZ hA (c_X10_noField l D aa cI cZ cJ tR tU a1 σ_2 _ h) (cwV 1 hts gX10_deep_X10_noField rfl rfl rfl hd_X10_noField ⟨Nat.le_of_ble_eq_true rfl, Nat.le_of_ble_eq_true rfl⟩) 0 rfl rfl rfl rfl (Nat.le_of_ble_eq_true rfl) dX10_deep_7 (fun r7 h => ?_)
  refine gg_if_eq (tgt := 19) hx hb h.1 dX10_deep_10 rfl (fun c10 => ?_) (fun c10 => ?_)
  · have h := h.2.1 c10
    refine gg_aload_n hx hb 0 rfl rfl dX10_deep_19 ?_
    refine gg_iload_n hx hb 1 rfl rfl dX10_deep_20 ?_
    refine gg_callVip (As := [.int (xI a1)]) (rest := []) hx hb hml hown hts hK hZ hA (c_X10_depthOf l D aa cI cZ cJ tR tU a1 σ_2 _ h) (cwV 1 hts gX10_deep_X10_depthOf rfl rfl rfl hd_X10_depthOf ⟨Nat.le_of_ble_eq_true rfl, Nat.le_of_ble_eq_true rfl⟩) 0 rfl rfl rfl rfl (Nat.le_of_ble_eq_true rfl) dX10_deep_21 (fun r21 h => ?_)
    exact gg_iret hx hb hr hlk h dX10_deep_24
  · have h := h.2.2 c10
    refine gg_sipush hx hb dX10_deep_13 rfl ?_
    refine gg_goto (tgt := 24) hx hb dX10_deep_16 rfl ?_
    exact gg_iret hx hb hr hlk h dX10_deep_24
abbrev rmX10_deepest : Room := { frames := 4, cells := 0, slots := 0, locals := 96 }
theorem iX10_deepest_X10 : ∀ w ∈ u_ws RX10 TX10 18, w ∈ wsX10_deepest := (fun _ h => List.mem_cons_of_mem _ (List.mem_append_right _ h))
theorem hd_X10_deepest : (yX10_deepest.cls = RX10 ∧ yX10_deepest.cls ≠ "java/lang/invoke/MethodHandle" ∧ yX10_deepest.cls ≠ "java/lang/invoke/VarHandle" ∧ (parseMethodDescriptor yX10_deepest.desc).map (fun d => d.parameters.length) = some 1) := by decide +kernel
set_option maxRecDepth 100000 in
set_option maxHeartbeats 4000000 in
theorem c_X10_deepest (l : Launch) (D : va_G) (aa : Nat → Nat) (cI cZ cJ : ClassId) (tR tU : Nat) (a1 : Int) (σ : xSt) (Post : Int → xSt → Prop) (h : wp_X10_deepest a1 σ Post) : MI l D (tyL cI cZ cJ) (cM aa cI cZ cJ) tR tU yX10_deepest wsX10_deepest rmX10_deepest [.ref (aa 0), .int (xI a1)] σ Post := by
  refine mi_of (cc := cX10_deepest) (maxL := 6) (ret := (some .int)) (by decide) rfl (Nat.le_of_ble_eq_true rfl) ?_
  intro p e s m args below meth c A hF
  obtain ⟨hx, hb, hr, hml, hown, hts, hlk, hK, hZ, hA⟩ := hF
  have hown : s.vm.findClass RX10 = some m.cls := hown
  delta wp_X10_deepest at h
  refine gg_lv (lv' := [(0, .ref (aa 0)), (1, .int (xI a1))]) [0, 1] rfl ?_
  refine gg_aload_n hx hb 0 rfl rfl dX10_deepest_0 ?_
  refine gg_iconst hx hb dX10_deepest_1 ?_
  refine gg_put (C := RX10) (T := TX10) (N := 18) hx hb hts hown hK iX10_deepest_X10 tyX10 tyX10_ok nmX10 0 rfl rfl 0 (by decide) (List.mem_of_getElem? (i := 1) rfl) rfl rfl (Nat.le_of_ble_eq_true rfl) (cM_set_0_0 aa cI cZ cJ _ _) dX10_deepest_2 (fun σ_2 e2 => ?_)
  have h := h σ_2 e2
  refine gg_iconst hx hb dX10_deepest_5 ?_
  refine gg_istore_n (lv' := [(2, .int (xI 0)), (0, .ref (aa 0)), (1, .int (xI a1))]) hx hb rfl (by decide) rfl dX10_deepest_6 ?_
  refine gg_sipush hx hb dX10_deepest_7 rfl ?_
  refine gg_istore_n (lv' := [(3, .int (xI (-999))), (2, .int (xI 0)), (0, .ref (aa 0)), (1, .int (xI a1))]) hx hb rfl (by decide) rfl dX10_deepest_10 ?_
  refine gg_iconst hx hb dX10_deepest_11 ?_
  refine gg_istore (lv' := [(4, .int (xI 0)), (3, .int (xI (-999))), (2, .int (xI 0)), (0, .ref (aa 0)), (1, .int (xI a1))]) hx hb (by decide) rfl dX10_deepest_12 ?_
  have h := h (fun (x2_14 x3_14 x4_14 : Int) => GG p l e rmX10_deepest s m args below meth c (QI below D (cM aa cI cZ cJ) A args s Post) A D (cM aa cI cZ cJ) 6 σ_2 14 [(0, .ref (aa 0)), (1, .int (xI a1)), (2, .int (xI x2_14)), (3, .int (xI x3_14)), (4, .int (xI x4_14))] [])
  have h := h (by
    intro x2_14 x3_14 x4_14 h
    refine gg_iload hx hb 4 rfl dX10_deepest_14 ?_
    refine gg_aload_n hx hb 0 rfl rfl dX10_deepest_16 ?_
    refine gg_callVip (As := []) (rest := [.int (xI x4_14)]) hx hb hml hown hts hK hZ hA (c_X10_fields l D aa cI cZ cJ tR tU σ_2 _ h) (cwV 0 hts gX10_deepest_X10_fields rfl rfl rfl hd_X10_fields ⟨Nat.le_of_ble_eq_true rfl, Nat.le_of_ble_eq_true rfl⟩) 0 rfl rfl rfl rfl (Nat.le_of_ble_eq_true rfl) dX10_deepest_17 (fun r17 h => ?_)
    refine gg_icmp_ge (tgt := 49) hx hb h.1 h.2.1 dX10_deepest_20 rfl (fun c20 => ?_) (fun c20 => ?_)
    · have h := h.2.2.1 c20
      refine gg_iload_n hx hb 1 rfl rfl dX10_deepest_49 ?_
      refine gg_if_eq (tgt := 57) hx hb h.1 dX10_deepest_50 rfl (fun c50 => ?_) (fun c50 => ?_)
      · have h := h.2.1 c50
        refine gg_iload_n hx hb 2 rfl rfl dX10_deepest_57 ?_
        exact gg_iret hx hb hr hlk h dX10_deepest_58
      · have h := h.2.2 c50
        refine gg_iload_n hx hb 3 rfl rfl dX10_deepest_53 ?_
        refine gg_goto (tgt := 58) hx hb dX10_deepest_54 rfl ?_
        exact gg_iret hx hb hr hlk h dX10_deepest_58
    · have h := h.2.2.2 c20
      refine gg_aload_n hx hb 0 rfl rfl dX10_deepest_23 ?_
      refine gg_iload hx hb 4 rfl dX10_deepest_24 ?_
      refine gg_callVip (As := [.int (xI x4_14)]) (rest := []) hx hb hml hown hts hK hZ hA (c_X10_depthOf l D aa cI cZ cJ tR tU x4_14 σ_2 _ h) (cwV 1 hts gX10_deepest_X10_depthOf rfl rfl rfl hd_X10_depthOf ⟨Nat.le_of_ble_eq_true rfl, Nat.le_of_ble_eq_true rfl⟩) 0 rfl rfl rfl rfl (Nat.le_of_ble_eq_true rfl) dX10_deepest_26 (fun r26 h => ?_)
      refine gg_istore (lv' := [(5, .int (xI r26)), (0, .ref (aa 0)), (1, .int (xI a1)), (2, .int (xI x2_14)), (3, .int (xI x3_14)), (4, .int (xI x4_14))]) hx hb (by decide) rfl dX10_deepest_29 ?_
      refine gg_iload hx hb 0 rfl dX10_deepest_31 ?_
      refine gg_iload_n hx hb 3 rfl rfl dX10_deepest_33 ?_
      refine gg_icmp_le (tgt := 43) hx hb h.1 h.2.1 dX10_deepest_34 rfl (fun c34 => ?_) (fun c34 => ?_)
      · have h := h.2.2.1 c34
        refine gg_iinc (lv' := [(4, .int (xI (x4_14 + 1))), (5, .int (xI r26)), (0, .ref (aa 0)), (1, .int (xI a1)), (2, .int (xI x2_14)), (3, .int (xI x3_14))]) hx hb 5 rfl (by decide) rfl dX10_deepest_43 ?_
        refine gg_goto (tgt := 14) hx hb dX10_deepest_46 rfl ?_
        refine gg_lv [2, 3, 4, 5, 0] rfl ?_
        exact h
      · have h := h.2.2.2 c34
        refine gg_iload hx hb 0 rfl dX10_deepest_37 ?_
        refine gg_istore_n (lv' := [(2, .int (xI r26)), (5, .int (xI r26)), (0, .ref (aa 0)), (1, .int (xI a1)), (3, .int (xI x3_14)), (4, .int (xI x4_14))]) hx hb rfl (by decide) rfl dX10_deepest_39 ?_
        refine gg_iload hx hb 5 rfl dX10_deepest_40 ?_
        refine gg_istore_n (lv' := [(3, .int (xI x4_14)), (2, .int (xI r26)), (5, .int (xI r26)), (0, .ref (aa 0)), (1, .int (xI a1)), (4, .int (xI x4_14))]) hx hb rfl (by decide) rfl dX10_deepest_42 ?_
        refine gg_iinc (lv' := [(4, .int (xI (x4_14 + 1))), (3, .int (xI x4_14)), (2, .int (xI r26)), (5, .int (xI r26)), (0, .ref (aa 0)), (1, .int (xI a1))]) hx hb 5 rfl (by decide) rfl dX10_deepest_43 ?_
        refine gg_goto (tgt := 14) hx hb dX10_deepest_46 rfl ?_
        refine gg_lv [4, 5, 2, 1, 0] rfl ?_
        exact h)
  refine gg_lv [3, 4, 2, 1, 0] rfl ?_
  exact h
abbrev rmX10_measure : Room := { frames := 4, cells := 0, slots := 0, locals := 96 }
theorem iX10_measure_X10 : ∀ w ∈ u_ws RX10 TX10 18, w ∈ wsX10_measure := (fun _ h => List.mem_cons_of_mem _ (List.mem_append_right _ h))
theorem hd_X10_measure : (yX10_measure.cls = RX10 ∧ yX10_measure.cls ≠ "java/lang/invoke/MethodHandle" ∧ yX10_measure.cls ≠ "java/lang/invoke/VarHandle" ∧ (parseMethodDescriptor yX10_measure.desc).map (fun d => d.parameters.length) = some 0) := by decide +kernel
set_option maxRecDepth 100000 in
set_option maxHeartbeats 4000000 in
theorem c_X10_measure (l : Launch) (D : va_G) (aa : Nat → Nat) (cI cZ cJ : ClassId) (tR tU : Nat) (σ : xSt) (Post : xSt → Prop) (h : wp_X10_measure σ Post) : MV l D (tyL cI cZ cJ) (cM aa cI cZ cJ) tR tU yX10_measure wsX10_measure rmX10_measure [.ref (aa 0)] σ Post := by
  refine mv_of (cc := cX10_measure) (maxL := 2) (ret := none) (by decide) rfl (Nat.le_of_ble_eq_true rfl) ?_
  intro p e s m args below meth c A hF
  obtain ⟨hx, hb, hr, hml, hown, hts, hlk, hK, hZ, hA⟩ := hF
  have hown : s.vm.findClass RX10 = some m.cls := hown
  delta wp_X10_measure at h
  refine gg_lv (lv' := [(0, .ref (aa 0))]) [0] rfl ?_
  refine gg_iconst hx hb dX10_measure_0 ?_
  refine gg_istore_n (lv' := [(1, .int (xI 0)), (0, .ref (aa 0))]) hx hb rfl (by decide) rfl dX10_measure_1 ?_
  have h := h (fun (x1_2 : Int) (s2 : xSt) => GG p l e rmX10_measure s m args below meth c (QV below D (cM aa cI cZ cJ) A args s Post) A D (cM aa cI cZ cJ) 2 s2 2 [(0, .ref (aa 0)), (1, .int (xI x1_2))] [])
  have h := h (by
    intro x1_2 s2 h
    refine gg_iload_n hx hb 1 rfl rfl dX10_measure_2 ?_
    refine gg_aload_n hx hb 0 rfl rfl dX10_measure_3 ?_
    refine gg_callVip (As := []) (rest := [.int (xI x1_2)]) hx hb hml hown hts hK hZ hA (c_X10_fields l D aa cI cZ cJ tR tU s2 _ h) (cwV 0 hts gX10_measure_X10_fields rfl rfl rfl hd_X10_fields ⟨Nat.le_of_ble_eq_true rfl, Nat.le_of_ble_eq_true rfl⟩) 0 rfl rfl rfl rfl (Nat.le_of_ble_eq_true rfl) dX10_measure_4 (fun r4 h => ?_)
    refine gg_icmp_ge (tgt := 27) hx hb h.1 h.2.1 dX10_measure_7 rfl (fun c7 => ?_) (fun c7 => ?_)
    · have h := h.2.2.1 c7
      exact gg_vret hx hb hr hlk h dX10_measure_27
    · have h := h.2.2.2 c7
      refine gg_aload_n hx hb 0 rfl rfl dX10_measure_10 ?_
      refine gg_get (C := RX10) (T := TX10) (N := 18) hx hb hts hown hK iX10_measure_X10 0 rfl rfl 10 (by decide) (List.mem_of_getElem? (i := 1) rfl) rfl dX10_measure_11 ?_
      refine gg_iload_n hx hb 1 rfl rfl dX10_measure_14 ?_
      refine gg_aload_n hx hb 0 rfl rfl dX10_measure_15 ?_
      refine gg_iload_n hx hb 1 rfl rfl dX10_measure_16 ?_
      refine gg_callVip (As := [.int (xI x1_2)]) (rest := [.int (xI x1_2), .ref (aa 7)]) hx hb hml hown hts hK hZ hA (c_X10_depthOf l D aa cI cZ cJ tR tU x1_2 s2 _ h) (cwV 1 hts gX10_measure_X10_depthOf rfl rfl rfl hd_X10_depthOf ⟨Nat.le_of_ble_eq_true rfl, Nat.le_of_ble_eq_true rfl⟩) 0 rfl rfl rfl rfl (Nat.le_of_ble_eq_true rfl) dX10_measure_17 (fun r17 h => ?_)
      refine gg_iast hx hb hK 7 0 rfl rfl (cM_st_7 aa cI cZ cJ _ _) (by decide) h.1 dX10_measure_20 (fun σ_20 e20 => ?_)
      have h := h.2 σ_20 e20
      refine gg_iinc (lv' := [(1, .int (xI (x1_2 + 1))), (0, .ref (aa 0))]) hx hb 1 rfl (by decide) rfl dX10_measure_21 ?_
      refine gg_goto (tgt := 2) hx hb dX10_measure_24 rfl ?_
      refine gg_lv [1, 0] rfl ?_
      exact h)
  refine gg_lv [1, 0] rfl ?_
  exact h
abbrev rmX10_isNeeded : Room := { frames := 1, cells := 0, slots := 0, locals := 20 }
theorem iX10_isNeeded_X10 : ∀ w ∈ u_ws RX10 TX10 18, w ∈ wsX10_isNeeded := (fun _ h => List.mem_cons_of_mem _ (List.mem_append_right _ h))
theorem hd_X10_isNeeded : (yX10_isNeeded.cls = RX10 ∧ yX10_isNeeded.cls ≠ "java/lang/invoke/MethodHandle" ∧ yX10_isNeeded.cls ≠ "java/lang/invoke/VarHandle" ∧ (parseMethodDescriptor yX10_isNeeded.desc).map (fun d => d.parameters.length) = some 1) := by decide +kernel
set_option maxRecDepth 100000 in
set_option maxHeartbeats 4000000 in
theorem c_X10_isNeeded (l : Launch) (D : va_G) (aa : Nat → Nat) (cI cZ cJ : ClassId) (tR tU : Nat) (a1 : Int) (σ : xSt) (Post : Int → Prop) (h : wp_X10_isNeeded a1 σ Post) : MI l D (tyL cI cZ cJ) (cM aa cI cZ cJ) tR tU yX10_isNeeded wsX10_isNeeded rmX10_isNeeded [.ref (aa 0), .int (xI a1)] σ (fun r9 σ9 => σ9 = σ ∧ Post r9) := by
  refine mi_of (cc := cX10_isNeeded) (maxL := 11) (ret := (some .boolean)) (by decide) rfl (Nat.le_of_ble_eq_true rfl) ?_
  intro p e s m args below meth c A hF
  obtain ⟨hx, hb, hr, hml, hown, hts, hlk, hK, hZ, hA⟩ := hF
  have hown : s.vm.findClass RX10 = some m.cls := hown
  delta wp_X10_isNeeded at h
  refine gg_lv (lv' := [(0, .ref (aa 0)), (1, .int (xI a1))]) [0, 1] rfl ?_
  refine gg_aload_n hx hb 0 rfl rfl dX10_isNeeded_0 ?_
  refine gg_get (C := RX10) (T := TX10) (N := 18) hx hb hts hown hK iX10_isNeeded_X10 0 rfl rfl 7 (by decide) (List.mem_of_getElem? (i := 1) rfl) rfl dX10_isNeeded_1 ?_
  refine gg_iload_n hx hb 1 rfl rfl dX10_isNeeded_4 ?_
  refine gg_zald hx hb hK 4 1 rfl rfl (by decide) h.1 dX10_isNeeded_5 ?_
  have h := h.2
  refine gg_istore_n (lv' := [(2, .int (xI (σ 4 (a1).toNat))), (0, .ref (aa 0)), (1, .int (xI a1))]) hx hb rfl (by decide) rfl dX10_isNeeded_6 ?_
  refine gg_iconst hx hb dX10_isNeeded_7 ?_
  refine gg_istore_n (lv' := [(3, .int (xI 0)), (2, .int (xI (σ 4 (a1).toNat))), (0, .ref (aa 0)), (1, .int (xI a1))]) hx hb rfl (by decide) rfl dX10_isNeeded_8 ?_
  have h := h (fun (x2_9 x3_9 : Int) => GG p l e rmX10_isNeeded s m args below meth c (QI below D (cM aa cI cZ cJ) A args s (fun r9 σ9 => σ9 = σ ∧ Post r9)) A D (cM aa cI cZ cJ) 11 σ 9 [(0, .ref (aa 0)), (1, .int (xI a1)), (2, .int (xI x2_9)), (3, .int (xI x3_9))] [])
  have h := h (by
    intro x2_9 x3_9 h
    refine gg_iload_n hx hb 3 rfl rfl dX10_isNeeded_9 ?_
    refine gg_aload_n hx hb 0 rfl rfl dX10_isNeeded_10 ?_
    refine gg_callVip (As := []) (rest := [.int (xI x3_9)]) hx hb hml hown hts hK hZ hA (c_X10_fields l D aa cI cZ cJ tR tU σ _ h) (cwV 0 hts gX10_isNeeded_X10_fields rfl rfl rfl hd_X10_fields ⟨Nat.le_of_ble_eq_true rfl, Nat.le_of_ble_eq_true rfl⟩) 0 rfl rfl rfl rfl (Nat.le_of_ble_eq_true rfl) dX10_isNeeded_11 (fun r11 h => ?_)
    refine gg_icmp_ge (tgt := 153) hx hb h.1 h.2.1 dX10_isNeeded_14 rfl (fun c14 => ?_) (fun c14 => ?_)
    · have h := h.2.2.1 c14
      refine gg_iload_n hx hb 2 rfl rfl dX10_isNeeded_153 ?_
      exact gg_zret hx hb hr hlk h.1 ⟨rfl, h.2⟩ dX10_isNeeded_154
    · have h := h.2.2.2 c14
      refine gg_iload_n hx hb 2 rfl rfl dX10_isNeeded_17 ?_
      refine gg_if_eq (tgt := 153) hx hb h.1 dX10_isNeeded_18 rfl (fun c18 => ?_) (fun c18 => ?_)
      · have h := h.2.1 c18
        refine gg_iload_n hx hb 2 rfl rfl dX10_isNeeded_153 ?_
        exact gg_zret hx hb hr hlk h.1 ⟨rfl, h.2⟩ dX10_isNeeded_154
      · have h := h.2.2 c18
        refine gg_iload_n hx hb 1 rfl rfl dX10_isNeeded_21 ?_
        refine gg_aload_n hx hb 0 rfl rfl dX10_isNeeded_22 ?_
        refine gg_get (C := RX10) (T := TX10) (N := 18) hx hb hts hown hK iX10_isNeeded_X10 0 rfl rfl 5 (by decide) (List.mem_of_getElem? (i := 2) rfl) rfl dX10_isNeeded_23 ?_
        refine gg_irem hx hb h.1 h.2.1 h.2.2.1 dX10_isNeeded_26 ?_
        have h := h.2.2.2
        refine gg_iload_n hx hb 3 rfl rfl dX10_isNeeded_27 ?_
        refine gg_aload_n hx hb 0 rfl rfl dX10_isNeeded_28 ?_
        refine gg_get (C := RX10) (T := TX10) (N := 18) hx hb hts hown hK iX10_isNeeded_X10 0 rfl rfl 5 (by decide) (List.mem_of_getElem? (i := 2) rfl) rfl dX10_isNeeded_29 ?_
        refine gg_irem hx hb h.1 h.2.1 h.2.2.1 dX10_isNeeded_32 ?_
        have h := h.2.2.2
        refine gg_isub hx hb dX10_isNeeded_33 ?_
        refine gg_nm (fun z4_34 e34 => ?_)
        have h := h z4_34 e34
        refine gg_istore (lv' := [(4, .int (xI z4_34)), (0, .ref (aa 0)), (1, .int (xI a1)), (2, .int (xI x2_9)), (3, .int (xI x3_9))]) hx hb (by decide) rfl dX10_isNeeded_34 ?_
        refine gg_iload_n hx hb 2 rfl rfl dX10_isNeeded_36 ?_
        refine gg_aload_n hx hb 1 rfl rfl dX10_isNeeded_37 ?_
        refine gg_get (C := RX10) (T := TX10) (N := 18) hx hb hts hown hK iX10_isNeeded_X10 0 rfl rfl 5 (by decide) (List.mem_of_getElem? (i := 2) rfl) rfl dX10_isNeeded_38 ?_
        refine gg_idiv hx hb h.1 h.2.1 h.2.2.1 dX10_isNeeded_41 ?_
        have h := h.2.2.2
        refine gg_iload_n hx hb 4 rfl rfl dX10_isNeeded_42 ?_
        refine gg_aload_n hx hb 1 rfl rfl dX10_isNeeded_43 ?_
        refine gg_get (C := RX10) (T := TX10) (N := 18) hx hb hts hown hK iX10_isNeeded_X10 0 rfl rfl 5 (by decide) (List.mem_of_getElem? (i := 2) rfl) rfl dX10_isNeeded_44 ?_
        refine gg_idiv hx hb h.1 h.2.1 h.2.2.1 dX10_isNeeded_47 ?_
        have h := h.2.2.2
        refine gg_isub hx hb dX10_isNeeded_48 ?_
        refine gg_nm (fun z5_49 e49 => ?_)
        have h := h z5_49 e49
        refine gg_istore (lv' := [(5, .int (xI z5_49)), (4, .int (xI z4_34)), (0, .ref (aa 0)), (1, .int (xI a1)), (2, .int (xI x2_9)), (3, .int (xI x3_9))]) hx hb (by decide) rfl dX10_isNeeded_49 ?_
        refine gg_iload hx hb 1 rfl dX10_isNeeded_51 ?_
        refine gg_iload hx hb 1 rfl dX10_isNeeded_53 ?_
        refine gg_imul hx hb dX10_isNeeded_55 ?_
        refine gg_iload hx hb 0 rfl dX10_isNeeded_56 ?_
        refine gg_iload hx hb 0 rfl dX10_isNeeded_58 ?_
        refine gg_imul hx hb dX10_isNeeded_60 ?_
        refine gg_iadd hx hb dX10_isNeeded_61 ?_
        refine gg_i2l hx hb h.1 dX10_isNeeded_62 ?_
        have h := h.2
        refine gg_nmJ (fun z6_63 e63 => ?_)
        have h := h z6_63 e63
        refine gg_lstore (lv' := [(6, .long (xJ z6_63)), (5, .int (xI z5_49)), (4, .int (xI z4_34)), (0, .ref (aa 0)), (1, .int (xI a1)), (2, .int (xI x2_9)), (3, .int (xI x3_9))]) hx hb (by decide) rfl dX10_isNeeded_63 ?_
        refine gg_aload_n hx hb 3 rfl rfl dX10_isNeeded_65 ?_
        refine gg_get (C := RX10) (T := TX10) (N := 18) hx hb hts hown hK iX10_isNeeded_X10 0 rfl rfl 10 (by decide) (List.mem_of_getElem? (i := 3) rfl) rfl dX10_isNeeded_66 ?_
        refine gg_iload_n hx hb 6 rfl rfl dX10_isNeeded_69 ?_
        refine gg_iald hx hb hK 7 0 rfl rfl (by decide) h.1 dX10_isNeeded_70 ?_
        have h := h.2
        refine gg_i2l hx hb h.1 dX10_isNeeded_71 ?_
        have h := h.2
        refine gg_lload hx hb 0 rfl dX10_isNeeded_72 ?_
        refine gg_lsub hx hb dX10_isNeeded_74 ?_
        refine gg_aload_n hx hb 3 rfl rfl dX10_isNeeded_75 ?_
        refine gg_get (C := RX10) (T := TX10) (N := 18) hx hb hts hown hK iX10_isNeeded_X10 0 rfl rfl 10 (by decide) (List.mem_of_getElem? (i := 3) rfl) rfl dX10_isNeeded_76 ?_
        refine gg_iload_n hx hb 4 rfl rfl dX10_isNeeded_79 ?_
        refine gg_iald hx hb hK 7 0 rfl rfl (by decide) h.1 dX10_isNeeded_80 ?_
        have h := h.2
        refine gg_i2l hx hb h.1 dX10_isNeeded_81 ?_
        have h := h.2
        refine gg_lsub hx hb dX10_isNeeded_82 ?_
        refine gg_nmJ (fun z8_83 e83 => ?_)
        have h := h z8_83 e83
        refine gg_lstore (lv' := [(8, .long (xJ z8_83)), (6, .long (xJ z6_63)), (5, .int (xI z5_49)), (4, .int (xI z4_34)), (0, .ref (aa 0)), (1, .int (xI a1)), (2, .int (xI x2_9)), (3, .int (xI x3_9))]) hx hb (by decide) rfl dX10_isNeeded_83 ?_
        refine gg_iload_n hx hb 7 rfl rfl dX10_isNeeded_85 ?_
        refine gg_iload_n hx hb 5 rfl rfl dX10_isNeeded_86 ?_
        have h := h (fun (y0_134 : Int) => GG p l e rmX10_isNeeded s m args below meth c (QI below D (cM aa cI cZ cJ) A args s (fun r9 σ9 => σ9 = σ ∧ Post r9)) A D (cM aa cI cZ cJ) 11 σ 134 [(0, .ref (aa 0)), (1, .int (xI a1)), (3, .int (xI x3_9))] [.int (xI y0_134)])
        have h := h (by
          intro y0_134 h
          refine gg_istore (lv' := [(10, .int (xI y0_134)), (0, .ref (aa 0)), (1, .int (xI a1)), (3, .int (xI x3_9))]) hx hb (by decide) rfl dX10_isNeeded_134 ?_
          refine gg_iload hx hb 0 rfl dX10_isNeeded_136 ?_
          refine gg_if_ne (tgt := 145) hx hb h.1 dX10_isNeeded_138 rfl (fun c138 => ?_) (fun c138 => ?_)
          · have h := h.2.1 c138
            refine gg_iconst hx hb dX10_isNeeded_145 ?_
            refine gg_istore_n (lv' := [(2, .int (xI 0)), (10, .int (xI y0_134)), (0, .ref (aa 0)), (1, .int (xI a1)), (3, .int (xI x3_9))]) hx hb rfl (by decide) rfl dX10_isNeeded_146 ?_
            refine gg_iinc (lv' := [(3, .int (xI (x3_9 + 1))), (2, .int (xI 0)), (10, .int (xI y0_134)), (0, .ref (aa 0)), (1, .int (xI a1))]) hx hb 4 rfl (by decide) rfl dX10_isNeeded_147 ?_
            refine gg_goto (tgt := 9) hx hb dX10_isNeeded_150 rfl ?_
            refine gg_lv [3, 4, 1, 0] rfl ?_
            exact h
          · have h := h.2.2 c138
            refine gg_iconst hx hb dX10_isNeeded_141 ?_
            refine gg_goto (tgt := 146) hx hb dX10_isNeeded_142 rfl ?_
            refine gg_istore_n (lv' := [(2, .int (xI 1)), (10, .int (xI y0_134)), (0, .ref (aa 0)), (1, .int (xI a1)), (3, .int (xI x3_9))]) hx hb rfl (by decide) rfl dX10_isNeeded_146 ?_
            refine gg_iinc (lv' := [(3, .int (xI (x3_9 + 1))), (2, .int (xI 1)), (10, .int (xI y0_134)), (0, .ref (aa 0)), (1, .int (xI a1))]) hx hb 4 rfl (by decide) rfl dX10_isNeeded_147 ?_
            refine gg_goto (tgt := 9) hx hb dX10_isNeeded_150 rfl ?_
            refine gg_lv [3, 4, 1, 0] rfl ?_
            exact h)
        refine gg_icmp_eq (tgt := 133) hx hb h.1 h.2.1 dX10_isNeeded_87 rfl (fun c87 => ?_) (fun c87 => ?_)
        · have h := h.2.2.1 c87
          refine gg_iconst hx hb dX10_isNeeded_133 ?_
          refine gg_lv [4, 5, 7] rfl ?_
          exact h
        · have h := h.2.2.2 c87
          refine gg_aload_n hx hb 4 rfl rfl dX10_isNeeded_90 ?_
          refine gg_get (C := RX10) (T := TX10) (N := 18) hx hb hts hown hK iX10_isNeeded_X10 0 rfl rfl 7 (by decide) (List.mem_of_getElem? (i := 1) rfl) rfl dX10_isNeeded_91 ?_
          refine gg_iload_n hx hb 7 rfl rfl dX10_isNeeded_94 ?_
          refine gg_zald hx hb hK 4 1 rfl rfl (by decide) h.1 dX10_isNeeded_95 ?_
          have h := h.2
          refine gg_if_eq (tgt := 133) hx hb h.1 dX10_isNeeded_96 rfl (fun c96 => ?_) (fun c96 => ?_)
          · have h := h.2.1 c96
            refine gg_iconst hx hb dX10_isNeeded_133 ?_
            refine gg_lv [4, 5, 7] rfl ?_
            exact h
          · have h := h.2.2 c96
            refine gg_lload hx hb 0 rfl dX10_isNeeded_99 ?_
            refine gg_lconst (z := 0) hx hb dX10_isNeeded_101 rfl ?_
            refine gg_lcmp_lt (tgt := 133) hx hb h.1 (by decide) dX10_isNeeded_102 dX10_isNeeded_103 rfl (fun c103 => ?_) (fun c103 => ?_)
            · have h := h.2.1 c103
              refine gg_iconst hx hb dX10_isNeeded_133 ?_
              refine gg_lv [4, 5, 7] rfl ?_
              exact h
            · have h := h.2.2 c103
              refine gg_lload hx hb 0 rfl dX10_isNeeded_106 ?_
              refine gg_lload hx hb 0 rfl dX10_isNeeded_108 ?_
              refine gg_lmul hx hb dX10_isNeeded_110 ?_
              refine gg_ldc2 hx hb (4) hown (hts _ (List.mem_of_getElem? (i := 4) rfl)) rfl dX10_isNeeded_111 ?_
              refine gg_lload hx hb 1 rfl dX10_isNeeded_114 ?_
              refine gg_lmul hx hb dX10_isNeeded_116 ?_
              refine gg_aload_n hx hb 4 rfl rfl dX10_isNeeded_117 ?_
              refine gg_get (C := RX10) (T := TX10) (N := 18) hx hb hts hown hK iX10_isNeeded_X10 0 rfl rfl 10 (by decide) (List.mem_of_getElem? (i := 3) rfl) rfl dX10_isNeeded_118 ?_
              refine gg_iload_n hx hb 5 rfl rfl dX10_isNeeded_121 ?_
              refine gg_iald hx hb hK 7 0 rfl rfl (by decide) h.1 dX10_isNeeded_122 ?_
              have h := h.2
              refine gg_i2l hx hb h.1 dX10_isNeeded_123 ?_
              have h := h.2
              refine gg_lmul hx hb dX10_isNeeded_124 ?_
              refine gg_lcmp_lt (tgt := 133) hx hb h.1 h.2.1 dX10_isNeeded_125 dX10_isNeeded_126 rfl (fun c126 => ?_) (fun c126 => ?_)
              · have h := h.2.2.1 c126
                refine gg_iconst hx hb dX10_isNeeded_133 ?_
                refine gg_lv [4, 5, 7] rfl ?_
                exact h
              · have h := h.2.2.2 c126
                refine gg_iconst hx hb dX10_isNeeded_129 ?_
                refine gg_goto (tgt := 134) hx hb dX10_isNeeded_130 rfl ?_
                refine gg_lv [4, 5, 7] rfl ?_
                exact h)
  refine gg_lv [2, 3, 1, 0] rfl ?_
  exact h
abbrev rmX10_needed : Room := { frames := 5, cells := 0, slots := 0, locals := 117 }
theorem iX10_needed_X10 : ∀ w ∈ u_ws RX10 TX10 18, w ∈ wsX10_needed := (fun _ h => List.mem_cons_of_mem _ (List.mem_append_right _ h))
theorem hd_X10_needed : (yX10_needed.cls = RX10 ∧ yX10_needed.cls ≠ "java/lang/invoke/MethodHandle" ∧ yX10_needed.cls ≠ "java/lang/invoke/VarHandle" ∧ (parseMethodDescriptor yX10_needed.desc).map (fun d => d.parameters.length) = some 1) := by decide +kernel
set_option maxRecDepth 100000 in
set_option maxHeartbeats 4000000 in
theorem c_X10_needed (l : Launch) (D : va_G) (aa : Nat → Nat) (cI cZ cJ : ClassId) (tR tU : Nat) (a1 : Int) (σ : xSt) (Post : Int → xSt → Prop) (h : wp_X10_needed a1 σ Post) : MI l D (tyL cI cZ cJ) (cM aa cI cZ cJ) tR tU yX10_needed wsX10_needed rmX10_needed [.ref (aa 0), .int (xI a1)] σ Post := by
  refine mi_of (cc := cX10_needed) (maxL := 2) (ret := (some .int)) (by decide) rfl (Nat.le_of_ble_eq_true rfl) ?_
  intro p e s m args below meth c A hF
  obtain ⟨hx, hb, hr, hml, hown, hts, hlk, hK, hZ, hA⟩ := hF
  have hown : s.vm.findClass RX10 = some m.cls := hown
  delta wp_X10_needed at h
  refine gg_lv (lv' := [(0, .ref (aa 0)), (1, .int (xI a1))]) [0, 1] rfl ?_
  refine gg_aload_n hx hb 0 rfl rfl dX10_needed_0 ?_
  refine gg_iconst hx hb dX10_needed_1 ?_
  refine gg_put (C := RX10) (T := TX10) (N := 18) hx hb hts hown hK iX10_needed_X10 tyX10 tyX10_ok nmX10 0 rfl rfl 0 (by decide) (List.mem_of_getElem? (i := 1) rfl) rfl rfl (Nat.le_of_ble_eq_true rfl) (cM_set_0_0 aa cI cZ cJ _ _) dX10_needed_2 (fun σ_2 e2 => ?_)
  have h := h σ_2 e2
  refine gg_aload_n hx hb 0 rfl rfl dX10_needed_5 ?_
  refine gg_iload_n hx hb 1 rfl rfl dX10_needed_6 ?_
  refine gg_callVip (As := [.int (xI a1)]) (rest := []) hx hb hml hown hts hK hZ hA (c_X10_noField l D aa cI cZ cJ tR tU a1 σ_2 _ h) (cwV 1 hts gX10_needed_X10_noField rfl rfl rfl hd_X10_noField ⟨Nat.le_of_ble_eq_true rfl, Nat.le_of_ble_eq_true rfl⟩) 0 rfl rfl rfl rfl (Nat.le_of_ble_eq_true rfl) dX10_needed_7 (fun r7 h => ?_)
  refine gg_if_eq (tgt := 17) hx hb h.1 dX10_needed_10 rfl (fun c10 => ?_) (fun c10 => ?_)
  · have h := h.2.1 c10
    refine gg_aload_n hx hb 0 rfl rfl dX10_needed_17 ?_
    refine gg_callVv (As := []) (rest := []) hx hb hml hown hts hK hZ hA (c_X10_measure l D aa cI cZ cJ tR tU σ_2 _ h) (cwV 0 hts gX10_needed_X10_measure rfl rfl rfl hd_X10_measure ⟨Nat.le_of_ble_eq_true rfl, Nat.le_of_ble_eq_true rfl⟩) 0 rfl rfl rfl rfl (Nat.le_of_ble_eq_true rfl) dX10_needed_18 (fun t18 h => ?_)
    refine gg_aload_n hx hb 0 rfl rfl dX10_needed_21 ?_
    refine gg_iload_n hx hb 1 rfl rfl dX10_needed_22 ?_
    refine gg_callVip (As := [.int (xI a1)]) (rest := []) hx hb hml hown hts hK hZ hA (c_X10_isNeeded l D aa cI cZ cJ tR tU a1 t18 _ h) (cwV 1 hts gX10_needed_X10_isNeeded rfl rfl rfl hd_X10_isNeeded ⟨Nat.le_of_ble_eq_true rfl, Nat.le_of_ble_eq_true rfl⟩) 0 rfl rfl rfl rfl (Nat.le_of_ble_eq_true rfl) dX10_needed_23 (fun r23 h => ?_)
    refine gg_if_eq (tgt := 33) hx hb h.1 dX10_needed_26 rfl (fun c26 => ?_) (fun c26 => ?_)
    · have h := h.2.1 c26
      refine gg_iconst hx hb dX10_needed_33 ?_
      exact gg_iret hx hb hr hlk h dX10_needed_34
    · have h := h.2.2 c26
      refine gg_iconst hx hb dX10_needed_29 ?_
      refine gg_goto (tgt := 34) hx hb dX10_needed_30 rfl ?_
      exact gg_iret hx hb hr hlk h dX10_needed_34
  · have h := h.2.2 c10
    refine gg_sipush hx hb dX10_needed_13 rfl ?_
    exact gg_iret hx hb hr hlk h dX10_needed_16
abbrev rmX10_balls : Room := { frames := 5, cells := 0, slots := 0, locals := 117 }
theorem iX10_balls_X10 : ∀ w ∈ u_ws RX10 TX10 18, w ∈ wsX10_balls := (fun _ h => List.mem_cons_of_mem _ (List.mem_append_right _ h))
theorem hd_X10_balls : (yX10_balls.cls = RX10 ∧ yX10_balls.cls ≠ "java/lang/invoke/MethodHandle" ∧ yX10_balls.cls ≠ "java/lang/invoke/VarHandle" ∧ (parseMethodDescriptor yX10_balls.desc).map (fun d => d.parameters.length) = some 0) := by decide +kernel
set_option maxRecDepth 100000 in
set_option maxHeartbeats 4000000 in
theorem c_X10_balls (l : Launch) (D : va_G) (aa : Nat → Nat) (cI cZ cJ : ClassId) (tR tU : Nat) (σ : xSt) (Post : Int → xSt → Prop) (h : wp_X10_balls σ Post) : MI l D (tyL cI cZ cJ) (cM aa cI cZ cJ) tR tU yX10_balls wsX10_balls rmX10_balls [.ref (aa 0)] σ Post := by
  refine mi_of (cc := cX10_balls) (maxL := 3) (ret := (some .int)) (by decide) rfl (Nat.le_of_ble_eq_true rfl) ?_
  intro p e s m args below meth c A hF
  obtain ⟨hx, hb, hr, hml, hown, hts, hlk, hK, hZ, hA⟩ := hF
  have hown : s.vm.findClass RX10 = some m.cls := hown
  delta wp_X10_balls at h
  refine gg_lv (lv' := [(0, .ref (aa 0))]) [0] rfl ?_
  refine gg_aload_n hx hb 0 rfl rfl dX10_balls_0 ?_
  refine gg_iconst hx hb dX10_balls_1 ?_
  refine gg_put (C := RX10) (T := TX10) (N := 18) hx hb hts hown hK iX10_balls_X10 tyX10 tyX10_ok nmX10 0 rfl rfl 0 (by decide) (List.mem_of_getElem? (i := 1) rfl) rfl rfl (Nat.le_of_ble_eq_true rfl) (cM_set_0_0 aa cI cZ cJ _ _) dX10_balls_2 (fun σ_2 e2 => ?_)
  have h := h σ_2 e2
  refine gg_aload_n hx hb 0 rfl rfl dX10_balls_5 ?_
  refine gg_callVv (As := []) (rest := []) hx hb hml hown hts hK hZ hA (c_X10_measure l D aa cI cZ cJ tR tU σ_2 _ h) (cwV 0 hts gX10_balls_X10_measure rfl rfl rfl hd_X10_measure ⟨Nat.le_of_ble_eq_true rfl, Nat.le_of_ble_eq_true rfl⟩) 0 rfl rfl rfl rfl (Nat.le_of_ble_eq_true rfl) dX10_balls_6 (fun t6 h => ?_)
  refine gg_iconst hx hb dX10_balls_9 ?_
  refine gg_istore_n (lv' := [(1, .int (xI 0)), (0, .ref (aa 0))]) hx hb rfl (by decide) rfl dX10_balls_10 ?_
  refine gg_iconst hx hb dX10_balls_11 ?_
  refine gg_istore_n (lv' := [(2, .int (xI 0)), (1, .int (xI 0)), (0, .ref (aa 0))]) hx hb rfl (by decide) rfl dX10_balls_12 ?_
  have h := h (fun (x1_13 x2_13 : Int) => GG p l e rmX10_balls s m args below meth c (QI below D (cM aa cI cZ cJ) A args s Post) A D (cM aa cI cZ cJ) 3 t6 13 [(0, .ref (aa 0)), (1, .int (xI x1_13)), (2, .int (xI x2_13))] [])
  have h := h (by
    intro x1_13 x2_13 h
    refine gg_iload_n hx hb 2 rfl rfl dX10_balls_13 ?_
    refine gg_aload_n hx hb 0 rfl rfl dX10_balls_14 ?_
    refine gg_callVip (As := []) (rest := [.int (xI x2_13)]) hx hb hml hown hts hK hZ hA (c_X10_fields l D aa cI cZ cJ tR tU t6 _ h) (cwV 0 hts gX10_balls_X10_fields rfl rfl rfl hd_X10_fields ⟨Nat.le_of_ble_eq_true rfl, Nat.le_of_ble_eq_true rfl⟩) 0 rfl rfl rfl rfl (Nat.le_of_ble_eq_true rfl) dX10_balls_15 (fun r15 h => ?_)
    refine gg_icmp_ge (tgt := 43) hx hb h.1 h.2.1 dX10_balls_18 rfl (fun c18 => ?_) (fun c18 => ?_)
    · have h := h.2.2.1 c18
      refine gg_iload_n hx hb 1 rfl rfl dX10_balls_43 ?_
      exact gg_iret hx hb hr hlk h dX10_balls_44
    · have h := h.2.2.2 c18
      refine gg_iload_n hx hb 1 rfl rfl dX10_balls_21 ?_
      refine gg_aload_n hx hb 0 rfl rfl dX10_balls_22 ?_
      refine gg_iload_n hx hb 2 rfl rfl dX10_balls_23 ?_
      refine gg_callVip (As := [.int (xI x2_13)]) (rest := [.int (xI x1_13)]) hx hb hml hown hts hK hZ hA (c_X10_isNeeded l D aa cI cZ cJ tR tU x2_13 t6 _ h) (cwV 1 hts gX10_balls_X10_isNeeded rfl rfl rfl hd_X10_isNeeded ⟨Nat.le_of_ble_eq_true rfl, Nat.le_of_ble_eq_true rfl⟩) 0 rfl rfl rfl rfl (Nat.le_of_ble_eq_true rfl) dX10_balls_24 (fun r24 h => ?_)
      refine gg_if_eq (tgt := 34) hx hb h.1 dX10_balls_27 rfl (fun c27 => ?_) (fun c27 => ?_)
      · have h := h.2.1 c27
        refine gg_iconst hx hb dX10_balls_34 ?_
        refine gg_iadd hx hb dX10_balls_35 ?_
        refine gg_istore_n (lv' := [(1, .int (xI (x1_13 + 0))), (0, .ref (aa 0)), (2, .int (xI x2_13))]) hx hb rfl (by decide) rfl dX10_balls_36 ?_
        refine gg_iinc (lv' := [(2, .int (xI (x2_13 + 1))), (1, .int (xI (x1_13 + 0))), (0, .ref (aa 0))]) hx hb 2 rfl (by decide) rfl dX10_balls_37 ?_
        refine gg_goto (tgt := 13) hx hb dX10_balls_40 rfl ?_
        refine gg_lv [2, 1, 0] rfl ?_
        exact h
      · have h := h.2.2 c27
        refine gg_iconst hx hb dX10_balls_30 ?_
        refine gg_goto (tgt := 35) hx hb dX10_balls_31 rfl ?_
        refine gg_iadd hx hb dX10_balls_35 ?_
        refine gg_istore_n (lv' := [(1, .int (xI (x1_13 + 1))), (0, .ref (aa 0)), (2, .int (xI x2_13))]) hx hb rfl (by decide) rfl dX10_balls_36 ?_
        refine gg_iinc (lv' := [(2, .int (xI (x2_13 + 1))), (1, .int (xI (x1_13 + 1))), (0, .ref (aa 0))]) hx hb 2 rfl (by decide) rfl dX10_balls_37 ?_
        refine gg_goto (tgt := 13) hx hb dX10_balls_40 rfl ?_
        refine gg_lv [2, 1, 0] rfl ?_
        exact h)
  refine gg_lv [2, 1, 0] rfl ?_
  exact h
abbrev rmX10_groups : Room := { frames := 1, cells := 0, slots := 0, locals := 20 }
theorem iX10_groups_X10 : ∀ w ∈ u_ws RX10 TX10 18, w ∈ wsX10_groups := (fun _ h => List.mem_cons_of_mem _ (List.mem_append_right _ h))
theorem hd_X10_groups : (yX10_groups.cls = RX10 ∧ yX10_groups.cls ≠ "java/lang/invoke/MethodHandle" ∧ yX10_groups.cls ≠ "java/lang/invoke/VarHandle" ∧ (parseMethodDescriptor yX10_groups.desc).map (fun d => d.parameters.length) = some 1) := by decide +kernel
set_option maxRecDepth 100000 in
set_option maxHeartbeats 4000000 in
theorem c_X10_groups (l : Launch) (D : va_G) (aa : Nat → Nat) (cI cZ cJ : ClassId) (tR tU : Nat) (a1 : Int) (σ : xSt) (Post : Int → xSt → Prop) (h : wp_X10_groups a1 σ Post) : MI l D (tyL cI cZ cJ) (cM aa cI cZ cJ) tR tU yX10_groups wsX10_groups rmX10_groups [.ref (aa 0), .int (xI a1)] σ Post := by
  refine mi_of (cc := cX10_groups) (maxL := 9) (ret := (some .int)) (by decide) rfl (Nat.le_of_ble_eq_true rfl) ?_
  intro p e s m args below meth c A hF
  obtain ⟨hx, hb, hr, hml, hown, hts, hlk, hK, hZ, hA⟩ := hF
  have hown : s.vm.findClass RX10 = some m.cls := hown
  delta wp_X10_groups at h
  refine gg_lv (lv' := [(0, .ref (aa 0)), (1, .int (xI a1))]) [0, 1] rfl ?_
  refine gg_iconst hx hb dX10_groups_0 ?_
  refine gg_istore_n (lv' := [(2, .int (xI 0)), (0, .ref (aa 0)), (1, .int (xI a1))]) hx hb rfl (by decide) rfl dX10_groups_1 ?_
  have h := h (fun (x2_2 : Int) (s2 : xSt) => GG p l e rmX10_groups s m args below meth c (QI below D (cM aa cI cZ cJ) A args s Post) A D (cM aa cI cZ cJ) 9 s2 2 [(0, .ref (aa 0)), (1, .int (xI a1)), (2, .int (xI x2_2))] [])
  have h := h (by
    intro x2_2 s2 h
    refine gg_iload_n hx hb 2 rfl rfl dX10_groups_2 ?_
    refine gg_bipush hx hb dX10_groups_3 rfl ?_
    refine gg_icmp_ge (tgt := 42) hx hb h.1 (by decide) dX10_groups_5 rfl (fun c5 => ?_) (fun c5 => ?_)
    · have h := h.2.1 c5
      refine gg_iconst hx hb dX10_groups_42 ?_
      refine gg_istore_n (lv' := [(2, .int (xI 0)), (0, .ref (aa 0)), (1, .int (xI a1))]) hx hb rfl (by decide) rfl dX10_groups_43 ?_
      have h := h (fun (x2_44 : Int) (s44 : xSt) => GG p l e rmX10_groups s m args below meth c (QI below D (cM aa cI cZ cJ) A args s Post) A D (cM aa cI cZ cJ) 9 s44 44 [(0, .ref (aa 0)), (1, .int (xI a1)), (2, .int (xI x2_44))] [])
      have h := h (by
        intro x2_44 s44 h
        refine gg_iload_n hx hb 2 rfl rfl dX10_groups_44 ?_
        refine gg_bipush hx hb dX10_groups_45 rfl ?_
        refine gg_icmp_ge (tgt := 232) hx hb h.1 (by decide) dX10_groups_47 rfl (fun c47 => ?_) (fun c47 => ?_)
        · have h := h.2.1 c47
          refine gg_iconst hx hb dX10_groups_232 ?_
          refine gg_istore_n (lv' := [(2, .int (xI 0)), (0, .ref (aa 0)), (1, .int (xI a1))]) hx hb rfl (by decide) rfl dX10_groups_233 ?_
          refine gg_iconst hx hb dX10_groups_234 ?_
          refine gg_istore_n (lv' := [(3, .int (xI 0)), (2, .int (xI 0)), (0, .ref (aa 0)), (1, .int (xI a1))]) hx hb rfl (by decide) rfl dX10_groups_235 ?_
          have h := h (fun (x2_236 x3_236 : Int) => GG p l e rmX10_groups s m args below meth c (QI below D (cM aa cI cZ cJ) A args s Post) A D (cM aa cI cZ cJ) 9 s44 236 [(0, .ref (aa 0)), (1, .int (xI a1)), (2, .int (xI x2_236)), (3, .int (xI x3_236))] [])
          have h := h (by
            intro x2_236 x3_236 h
            refine gg_iload_n hx hb 3 rfl rfl dX10_groups_236 ?_
            refine gg_bipush hx hb dX10_groups_237 rfl ?_
            refine gg_icmp_ge (tgt := 313) hx hb h.1 (by decide) dX10_groups_239 rfl (fun c239 => ?_) (fun c239 => ?_)
            · have h := h.2.1 c239
              refine gg_iload_n hx hb 2 rfl rfl dX10_groups_313 ?_
              exact gg_iret hx hb hr hlk h dX10_groups_314
            · have h := h.2.2 c239
              refine gg_iload_n hx hb 1 rfl rfl dX10_groups_242 ?_
              refine gg_istore (lv' := [(4, .int (xI a1)), (0, .ref (aa 0)), (1, .int (xI a1)), (2, .int (xI x2_236)), (3, .int (xI x3_236))]) hx hb (by decide) rfl dX10_groups_243 ?_
              refine gg_iconst hx hb dX10_groups_245 ?_
              refine gg_istore (lv' := [(5, .int (xI 1)), (4, .int (xI a1)), (0, .ref (aa 0)), (1, .int (xI a1)), (2, .int (xI x2_236)), (3, .int (xI x3_236))]) hx hb (by decide) rfl dX10_groups_246 ?_
              have h := h (fun (x4_248 x5_248 : Int) => GG p l e rmX10_groups s m args below meth c (QI below D (cM aa cI cZ cJ) A args s Post) A D (cM aa cI cZ cJ) 9 s44 248 [(0, .ref (aa 0)), (1, .int (xI a1)), (2, .int (xI x2_236)), (3, .int (xI x3_236)), (4, .int (xI x4_248)), (5, .int (xI x5_248))] [])
              have h := h (by
                intro x4_248 x5_248 h
                refine gg_iload hx hb 5 rfl dX10_groups_248 ?_
                refine gg_bipush hx hb dX10_groups_250 rfl ?_
                refine gg_icmp_ge (tgt := 284) hx hb h.1 (by decide) dX10_groups_252 rfl (fun c252 => ?_) (fun c252 => ?_)
                · have h := h.2.1 c252
                  refine gg_iload_n hx hb 2 rfl rfl dX10_groups_284 ?_
                  refine gg_aload_n hx hb 0 rfl rfl dX10_groups_285 ?_
                  refine gg_get (C := RX10) (T := TX10) (N := 18) hx hb hts hown hK iX10_groups_X10 0 rfl rfl 14 (by decide) (List.mem_of_getElem? (i := 1) rfl) rfl dX10_groups_286 ?_
                  refine gg_iload_n hx hb 3 rfl rfl dX10_groups_289 ?_
                  refine gg_iald hx hb hK 11 0 rfl rfl (by decide) h.1 dX10_groups_290 ?_
                  have h := h.2
                  refine gg_iload_n hx hb 3 rfl rfl dX10_groups_291 ?_
                  refine gg_icmp_ne (tgt := 304) hx hb h.1 h.2.1 dX10_groups_292 rfl (fun c292 => ?_) (fun c292 => ?_)
                  · have h := h.2.2.1 c292
                    refine gg_iconst hx hb dX10_groups_304 ?_
                    refine gg_iadd hx hb dX10_groups_305 ?_
                    refine gg_istore_n (lv' := [(2, .int (xI (x2_236 + 0))), (0, .ref (aa 0)), (1, .int (xI a1)), (3, .int (xI x3_236)), (4, .int (xI x4_248)), (5, .int (xI x5_248))]) hx hb rfl (by decide) rfl dX10_groups_306 ?_
                    refine gg_iinc (lv' := [(3, .int (xI (x3_236 + 1))), (2, .int (xI (x2_236 + 0))), (0, .ref (aa 0)), (1, .int (xI a1)), (4, .int (xI x4_248)), (5, .int (xI x5_248))]) hx hb 3 rfl (by decide) rfl dX10_groups_307 ?_
                    refine gg_goto (tgt := 236) hx hb dX10_groups_310 rfl ?_
                    refine gg_lv [2, 3, 1, 0] rfl ?_
                    exact h
                  · have h := h.2.2.2 c292
                    refine gg_iload hx hb 4 rfl dX10_groups_295 ?_
                    refine gg_if_eq (tgt := 304) hx hb h.1 dX10_groups_297 rfl (fun c297 => ?_) (fun c297 => ?_)
                    · have h := h.2.1 c297
                      refine gg_iconst hx hb dX10_groups_304 ?_
                      refine gg_iadd hx hb dX10_groups_305 ?_
                      refine gg_istore_n (lv' := [(2, .int (xI (x2_236 + 0))), (0, .ref (aa 0)), (1, .int (xI a1)), (3, .int (xI x3_236)), (4, .int (xI x4_248)), (5, .int (xI x5_248))]) hx hb rfl (by decide) rfl dX10_groups_306 ?_
                      refine gg_iinc (lv' := [(3, .int (xI (x3_236 + 1))), (2, .int (xI (x2_236 + 0))), (0, .ref (aa 0)), (1, .int (xI a1)), (4, .int (xI x4_248)), (5, .int (xI x5_248))]) hx hb 3 rfl (by decide) rfl dX10_groups_307 ?_
                      refine gg_goto (tgt := 236) hx hb dX10_groups_310 rfl ?_
                      refine gg_lv [2, 3, 1, 0] rfl ?_
                      exact h
                    · have h := h.2.2 c297
                      refine gg_iconst hx hb dX10_groups_300 ?_
                      refine gg_goto (tgt := 305) hx hb dX10_groups_301 rfl ?_
                      refine gg_iadd hx hb dX10_groups_305 ?_
                      refine gg_istore_n (lv' := [(2, .int (xI (x2_236 + 1))), (0, .ref (aa 0)), (1, .int (xI a1)), (3, .int (xI x3_236)), (4, .int (xI x4_248)), (5, .int (xI x5_248))]) hx hb rfl (by decide) rfl dX10_groups_306 ?_
                      refine gg_iinc (lv' := [(3, .int (xI (x3_236 + 1))), (2, .int (xI (x2_236 + 1))), (0, .ref (aa 0)), (1, .int (xI a1)), (4, .int (xI x4_248)), (5, .int (xI x5_248))]) hx hb 3 rfl (by decide) rfl dX10_groups_307 ?_
                      refine gg_goto (tgt := 236) hx hb dX10_groups_310 rfl ?_
                      refine gg_lv [2, 3, 1, 0] rfl ?_
                      exact h
                · have h := h.2.2 c252
                  refine gg_iload hx hb 4 rfl dX10_groups_255 ?_
                  refine gg_if_ne (tgt := 271) hx hb h.1 dX10_groups_257 rfl (fun c257 => ?_) (fun c257 => ?_)
                  · have h := h.2.1 c257
                    refine gg_iconst hx hb dX10_groups_271 ?_
                    refine gg_goto (tgt := 276) hx hb dX10_groups_272 rfl ?_
                    refine gg_istore (lv' := [(4, .int (xI 1)), (0, .ref (aa 0)), (1, .int (xI a1)), (2, .int (xI x2_236)), (3, .int (xI x3_236)), (5, .int (xI x5_248))]) hx hb (by decide) rfl dX10_groups_276 ?_
                    refine gg_iinc (lv' := [(5, .int (xI (x5_248 + 2))), (4, .int (xI 1)), (0, .ref (aa 0)), (1, .int (xI a1)), (2, .int (xI x2_236)), (3, .int (xI x3_236))]) hx hb 5 rfl (by decide) rfl dX10_groups_278 ?_
                    refine gg_goto (tgt := 248) hx hb dX10_groups_281 rfl ?_
                    refine gg_lv [2, 3, 4, 5, 1, 0] rfl ?_
                    exact h
                  · have h := h.2.2 c257
                    refine gg_aload_n hx hb 0 rfl rfl dX10_groups_260 ?_
                    refine gg_get (C := RX10) (T := TX10) (N := 18) hx hb hts hown hK iX10_groups_X10 0 rfl rfl 14 (by decide) (List.mem_of_getElem? (i := 1) rfl) rfl dX10_groups_261 ?_
                    refine gg_iload hx hb 5 rfl dX10_groups_264 ?_
                    refine gg_iald hx hb hK 11 0 rfl rfl (by decide) h.1 dX10_groups_266 ?_
                    have h := h.2
                    refine gg_iload_n hx hb 3 rfl rfl dX10_groups_267 ?_
                    refine gg_icmp_ne (tgt := 275) hx hb h.1 h.2.1 dX10_groups_268 rfl (fun c268 => ?_) (fun c268 => ?_)
                    · have h := h.2.2.1 c268
                      refine gg_iconst hx hb dX10_groups_275 ?_
                      refine gg_istore (lv' := [(4, .int (xI 0)), (0, .ref (aa 0)), (1, .int (xI a1)), (2, .int (xI x2_236)), (3, .int (xI x3_236)), (5, .int (xI x5_248))]) hx hb (by decide) rfl dX10_groups_276 ?_
                      refine gg_iinc (lv' := [(5, .int (xI (x5_248 + 2))), (4, .int (xI 0)), (0, .ref (aa 0)), (1, .int (xI a1)), (2, .int (xI x2_236)), (3, .int (xI x3_236))]) hx hb 5 rfl (by decide) rfl dX10_groups_278 ?_
                      refine gg_goto (tgt := 248) hx hb dX10_groups_281 rfl ?_
                      refine gg_lv [2, 3, 4, 5, 1, 0] rfl ?_
                      exact h
                    · have h := h.2.2.2 c268
                      refine gg_iconst hx hb dX10_groups_271 ?_
                      refine gg_goto (tgt := 276) hx hb dX10_groups_272 rfl ?_
                      refine gg_istore (lv' := [(4, .int (xI 1)), (0, .ref (aa 0)), (1, .int (xI a1)), (2, .int (xI x2_236)), (3, .int (xI x3_236)), (5, .int (xI x5_248))]) hx hb (by decide) rfl dX10_groups_276 ?_
                      refine gg_iinc (lv' := [(5, .int (xI (x5_248 + 2))), (4, .int (xI 1)), (0, .ref (aa 0)), (1, .int (xI a1)), (2, .int (xI x2_236)), (3, .int (xI x3_236))]) hx hb 5 rfl (by decide) rfl dX10_groups_278 ?_
                      refine gg_goto (tgt := 248) hx hb dX10_groups_281 rfl ?_
                      refine gg_lv [2, 3, 4, 5, 1, 0] rfl ?_
                      exact h)
              refine gg_lv [2, 3, 4, 5, 1, 0] rfl ?_
              exact h)
          refine gg_lv [2, 3, 1, 0] rfl ?_
          exact h
        · have h := h.2.2 c47
          refine gg_iconst hx hb dX10_groups_50 ?_
          refine gg_istore_n (lv' := [(3, .int (xI 0)), (0, .ref (aa 0)), (1, .int (xI a1)), (2, .int (xI x2_44))]) hx hb rfl (by decide) rfl dX10_groups_51 ?_
          have h := h (fun (x3_52 : Int) (s52 : xSt) => GG p l e rmX10_groups s m args below meth c (QI below D (cM aa cI cZ cJ) A args s Post) A D (cM aa cI cZ cJ) 9 s52 52 [(0, .ref (aa 0)), (1, .int (xI a1)), (2, .int (xI x2_44)), (3, .int (xI x3_52))] [])
          have h := h (by
            intro x3_52 s52 h
            refine gg_iload_n hx hb 3 rfl rfl dX10_groups_52 ?_
            refine gg_bipush hx hb dX10_groups_53 rfl ?_
            refine gg_icmp_ge (tgt := 226) hx hb h.1 (by decide) dX10_groups_55 rfl (fun c55 => ?_) (fun c55 => ?_)
            · have h := h.2.1 c55
              refine gg_iinc (lv' := [(2, .int (xI (x2_44 + 1))), (0, .ref (aa 0)), (1, .int (xI a1)), (3, .int (xI x3_52))]) hx hb 2 rfl (by decide) rfl dX10_groups_226 ?_
              refine gg_goto (tgt := 44) hx hb dX10_groups_229 rfl ?_
              refine gg_lv [1, 2, 0] rfl ?_
              exact h
            · have h := h.2.2 c55
              refine gg_iconst hx hb dX10_groups_58 ?_
              refine gg_istore (lv' := [(4, .int (xI 0)), (0, .ref (aa 0)), (1, .int (xI a1)), (2, .int (xI x2_44)), (3, .int (xI x3_52))]) hx hb (by decide) rfl dX10_groups_59 ?_
              have h := h (fun (x4_61 : Int) (s61 : xSt) => GG p l e rmX10_groups s m args below meth c (QI below D (cM aa cI cZ cJ) A args s Post) A D (cM aa cI cZ cJ) 9 s61 61 [(0, .ref (aa 0)), (1, .int (xI a1)), (2, .int (xI x2_44)), (3, .int (xI x3_52)), (4, .int (xI x4_61))] [])
              have h := h (by
                intro x4_61 s61 h
                refine gg_iload hx hb 4 rfl dX10_groups_61 ?_
                refine gg_bipush hx hb dX10_groups_63 rfl ?_
                refine gg_icmp_ge (tgt := 220) hx hb h.1 (by decide) dX10_groups_65 rfl (fun c65 => ?_) (fun c65 => ?_)
                · have h := h.2.1 c65
                  refine gg_iinc (lv' := [(3, .int (xI (x3_52 + 1))), (0, .ref (aa 0)), (1, .int (xI a1)), (2, .int (xI x2_44)), (4, .int (xI x4_61))]) hx hb 3 rfl (by decide) rfl dX10_groups_220 ?_
                  refine gg_goto (tgt := 52) hx hb dX10_groups_223 rfl ?_
                  refine gg_lv [1, 2, 3, 0] rfl ?_
                  exact h
                · have h := h.2.2 c65
                  refine gg_iload_n hx hb 3 rfl rfl dX10_groups_68 ?_
                  refine gg_iconst hx hb dX10_groups_69 ?_
                  refine gg_irem hx hb h.1 h.2.1 h.2.2.1 dX10_groups_70 ?_
                  have h := h.2.2.2
                  refine gg_iload hx hb 4 rfl dX10_groups_71 ?_
                  refine gg_iconst hx hb dX10_groups_73 ?_
                  refine gg_irem hx hb h.1 h.2.1 h.2.2.1 dX10_groups_74 ?_
                  have h := h.2.2.2
                  refine gg_isub hx hb dX10_groups_75 ?_
                  refine gg_callSip (As := [.int (xI ((Int.tmod x3_52 3) - (Int.tmod x4_61 3)))]) (rest := []) hx hb hml hown hts hK hZ hA (c_X10_size l D aa cI cZ cJ tR tU ((Int.tmod x3_52 3) - (Int.tmod x4_61 3)) s61 _ h) (va_cwS 1 hts gX10_groups_X10_size rfl rfl rfl hd_X10_size ⟨Nat.le_of_ble_eq_true rfl, Nat.le_of_ble_eq_true rfl⟩) rfl rfl (Nat.le_of_ble_eq_true rfl) dX10_groups_76 (fun r76 h => ?_)
                  refine gg_istore (lv' := [(5, .int (xI r76)), (0, .ref (aa 0)), (1, .int (xI a1)), (2, .int (xI x2_44)), (3, .int (xI x3_52)), (4, .int (xI x4_61))]) hx hb (by decide) rfl dX10_groups_79 ?_
                  refine gg_iload_n hx hb 4 rfl rfl dX10_groups_81 ?_
                  refine gg_iconst hx hb dX10_groups_82 ?_
                  refine gg_idiv hx hb h.1 h.2.1 h.2.2.1 dX10_groups_83 ?_
                  have h := h.2.2.2
                  refine gg_iload hx hb 5 rfl dX10_groups_84 ?_
                  refine gg_iconst hx hb dX10_groups_86 ?_
                  refine gg_idiv hx hb h.1 h.2.1 h.2.2.1 dX10_groups_87 ?_
                  have h := h.2.2.2
                  refine gg_isub hx hb dX10_groups_88 ?_
                  refine gg_callSip (As := [.int (xI ((Int.tdiv x3_52 3) - (Int.tdiv x4_61 3)))]) (rest := []) hx hb hml hown hts hK hZ hA (c_X10_size l D aa cI cZ cJ tR tU ((Int.tdiv x3_52 3) - (Int.tdiv x4_61 3)) s61 _ h) (va_cwS 1 hts gX10_groups_X10_size rfl rfl rfl hd_X10_size ⟨Nat.le_of_ble_eq_true rfl, Nat.le_of_ble_eq_true rfl⟩) rfl rfl (Nat.le_of_ble_eq_true rfl) dX10_groups_89 (fun r89 h => ?_)
                  refine gg_istore (lv' := [(6, .int (xI r89)), (5, .int (xI r76)), (0, .ref (aa 0)), (1, .int (xI a1)), (2, .int (xI x2_44)), (3, .int (xI x3_52)), (4, .int (xI x4_61))]) hx hb (by decide) rfl dX10_groups_92 ?_
                  refine gg_iload_n hx hb 3 rfl rfl dX10_groups_94 ?_
                  have h := h (fun (y0_132 : Int) => GG p l e rmX10_groups s m args below meth c (QI below D (cM aa cI cZ cJ) A args s Post) A D (cM aa cI cZ cJ) 9 s61 132 [(0, .ref (aa 0)), (1, .int (xI a1)), (2, .int (xI x2_44)), (3, .int (xI x3_52)), (4, .int (xI x4_61))] [.int (xI y0_132)])
                  have h := h (by
                    intro y0_132 h
                    refine gg_istore (lv' := [(7, .int (xI y0_132)), (0, .ref (aa 0)), (1, .int (xI a1)), (2, .int (xI x2_44)), (3, .int (xI x3_52)), (4, .int (xI x4_61))]) hx hb (by decide) rfl dX10_groups_132 ?_
                    refine gg_aload_n hx hb 1 rfl rfl dX10_groups_134 ?_
                    refine gg_get (C := RX10) (T := TX10) (N := 18) hx hb hts hown hK iX10_groups_X10 0 rfl rfl 14 (by decide) (List.mem_of_getElem? (i := 1) rfl) rfl dX10_groups_135 ?_
                    refine gg_iload_n hx hb 4 rfl rfl dX10_groups_138 ?_
                    refine gg_iald hx hb hK 11 0 rfl rfl (by decide) h.1 dX10_groups_139 ?_
                    have h := h.2
                    refine gg_sipush hx hb dX10_groups_140 rfl ?_
                    have h := h (fun (y0_169 : Int) => GG p l e rmX10_groups s m args below meth c (QI below D (cM aa cI cZ cJ) A args s Post) A D (cM aa cI cZ cJ) 9 s61 169 [(0, .ref (aa 0)), (1, .int (xI a1)), (2, .int (xI x2_44)), (3, .int (xI x3_52)), (4, .int (xI x4_61))] [.int (xI y0_169)])
                    have h := h (by
                      intro y0_169 h
                      refine gg_istore (lv' := [(8, .int (xI y0_169)), (0, .ref (aa 0)), (1, .int (xI a1)), (2, .int (xI x2_44)), (3, .int (xI x3_52)), (4, .int (xI x4_61))]) hx hb (by decide) rfl dX10_groups_169 ?_
                      refine gg_aload_n hx hb 1 rfl rfl dX10_groups_171 ?_
                      refine gg_get (C := RX10) (T := TX10) (N := 18) hx hb hts hown hK iX10_groups_X10 0 rfl rfl 14 (by decide) (List.mem_of_getElem? (i := 1) rfl) rfl dX10_groups_172 ?_
                      refine gg_iload_n hx hb 4 rfl rfl dX10_groups_175 ?_
                      refine gg_iload hx hb 0 rfl dX10_groups_176 ?_
                      refine gg_if_eq (tgt := 207) hx hb h.1 dX10_groups_178 rfl (fun c178 => ?_) (fun c178 => ?_)
                      · have h := h.2.1 c178
                        refine gg_aload_n hx hb 1 rfl rfl dX10_groups_207 ?_
                        refine gg_get (C := RX10) (T := TX10) (N := 18) hx hb hts hown hK iX10_groups_X10 0 rfl rfl 14 (by decide) (List.mem_of_getElem? (i := 1) rfl) rfl dX10_groups_208 ?_
                        refine gg_iload_n hx hb 4 rfl rfl dX10_groups_211 ?_
                        refine gg_iald hx hb hK 11 0 rfl rfl (by decide) h.1 dX10_groups_212 ?_
                        have h := h.2
                        refine gg_iast hx hb hK 11 0 rfl rfl (cM_st_11 aa cI cZ cJ _ _) (by decide) h.1 dX10_groups_213 (fun σ_213 e213 => ?_)
                        have h := h.2 σ_213 e213
                        refine gg_iinc (lv' := [(4, .int (xI (x4_61 + 1))), (8, .int (xI y0_169)), (0, .ref (aa 0)), (1, .int (xI a1)), (2, .int (xI x2_44)), (3, .int (xI x3_52))]) hx hb 5 rfl (by decide) rfl dX10_groups_214 ?_
                        refine gg_goto (tgt := 61) hx hb dX10_groups_217 rfl ?_
                        refine gg_lv [2, 3, 4, 5, 0] rfl ?_
                        exact h
                      · have h := h.2.2 c178
                        refine gg_aload_n hx hb 1 rfl rfl dX10_groups_181 ?_
                        refine gg_get (C := RX10) (T := TX10) (N := 18) hx hb hts hown hK iX10_groups_X10 0 rfl rfl 14 (by decide) (List.mem_of_getElem? (i := 1) rfl) rfl dX10_groups_182 ?_
                        refine gg_iload hx hb 5 rfl dX10_groups_185 ?_
                        refine gg_iald hx hb hK 11 0 rfl rfl (by decide) h.1 dX10_groups_187 ?_
                        have h := h.2
                        refine gg_aload_n hx hb 1 rfl rfl dX10_groups_188 ?_
                        refine gg_get (C := RX10) (T := TX10) (N := 18) hx hb hts hown hK iX10_groups_X10 0 rfl rfl 14 (by decide) (List.mem_of_getElem? (i := 1) rfl) rfl dX10_groups_189 ?_
                        refine gg_iload_n hx hb 4 rfl rfl dX10_groups_192 ?_
                        refine gg_iald hx hb hK 11 0 rfl rfl (by decide) h.1 dX10_groups_193 ?_
                        have h := h.2
                        refine gg_icmp_ge (tgt := 207) hx hb h.1 h.2.1 dX10_groups_194 rfl (fun c194 => ?_) (fun c194 => ?_)
                        · have h := h.2.2.1 c194
                          refine gg_aload_n hx hb 1 rfl rfl dX10_groups_207 ?_
                          refine gg_get (C := RX10) (T := TX10) (N := 18) hx hb hts hown hK iX10_groups_X10 0 rfl rfl 14 (by decide) (List.mem_of_getElem? (i := 1) rfl) rfl dX10_groups_208 ?_
                          refine gg_iload_n hx hb 4 rfl rfl dX10_groups_211 ?_
                          refine gg_iald hx hb hK 11 0 rfl rfl (by decide) h.1 dX10_groups_212 ?_
                          have h := h.2
                          refine gg_iast hx hb hK 11 0 rfl rfl (cM_st_11 aa cI cZ cJ _ _) (by decide) h.1 dX10_groups_213 (fun σ_213 e213 => ?_)
                          have h := h.2 σ_213 e213
                          refine gg_iinc (lv' := [(4, .int (xI (x4_61 + 1))), (8, .int (xI y0_169)), (0, .ref (aa 0)), (1, .int (xI a1)), (2, .int (xI x2_44)), (3, .int (xI x3_52))]) hx hb 5 rfl (by decide) rfl dX10_groups_214 ?_
                          refine gg_goto (tgt := 61) hx hb dX10_groups_217 rfl ?_
                          refine gg_lv [2, 3, 4, 5, 0] rfl ?_
                          exact h
                        · have h := h.2.2.2 c194
                          refine gg_aload_n hx hb 1 rfl rfl dX10_groups_197 ?_
                          refine gg_get (C := RX10) (T := TX10) (N := 18) hx hb hts hown hK iX10_groups_X10 0 rfl rfl 14 (by decide) (List.mem_of_getElem? (i := 1) rfl) rfl dX10_groups_198 ?_
                          refine gg_iload hx hb 5 rfl dX10_groups_201 ?_
                          refine gg_iald hx hb hK 11 0 rfl rfl (by decide) h.1 dX10_groups_203 ?_
                          have h := h.2
                          refine gg_goto (tgt := 213) hx hb dX10_groups_204 rfl ?_
                          refine gg_iast hx hb hK 11 0 rfl rfl (cM_st_11 aa cI cZ cJ _ _) (by decide) h.1 dX10_groups_213 (fun σ_213 e213 => ?_)
                          have h := h.2 σ_213 e213
                          refine gg_iinc (lv' := [(4, .int (xI (x4_61 + 1))), (8, .int (xI y0_169)), (0, .ref (aa 0)), (1, .int (xI a1)), (2, .int (xI x2_44)), (3, .int (xI x3_52))]) hx hb 5 rfl (by decide) rfl dX10_groups_214 ?_
                          refine gg_goto (tgt := 61) hx hb dX10_groups_217 rfl ?_
                          refine gg_lv [2, 3, 4, 5, 0] rfl ?_
                          exact h)
                    refine gg_icmp_eq (tgt := 168) hx hb h.1 (by decide) dX10_groups_143 rfl (fun c143 => ?_) (fun c143 => ?_)
                    · have h := h.2.1 c143
                      refine gg_iconst hx hb dX10_groups_168 ?_
                      refine gg_lv [1, 2, 3, 4, 5] rfl ?_
                      exact h
                    · have h := h.2.2 c143
                      refine gg_aload_n hx hb 1 rfl rfl dX10_groups_146 ?_
                      refine gg_get (C := RX10) (T := TX10) (N := 18) hx hb hts hown hK iX10_groups_X10 0 rfl rfl 14 (by decide) (List.mem_of_getElem? (i := 1) rfl) rfl dX10_groups_147 ?_
                      refine gg_iload hx hb 5 rfl dX10_groups_150 ?_
                      refine gg_iald hx hb hK 11 0 rfl rfl (by decide) h.1 dX10_groups_152 ?_
                      have h := h.2
                      refine gg_sipush hx hb dX10_groups_153 rfl ?_
                      refine gg_icmp_eq (tgt := 168) hx hb h.1 (by decide) dX10_groups_156 rfl (fun c156 => ?_) (fun c156 => ?_)
                      · have h := h.2.1 c156
                        refine gg_iconst hx hb dX10_groups_168 ?_
                        refine gg_lv [1, 2, 3, 4, 5] rfl ?_
                        exact h
                      · have h := h.2.2 c156
                        refine gg_iload hx hb 0 rfl dX10_groups_159 ?_
                        refine gg_if_eq (tgt := 168) hx hb h.1 dX10_groups_161 rfl (fun c161 => ?_) (fun c161 => ?_)
                        · have h := h.2.1 c161
                          refine gg_iconst hx hb dX10_groups_168 ?_
                          refine gg_lv [1, 2, 3, 4, 5] rfl ?_
                          exact h
                        · have h := h.2.2 c161
                          refine gg_iconst hx hb dX10_groups_164 ?_
                          refine gg_goto (tgt := 169) hx hb dX10_groups_165 rfl ?_
                          refine gg_lv [1, 2, 3, 4, 5] rfl ?_
                          exact h)
                  refine gg_if_eq (tgt := 118) hx hb h.1 dX10_groups_95 rfl (fun c95 => ?_) (fun c95 => ?_)
                  · have h := h.2.1 c95
                    refine gg_iload hx hb 1 rfl dX10_groups_118 ?_
                    refine gg_iload hx hb 0 rfl dX10_groups_120 ?_
                    refine gg_iadd hx hb dX10_groups_122 ?_
                    refine gg_iconst hx hb dX10_groups_123 ?_
                    refine gg_icmp_ne (tgt := 131) hx hb h.1 (by decide) dX10_groups_124 rfl (fun c124 => ?_) (fun c124 => ?_)
                    · have h := h.2.1 c124
                      refine gg_iconst hx hb dX10_groups_131 ?_
                      refine gg_lv [2, 3, 4, 5, 6] rfl ?_
                      exact h
                    · have h := h.2.2 c124
                      refine gg_iconst hx hb dX10_groups_127 ?_
                      refine gg_goto (tgt := 132) hx hb dX10_groups_128 rfl ?_
                      refine gg_lv [2, 3, 4, 5, 6] rfl ?_
                      exact h
                  · have h := h.2.2 c95
                    refine gg_iload hx hb 1 rfl dX10_groups_98 ?_
                    refine gg_iconst hx hb dX10_groups_100 ?_
                    refine gg_icmp_ge (tgt := 114) hx hb h.1 (by decide) dX10_groups_101 rfl (fun c101 => ?_) (fun c101 => ?_)
                    · have h := h.2.1 c101
                      refine gg_iconst hx hb dX10_groups_114 ?_
                      refine gg_goto (tgt := 132) hx hb dX10_groups_115 rfl ?_
                      refine gg_lv [2, 3, 4, 5, 6] rfl ?_
                      exact h
                    · have h := h.2.2 c101
                      refine gg_iload hx hb 0 rfl dX10_groups_104 ?_
                      refine gg_iconst hx hb dX10_groups_106 ?_
                      refine gg_icmp_ge (tgt := 114) hx hb h.1 (by decide) dX10_groups_107 rfl (fun c107 => ?_) (fun c107 => ?_)
                      · have h := h.2.1 c107
                        refine gg_iconst hx hb dX10_groups_114 ?_
                        refine gg_goto (tgt := 132) hx hb dX10_groups_115 rfl ?_
                        refine gg_lv [2, 3, 4, 5, 6] rfl ?_
                        exact h
                      · have h := h.2.2 c107
                        refine gg_iconst hx hb dX10_groups_110 ?_
                        refine gg_goto (tgt := 132) hx hb dX10_groups_111 rfl ?_
                        refine gg_lv [2, 3, 4, 5, 6] rfl ?_
                        exact h)
              refine gg_lv [1, 2, 3, 4, 0] rfl ?_
              exact h)
          refine gg_lv [1, 2, 3, 0] rfl ?_
          exact h)
      refine gg_lv [1, 2, 0] rfl ?_
      exact h
    · have h := h.2.2 c5
      refine gg_aload_n hx hb 0 rfl rfl dX10_groups_8 ?_
      refine gg_get (C := RX10) (T := TX10) (N := 18) hx hb hts hown hK iX10_groups_X10 0 rfl rfl 14 (by decide) (List.mem_of_getElem? (i := 1) rfl) rfl dX10_groups_9 ?_
      refine gg_iload_n hx hb 2 rfl rfl dX10_groups_12 ?_
      refine gg_iload_n hx hb 2 rfl rfl dX10_groups_13 ?_
      refine gg_iconst hx hb dX10_groups_14 ?_
      refine gg_icmp_eq (tgt := 32) hx hb h.1 (by decide) dX10_groups_15 rfl (fun c15 => ?_) (fun c15 => ?_)
      · have h := h.2.1 c15
        refine gg_sipush hx hb dX10_groups_32 rfl ?_
        refine gg_iast hx hb hK 11 0 rfl rfl (cM_st_11 aa cI cZ cJ _ _) (by decide) h.1 dX10_groups_35 (fun σ_35 e35 => ?_)
        have h := h.2 σ_35 e35
        refine gg_iinc (lv' := [(2, .int (xI (x2_2 + 1))), (0, .ref (aa 0)), (1, .int (xI a1))]) hx hb 2 rfl (by decide) rfl dX10_groups_36 ?_
        refine gg_goto (tgt := 2) hx hb dX10_groups_39 rfl ?_
        refine gg_lv [1, 2, 0] rfl ?_
        exact h
      · have h := h.2.2 c15
        refine gg_aload_n hx hb 0 rfl rfl dX10_groups_18 ?_
        refine gg_get (C := RX10) (T := TX10) (N := 18) hx hb hts hown hK iX10_groups_X10 0 rfl rfl 13 (by decide) (List.mem_of_getElem? (i := 2) rfl) rfl dX10_groups_19 ?_
        refine gg_iload_n hx hb 2 rfl rfl dX10_groups_22 ?_
        refine gg_zald hx hb hK 10 1 rfl rfl (by decide) h.1 dX10_groups_23 ?_
        have h := h.2
        refine gg_iload_n hx hb 1 rfl rfl dX10_groups_24 ?_
        refine gg_icmp_ne (tgt := 32) hx hb h.1 h.2.1 dX10_groups_25 rfl (fun c25 => ?_) (fun c25 => ?_)
        · have h := h.2.2.1 c25
          refine gg_sipush hx hb dX10_groups_32 rfl ?_
          refine gg_iast hx hb hK 11 0 rfl rfl (cM_st_11 aa cI cZ cJ _ _) (by decide) h.1 dX10_groups_35 (fun σ_35 e35 => ?_)
          have h := h.2 σ_35 e35
          refine gg_iinc (lv' := [(2, .int (xI (x2_2 + 1))), (0, .ref (aa 0)), (1, .int (xI a1))]) hx hb 2 rfl (by decide) rfl dX10_groups_36 ?_
          refine gg_goto (tgt := 2) hx hb dX10_groups_39 rfl ?_
          refine gg_lv [1, 2, 0] rfl ?_
          exact h
        · have h := h.2.2.2 c25
          refine gg_iload_n hx hb 2 rfl rfl dX10_groups_28 ?_
          refine gg_goto (tgt := 35) hx hb dX10_groups_29 rfl ?_
          refine gg_iast hx hb hK 11 0 rfl rfl (cM_st_11 aa cI cZ cJ _ _) (by decide) h.1 dX10_groups_35 (fun σ_35 e35 => ?_)
          have h := h.2 σ_35 e35
          refine gg_iinc (lv' := [(2, .int (xI (x2_2 + 1))), (0, .ref (aa 0)), (1, .int (xI a1))]) hx hb 2 rfl (by decide) rfl dX10_groups_36 ?_
          refine gg_goto (tgt := 2) hx hb dX10_groups_39 rfl ?_
          refine gg_lv [1, 2, 0] rfl ?_
          exact h)
  refine gg_lv [1, 2, 0] rfl ?_
  exact h
abbrev rmX10_lookAbout : Room := { frames := 3, cells := 0, slots := 0, locals := 69 }
theorem iX10_lookAbout_X10 : ∀ w ∈ u_ws RX10 TX10 18, w ∈ wsX10_lookAbout := (fun _ h => List.mem_cons_of_mem _ (List.mem_append_right _ h))
theorem hd_X10_lookAbout : (yX10_lookAbout.cls = RX10 ∧ yX10_lookAbout.cls ≠ "java/lang/invoke/MethodHandle" ∧ yX10_lookAbout.cls ≠ "java/lang/invoke/VarHandle" ∧ (parseMethodDescriptor yX10_lookAbout.desc).map (fun d => d.parameters.length) = some 1) := by decide +kernel
set_option maxRecDepth 100000 in
set_option maxHeartbeats 4000000 in
theorem c_X10_lookAbout (l : Launch) (D : va_G) (aa : Nat → Nat) (cI cZ cJ : ClassId) (tR tU : Nat) (a1 : Int) (σ : xSt) (Post : Int → xSt → Prop) (h : wp_X10_lookAbout a1 σ Post) : MI l D (tyL cI cZ cJ) (cM aa cI cZ cJ) tR tU yX10_lookAbout wsX10_lookAbout rmX10_lookAbout [.ref (aa 0), .int (xI a1)] σ Post := by
  refine mi_of (cc := cX10_lookAbout) (maxL := 4) (ret := (some .int)) (by decide) rfl (Nat.le_of_ble_eq_true rfl) ?_
  intro p e s m args below meth c A hF
  obtain ⟨hx, hb, hr, hml, hown, hts, hlk, hK, hZ, hA⟩ := hF
  have hown : s.vm.findClass RX10 = some m.cls := hown
  delta wp_X10_lookAbout at h
  refine gg_lv (lv' := [(0, .ref (aa 0)), (1, .int (xI a1))]) [0, 1] rfl ?_
  refine gg_iconst hx hb dX10_lookAbout_0 ?_
  refine gg_istore_n (lv' := [(2, .int (xI 0)), (0, .ref (aa 0)), (1, .int (xI a1))]) hx hb rfl (by decide) rfl dX10_lookAbout_1 ?_
  refine gg_iconst hx hb dX10_lookAbout_2 ?_
  refine gg_istore_n (lv' := [(3, .int (xI 0)), (2, .int (xI 0)), (0, .ref (aa 0)), (1, .int (xI a1))]) hx hb rfl (by decide) rfl dX10_lookAbout_3 ?_
  have h := h (fun (x2_4 x3_4 : Int) (s4 : xSt) => GG p l e rmX10_lookAbout s m args below meth c (QI below D (cM aa cI cZ cJ) A args s Post) A D (cM aa cI cZ cJ) 4 s4 4 [(0, .ref (aa 0)), (1, .int (xI a1)), (2, .int (xI x2_4)), (3, .int (xI x3_4))] [])
  have h := h (by
    intro x2_4 x3_4 s4 h
    refine gg_iload_n hx hb 3 rfl rfl dX10_lookAbout_4 ?_
    refine gg_bipush hx hb dX10_lookAbout_5 rfl ?_
    refine gg_icmp_ge (tgt := 72) hx hb h.1 (by decide) dX10_lookAbout_7 rfl (fun c7 => ?_) (fun c7 => ?_)
    · have h := h.2.1 c7
      refine gg_iload_n hx hb 2 rfl rfl dX10_lookAbout_72 ?_
      exact gg_iret hx hb hr hlk h dX10_lookAbout_73
    · have h := h.2.2 c7
      refine gg_aload_n hx hb 0 rfl rfl dX10_lookAbout_10 ?_
      refine gg_get (C := RX10) (T := TX10) (N := 18) hx hb hts hown hK iX10_lookAbout_X10 0 rfl rfl 13 (by decide) (List.mem_of_getElem? (i := 1) rfl) rfl dX10_lookAbout_11 ?_
      refine gg_iload_n hx hb 3 rfl rfl dX10_lookAbout_14 ?_
      refine gg_aload_n hx hb 0 rfl rfl dX10_lookAbout_15 ?_
      refine gg_iload_n hx hb 1 rfl rfl dX10_lookAbout_16 ?_
      refine gg_aload_n hx hb 0 rfl rfl dX10_lookAbout_17 ?_
      refine gg_get (C := RX10) (T := TX10) (N := 18) hx hb hts hown hK iX10_lookAbout_X10 0 rfl rfl 5 (by decide) (List.mem_of_getElem? (i := 2) rfl) rfl dX10_lookAbout_18 ?_
      refine gg_irem hx hb h.1 h.2.1 h.2.2.1 dX10_lookAbout_21 ?_
      have h := h.2.2.2
      refine gg_iload_n hx hb 3 rfl rfl dX10_lookAbout_22 ?_
      refine gg_iconst hx hb dX10_lookAbout_23 ?_
      refine gg_irem hx hb h.1 h.2.1 h.2.2.1 dX10_lookAbout_24 ?_
      have h := h.2.2.2
      refine gg_iadd hx hb dX10_lookAbout_25 ?_
      refine gg_iconst hx hb dX10_lookAbout_26 ?_
      refine gg_isub hx hb dX10_lookAbout_27 ?_
      refine gg_iload_n hx hb 1 rfl rfl dX10_lookAbout_28 ?_
      refine gg_aload_n hx hb 0 rfl rfl dX10_lookAbout_29 ?_
      refine gg_get (C := RX10) (T := TX10) (N := 18) hx hb hts hown hK iX10_lookAbout_X10 0 rfl rfl 5 (by decide) (List.mem_of_getElem? (i := 2) rfl) rfl dX10_lookAbout_30 ?_
      refine gg_idiv hx hb h.1 h.2.1 h.2.2.1 dX10_lookAbout_33 ?_
      have h := h.2.2.2
      refine gg_iload_n hx hb 3 rfl rfl dX10_lookAbout_34 ?_
      refine gg_iconst hx hb dX10_lookAbout_35 ?_
      refine gg_idiv hx hb h.1 h.2.1 h.2.2.1 dX10_lookAbout_36 ?_
      have h := h.2.2.2
      refine gg_iadd hx hb dX10_lookAbout_37 ?_
      refine gg_iconst hx hb dX10_lookAbout_38 ?_
      refine gg_isub hx hb dX10_lookAbout_39 ?_
      refine gg_callVip (As := [.int (xI (((Int.tmod a1 (s4 0 5)) + (Int.tmod x3_4 3)) - 1)), .int (xI (((Int.tdiv a1 (s4 0 5)) + (Int.tdiv x3_4 3)) - 1))]) (rest := [.int (xI x3_4), .ref (aa 10)]) hx hb hml hown hts hK hZ hA (c_X10_isOf l D aa cI cZ cJ tR tU (((Int.tmod a1 (s4 0 5)) + (Int.tmod x3_4 3)) - 1) (((Int.tdiv a1 (s4 0 5)) + (Int.tdiv x3_4 3)) - 1) s4 _ h) (cwV 2 hts gX10_lookAbout_X10_isOf rfl rfl rfl hd_X10_isOf ⟨Nat.le_of_ble_eq_true rfl, Nat.le_of_ble_eq_true rfl⟩) 0 rfl rfl rfl rfl (Nat.le_of_ble_eq_true rfl) dX10_lookAbout_40 (fun r40 h => ?_)
      refine gg_zast hx hb hK 10 1 rfl rfl (cM_st_10 aa cI cZ cJ _ _) (by decide) h.1 h.2.1 dX10_lookAbout_43 (fun σ_43 e43 => ?_)
      have h := h.2.2 σ_43 e43
      refine gg_iload_n hx hb 2 rfl rfl dX10_lookAbout_44 ?_
      refine gg_iload_n hx hb 3 rfl rfl dX10_lookAbout_45 ?_
      refine gg_iconst hx hb dX10_lookAbout_46 ?_
      refine gg_icmp_eq (tgt := 63) hx hb h.1 (by decide) dX10_lookAbout_47 rfl (fun c47 => ?_) (fun c47 => ?_)
      · have h := h.2.1 c47
        refine gg_iconst hx hb dX10_lookAbout_63 ?_
        refine gg_iadd hx hb dX10_lookAbout_64 ?_
        refine gg_istore_n (lv' := [(2, .int (xI (x2_4 + 0))), (0, .ref (aa 0)), (1, .int (xI a1)), (3, .int (xI x3_4))]) hx hb rfl (by decide) rfl dX10_lookAbout_65 ?_
        refine gg_iinc (lv' := [(3, .int (xI (x3_4 + 1))), (2, .int (xI (x2_4 + 0))), (0, .ref (aa 0)), (1, .int (xI a1))]) hx hb 3 rfl (by decide) rfl dX10_lookAbout_66 ?_
        refine gg_goto (tgt := 4) hx hb dX10_lookAbout_69 rfl ?_
        refine gg_lv [2, 3, 1, 0] rfl ?_
        exact h
      · have h := h.2.2 c47
        refine gg_aload_n hx hb 0 rfl rfl dX10_lookAbout_50 ?_
        refine gg_get (C := RX10) (T := TX10) (N := 18) hx hb hts hown hK iX10_lookAbout_X10 0 rfl rfl 13 (by decide) (List.mem_of_getElem? (i := 1) rfl) rfl dX10_lookAbout_51 ?_
        refine gg_iload_n hx hb 3 rfl rfl dX10_lookAbout_54 ?_
        refine gg_zald hx hb hK 10 1 rfl rfl (by decide) h.1 dX10_lookAbout_55 ?_
        have h := h.2
        refine gg_if_eq (tgt := 63) hx hb h.1 dX10_lookAbout_56 rfl (fun c56 => ?_) (fun c56 => ?_)
        · have h := h.2.1 c56
          refine gg_iconst hx hb dX10_lookAbout_63 ?_
          refine gg_iadd hx hb dX10_lookAbout_64 ?_
          refine gg_istore_n (lv' := [(2, .int (xI (x2_4 + 0))), (0, .ref (aa 0)), (1, .int (xI a1)), (3, .int (xI x3_4))]) hx hb rfl (by decide) rfl dX10_lookAbout_65 ?_
          refine gg_iinc (lv' := [(3, .int (xI (x3_4 + 1))), (2, .int (xI (x2_4 + 0))), (0, .ref (aa 0)), (1, .int (xI a1))]) hx hb 3 rfl (by decide) rfl dX10_lookAbout_66 ?_
          refine gg_goto (tgt := 4) hx hb dX10_lookAbout_69 rfl ?_
          refine gg_lv [2, 3, 1, 0] rfl ?_
          exact h
        · have h := h.2.2 c56
          refine gg_iconst hx hb dX10_lookAbout_59 ?_
          refine gg_goto (tgt := 64) hx hb dX10_lookAbout_60 rfl ?_
          refine gg_iadd hx hb dX10_lookAbout_64 ?_
          refine gg_istore_n (lv' := [(2, .int (xI (x2_4 + 1))), (0, .ref (aa 0)), (1, .int (xI a1)), (3, .int (xI x3_4))]) hx hb rfl (by decide) rfl dX10_lookAbout_65 ?_
          refine gg_iinc (lv' := [(3, .int (xI (x3_4 + 1))), (2, .int (xI (x2_4 + 1))), (0, .ref (aa 0)), (1, .int (xI a1))]) hx hb 3 rfl (by decide) rfl dX10_lookAbout_66 ?_
          refine gg_goto (tgt := 4) hx hb dX10_lookAbout_69 rfl ?_
          refine gg_lv [2, 3, 1, 0] rfl ?_
          exact h)
  refine gg_lv [2, 3, 1, 0] rfl ?_
  exact h
abbrev rmX10_isLoose : Room := { frames := 4, cells := 0, slots := 0, locals := 92 }
theorem iX10_isLoose_X10 : ∀ w ∈ u_ws RX10 TX10 18, w ∈ wsX10_isLoose := (fun _ h => List.mem_cons_of_mem _ (List.mem_append_right _ h))
theorem hd_X10_isLoose : (yX10_isLoose.cls = RX10 ∧ yX10_isLoose.cls ≠ "java/lang/invoke/MethodHandle" ∧ yX10_isLoose.cls ≠ "java/lang/invoke/VarHandle" ∧ (parseMethodDescriptor yX10_isLoose.desc).map (fun d => d.parameters.length) = some 1) := by decide +kernel
set_option maxRecDepth 100000 in
set_option maxHeartbeats 4000000 in
theorem c_X10_isLoose (l : Launch) (D : va_G) (aa : Nat → Nat) (cI cZ cJ : ClassId) (tR tU : Nat) (a1 : Int) (σ : xSt) (Post : Int → xSt → Prop) (h : wp_X10_isLoose a1 σ Post) : MI l D (tyL cI cZ cJ) (cM aa cI cZ cJ) tR tU yX10_isLoose wsX10_isLoose rmX10_isLoose [.ref (aa 0), .int (xI a1)] σ Post := by
  refine mi_of (cc := cX10_isLoose) (maxL := 2) (ret := (some .boolean)) (by decide) rfl (Nat.le_of_ble_eq_true rfl) ?_
  intro p e s m args below meth c A hF
  obtain ⟨hx, hb, hr, hml, hown, hts, hlk, hK, hZ, hA⟩ := hF
  have hown : s.vm.findClass RX10 = some m.cls := hown
  delta wp_X10_isLoose at h
  refine gg_lv (lv' := [(0, .ref (aa 0)), (1, .int (xI a1))]) [0, 1] rfl ?_
  refine gg_aload_n hx hb 0 rfl rfl dX10_isLoose_0 ?_
  refine gg_iload_n hx hb 1 rfl rfl dX10_isLoose_1 ?_
  refine gg_callVi (As := [.int (xI a1)]) (rest := []) hx hb hml hown hts hK hZ hA (c_X10_lookAbout l D aa cI cZ cJ tR tU a1 σ _ h) (cwV 1 hts gX10_isLoose_X10_lookAbout rfl rfl rfl hd_X10_lookAbout ⟨Nat.le_of_ble_eq_true rfl, Nat.le_of_ble_eq_true rfl⟩) 0 rfl rfl rfl rfl (Nat.le_of_ble_eq_true rfl) dX10_isLoose_2 (fun r2 t2 h => ?_)
  refine gg_pop hx hb rfl dX10_isLoose_5 ?_
  refine gg_aload_n hx hb 0 rfl rfl dX10_isLoose_6 ?_
  refine gg_get (C := RX10) (T := TX10) (N := 18) hx hb hts hown hK iX10_isLoose_X10 0 rfl rfl 7 (by decide) (List.mem_of_getElem? (i := 1) rfl) rfl dX10_isLoose_7 ?_
  refine gg_iload_n hx hb 1 rfl rfl dX10_isLoose_10 ?_
  refine gg_zald hx hb hK 4 1 rfl rfl (by decide) h.1 dX10_isLoose_11 ?_
  have h := h.2
  refine gg_if_eq (tgt := 37) hx hb h.1 dX10_isLoose_12 rfl (fun c12 => ?_) (fun c12 => ?_)
  · have h := h.2.1 c12
    refine gg_iconst hx hb dX10_isLoose_37 ?_
    exact gg_zret hx hb hr hlk (Or.inl rfl) h dX10_isLoose_38
  · have h := h.2.2 c12
    refine gg_aload_n hx hb 0 rfl rfl dX10_isLoose_15 ?_
    refine gg_iconst hx hb dX10_isLoose_16 ?_
    refine gg_callVi (As := [.int (xI 1)]) (rest := []) hx hb hml hown hts hK hZ hA (c_X10_groups l D aa cI cZ cJ tR tU 1 t2 _ h) (cwV 1 hts gX10_isLoose_X10_groups rfl rfl rfl hd_X10_groups ⟨Nat.le_of_ble_eq_true rfl, Nat.le_of_ble_eq_true rfl⟩) 0 rfl rfl rfl rfl (Nat.le_of_ble_eq_true rfl) dX10_isLoose_17 (fun r17 t17 h => ?_)
    refine gg_iconst hx hb dX10_isLoose_20 ?_
    refine gg_icmp_ne (tgt := 37) hx hb h.1 (by decide) dX10_isLoose_21 rfl (fun c21 => ?_) (fun c21 => ?_)
    · have h := h.2.1 c21
      refine gg_iconst hx hb dX10_isLoose_37 ?_
      exact gg_zret hx hb hr hlk (Or.inl rfl) h dX10_isLoose_38
    · have h := h.2.2 c21
      refine gg_aload_n hx hb 0 rfl rfl dX10_isLoose_24 ?_
      refine gg_iconst hx hb dX10_isLoose_25 ?_
      refine gg_callVi (As := [.int (xI 0)]) (rest := []) hx hb hml hown hts hK hZ hA (c_X10_groups l D aa cI cZ cJ tR tU 0 t17 _ h) (cwV 1 hts gX10_isLoose_X10_groups rfl rfl rfl hd_X10_groups ⟨Nat.le_of_ble_eq_true rfl, Nat.le_of_ble_eq_true rfl⟩) 0 rfl rfl rfl rfl (Nat.le_of_ble_eq_true rfl) dX10_isLoose_26 (fun r26 t26 h => ?_)
      refine gg_iconst hx hb dX10_isLoose_29 ?_
      refine gg_icmp_ne (tgt := 37) hx hb h.1 (by decide) dX10_isLoose_30 rfl (fun c30 => ?_) (fun c30 => ?_)
      · have h := h.2.1 c30
        refine gg_iconst hx hb dX10_isLoose_37 ?_
        exact gg_zret hx hb hr hlk (Or.inl rfl) h dX10_isLoose_38
      · have h := h.2.2 c30
        refine gg_iconst hx hb dX10_isLoose_33 ?_
        refine gg_goto (tgt := 38) hx hb dX10_isLoose_34 rfl ?_
        exact gg_zret hx hb hr hlk (Or.inr rfl) h dX10_isLoose_38
abbrev rmX10_loose : Room := { frames := 5, cells := 0, slots := 0, locals := 113 }
theorem iX10_loose_X10 : ∀ w ∈ u_ws RX10 TX10 18, w ∈ wsX10_loose := (fun _ h => List.mem_cons_of_mem _ (List.mem_append_right _ h))
theorem hd_X10_loose : (yX10_loose.cls = RX10 ∧ yX10_loose.cls ≠ "java/lang/invoke/MethodHandle" ∧ yX10_loose.cls ≠ "java/lang/invoke/VarHandle" ∧ (parseMethodDescriptor yX10_loose.desc).map (fun d => d.parameters.length) = some 1) := by decide +kernel
set_option maxRecDepth 100000 in
set_option maxHeartbeats 4000000 in
theorem c_X10_loose (l : Launch) (D : va_G) (aa : Nat → Nat) (cI cZ cJ : ClassId) (tR tU : Nat) (a1 : Int) (σ : xSt) (Post : Int → xSt → Prop) (h : wp_X10_loose a1 σ Post) : MI l D (tyL cI cZ cJ) (cM aa cI cZ cJ) tR tU yX10_loose wsX10_loose rmX10_loose [.ref (aa 0), .int (xI a1)] σ Post := by
  refine mi_of (cc := cX10_loose) (maxL := 2) (ret := (some .int)) (by decide) rfl (Nat.le_of_ble_eq_true rfl) ?_
  intro p e s m args below meth c A hF
  obtain ⟨hx, hb, hr, hml, hown, hts, hlk, hK, hZ, hA⟩ := hF
  have hown : s.vm.findClass RX10 = some m.cls := hown
  delta wp_X10_loose at h
  refine gg_lv (lv' := [(0, .ref (aa 0)), (1, .int (xI a1))]) [0, 1] rfl ?_
  refine gg_aload_n hx hb 0 rfl rfl dX10_loose_0 ?_
  refine gg_iconst hx hb dX10_loose_1 ?_
  refine gg_put (C := RX10) (T := TX10) (N := 18) hx hb hts hown hK iX10_loose_X10 tyX10 tyX10_ok nmX10 0 rfl rfl 0 (by decide) (List.mem_of_getElem? (i := 1) rfl) rfl rfl (Nat.le_of_ble_eq_true rfl) (cM_set_0_0 aa cI cZ cJ _ _) dX10_loose_2 (fun σ_2 e2 => ?_)
  have h := h σ_2 e2
  refine gg_aload_n hx hb 0 rfl rfl dX10_loose_5 ?_
  refine gg_iload_n hx hb 1 rfl rfl dX10_loose_6 ?_
  refine gg_callVip (As := [.int (xI a1)]) (rest := []) hx hb hml hown hts hK hZ hA (c_X10_noField l D aa cI cZ cJ tR tU a1 σ_2 _ h) (cwV 1 hts gX10_loose_X10_noField rfl rfl rfl hd_X10_noField ⟨Nat.le_of_ble_eq_true rfl, Nat.le_of_ble_eq_true rfl⟩) 0 rfl rfl rfl rfl (Nat.le_of_ble_eq_true rfl) dX10_loose_7 (fun r7 h => ?_)
  refine gg_if_eq (tgt := 19) hx hb h.1 dX10_loose_10 rfl (fun c10 => ?_) (fun c10 => ?_)
  · have h := h.2.1 c10
    refine gg_aload_n hx hb 0 rfl rfl dX10_loose_19 ?_
    refine gg_iload_n hx hb 1 rfl rfl dX10_loose_20 ?_
    refine gg_callVi (As := [.int (xI a1)]) (rest := []) hx hb hml hown hts hK hZ hA (c_X10_isLoose l D aa cI cZ cJ tR tU a1 σ_2 _ h) (cwV 1 hts gX10_loose_X10_isLoose rfl rfl rfl hd_X10_isLoose ⟨Nat.le_of_ble_eq_true rfl, Nat.le_of_ble_eq_true rfl⟩) 0 rfl rfl rfl rfl (Nat.le_of_ble_eq_true rfl) dX10_loose_21 (fun r21 t21 h => ?_)
    refine gg_if_eq (tgt := 31) hx hb h.1 dX10_loose_24 rfl (fun c24 => ?_) (fun c24 => ?_)
    · have h := h.2.1 c24
      refine gg_iconst hx hb dX10_loose_31 ?_
      exact gg_iret hx hb hr hlk h dX10_loose_32
    · have h := h.2.2 c24
      refine gg_iconst hx hb dX10_loose_27 ?_
      refine gg_goto (tgt := 32) hx hb dX10_loose_28 rfl ?_
      exact gg_iret hx hb hr hlk h dX10_loose_32
  · have h := h.2.2 c10
    refine gg_sipush hx hb dX10_loose_13 rfl ?_
    refine gg_goto (tgt := 32) hx hb dX10_loose_16 rfl ?_
    exact gg_iret hx hb hr hlk h dX10_loose_32
abbrev rmX10_thinOnce : Room := { frames := 5, cells := 0, slots := 0, locals := 113 }
theorem iX10_thinOnce_X10 : ∀ w ∈ u_ws RX10 TX10 18, w ∈ wsX10_thinOnce := (fun _ h => List.mem_cons_of_mem _ (List.mem_append_right _ h))
theorem hd_X10_thinOnce : (yX10_thinOnce.cls = RX10 ∧ yX10_thinOnce.cls ≠ "java/lang/invoke/MethodHandle" ∧ yX10_thinOnce.cls ≠ "java/lang/invoke/VarHandle" ∧ (parseMethodDescriptor yX10_thinOnce.desc).map (fun d => d.parameters.length) = some 0) := by decide +kernel
set_option maxRecDepth 100000 in
set_option maxHeartbeats 4000000 in
theorem c_X10_thinOnce (l : Launch) (D : va_G) (aa : Nat → Nat) (cI cZ cJ : ClassId) (tR tU : Nat) (σ : xSt) (Post : Int → xSt → Prop) (h : wp_X10_thinOnce σ Post) : MI l D (tyL cI cZ cJ) (cM aa cI cZ cJ) tR tU yX10_thinOnce wsX10_thinOnce rmX10_thinOnce [.ref (aa 0)] σ Post := by
  refine mi_of (cc := cX10_thinOnce) (maxL := 4) (ret := (some .int)) (by decide) rfl (Nat.le_of_ble_eq_true rfl) ?_
  intro p e s m args below meth c A hF
  obtain ⟨hx, hb, hr, hml, hown, hts, hlk, hK, hZ, hA⟩ := hF
  have hown : s.vm.findClass RX10 = some m.cls := hown
  delta wp_X10_thinOnce at h
  refine gg_lv (lv' := [(0, .ref (aa 0))]) [0] rfl ?_
  refine gg_iconst hx hb dX10_thinOnce_0 ?_
  refine gg_istore_n (lv' := [(1, .int (xI 0)), (0, .ref (aa 0))]) hx hb rfl (by decide) rfl dX10_thinOnce_1 ?_
  have h := h (fun (x1_2 : Int) (s2 : xSt) => GG p l e rmX10_thinOnce s m args below meth c (QI below D (cM aa cI cZ cJ) A args s Post) A D (cM aa cI cZ cJ) 4 s2 2 [(0, .ref (aa 0)), (1, .int (xI x1_2))] [])
  have h := h (by
    intro x1_2 s2 h
    refine gg_iload_n hx hb 1 rfl rfl dX10_thinOnce_2 ?_
    refine gg_aload_n hx hb 0 rfl rfl dX10_thinOnce_3 ?_
    refine gg_callVip (As := []) (rest := [.int (xI x1_2)]) hx hb hml hown hts hK hZ hA (c_X10_fields l D aa cI cZ cJ tR tU s2 _ h) (cwV 0 hts gX10_thinOnce_X10_fields rfl rfl rfl hd_X10_fields ⟨Nat.le_of_ble_eq_true rfl, Nat.le_of_ble_eq_true rfl⟩) 0 rfl rfl rfl rfl (Nat.le_of_ble_eq_true rfl) dX10_thinOnce_4 (fun r4 h => ?_)
    refine gg_icmp_ge (tgt := 94) hx hb h.1 h.2.1 dX10_thinOnce_7 rfl (fun c7 => ?_) (fun c7 => ?_)
    · have h := h.2.2.1 c7
      refine gg_iconst hx hb dX10_thinOnce_94 ?_
      refine gg_istore_n (lv' := [(1, .int (xI 0)), (0, .ref (aa 0))]) hx hb rfl (by decide) rfl dX10_thinOnce_95 ?_
      refine gg_iconst hx hb dX10_thinOnce_96 ?_
      refine gg_istore_n (lv' := [(2, .int (xI 0)), (1, .int (xI 0)), (0, .ref (aa 0))]) hx hb rfl (by decide) rfl dX10_thinOnce_97 ?_
      have h := h (fun (x1_98 x2_98 : Int) (s98 : xSt) => GG p l e rmX10_thinOnce s m args below meth c (QI below D (cM aa cI cZ cJ) A args s Post) A D (cM aa cI cZ cJ) 4 s98 98 [(0, .ref (aa 0)), (1, .int (xI x1_98)), (2, .int (xI x2_98))] [])
      have h := h (by
        intro x1_98 x2_98 s98 h
        refine gg_iload_n hx hb 2 rfl rfl dX10_thinOnce_98 ?_
        refine gg_aload_n hx hb 0 rfl rfl dX10_thinOnce_99 ?_
        refine gg_callVip (As := []) (rest := [.int (xI x2_98)]) hx hb hml hown hts hK hZ hA (c_X10_fields l D aa cI cZ cJ tR tU s98 _ h) (cwV 0 hts gX10_thinOnce_X10_fields rfl rfl rfl hd_X10_fields ⟨Nat.le_of_ble_eq_true rfl, Nat.le_of_ble_eq_true rfl⟩) 0 rfl rfl rfl rfl (Nat.le_of_ble_eq_true rfl) dX10_thinOnce_100 (fun r100 h => ?_)
        refine gg_icmp_ge (tgt := 148) hx hb h.1 h.2.1 dX10_thinOnce_103 rfl (fun c103 => ?_) (fun c103 => ?_)
        · have h := h.2.2.1 c103
          refine gg_iload_n hx hb 1 rfl rfl dX10_thinOnce_148 ?_
          exact gg_iret hx hb hr hlk h dX10_thinOnce_149
        · have h := h.2.2.2 c103
          refine gg_aload_n hx hb 0 rfl rfl dX10_thinOnce_106 ?_
          refine gg_get (C := RX10) (T := TX10) (N := 18) hx hb hts hown hK iX10_thinOnce_X10 0 rfl rfl 11 (by decide) (List.mem_of_getElem? (i := 2) rfl) rfl dX10_thinOnce_107 ?_
          refine gg_iload_n hx hb 2 rfl rfl dX10_thinOnce_110 ?_
          refine gg_zald hx hb hK 8 1 rfl rfl (by decide) h.1 dX10_thinOnce_111 ?_
          have h := h.2
          refine gg_if_eq (tgt := 142) hx hb h.1 dX10_thinOnce_112 rfl (fun c112 => ?_) (fun c112 => ?_)
          · have h := h.2.1 c112
            refine gg_iinc (lv' := [(2, .int (xI (x2_98 + 1))), (0, .ref (aa 0)), (1, .int (xI x1_98))]) hx hb 2 rfl (by decide) rfl dX10_thinOnce_142 ?_
            refine gg_goto (tgt := 98) hx hb dX10_thinOnce_145 rfl ?_
            refine gg_lv [1, 2, 0] rfl ?_
            exact h
          · have h := h.2.2 c112
            refine gg_aload_n hx hb 0 rfl rfl dX10_thinOnce_115 ?_
            refine gg_iload_n hx hb 2 rfl rfl dX10_thinOnce_116 ?_
            refine gg_callVi (As := [.int (xI x2_98)]) (rest := []) hx hb hml hown hts hK hZ hA (c_X10_isLoose l D aa cI cZ cJ tR tU x2_98 s98 _ h) (cwV 1 hts gX10_thinOnce_X10_isLoose rfl rfl rfl hd_X10_isLoose ⟨Nat.le_of_ble_eq_true rfl, Nat.le_of_ble_eq_true rfl⟩) 0 rfl rfl rfl rfl (Nat.le_of_ble_eq_true rfl) dX10_thinOnce_117 (fun r117 t117 h => ?_)
            refine gg_if_eq (tgt := 142) hx hb h.1 dX10_thinOnce_120 rfl (fun c120 => ?_) (fun c120 => ?_)
            · have h := h.2.1 c120
              refine gg_iinc (lv' := [(2, .int (xI (x2_98 + 1))), (0, .ref (aa 0)), (1, .int (xI x1_98))]) hx hb 2 rfl (by decide) rfl dX10_thinOnce_142 ?_
              refine gg_goto (tgt := 98) hx hb dX10_thinOnce_145 rfl ?_
              refine gg_lv [1, 2, 0] rfl ?_
              exact h
            · have h := h.2.2 c120
              refine gg_aload_n hx hb 0 rfl rfl dX10_thinOnce_123 ?_
              refine gg_iload_n hx hb 2 rfl rfl dX10_thinOnce_124 ?_
              refine gg_callVi (As := [.int (xI x2_98)]) (rest := []) hx hb hml hown hts hK hZ hA (c_X10_lookAbout l D aa cI cZ cJ tR tU x2_98 t117 _ h) (cwV 1 hts gX10_thinOnce_X10_lookAbout rfl rfl rfl hd_X10_lookAbout ⟨Nat.le_of_ble_eq_true rfl, Nat.le_of_ble_eq_true rfl⟩) 0 rfl rfl rfl rfl (Nat.le_of_ble_eq_true rfl) dX10_thinOnce_125 (fun r125 t125 h => ?_)
              refine gg_iconst hx hb dX10_thinOnce_128 ?_
              refine gg_icmp_eq (tgt := 142) hx hb h.1 (by decide) dX10_thinOnce_129 rfl (fun c129 => ?_) (fun c129 => ?_)
              · have h := h.2.1 c129
                refine gg_iinc (lv' := [(2, .int (xI (x2_98 + 1))), (0, .ref (aa 0)), (1, .int (xI x1_98))]) hx hb 2 rfl (by decide) rfl dX10_thinOnce_142 ?_
                refine gg_goto (tgt := 98) hx hb dX10_thinOnce_145 rfl ?_
                refine gg_lv [1, 2, 0] rfl ?_
                exact h
              · have h := h.2.2 c129
                refine gg_aload_n hx hb 0 rfl rfl dX10_thinOnce_132 ?_
                refine gg_get (C := RX10) (T := TX10) (N := 18) hx hb hts hown hK iX10_thinOnce_X10 0 rfl rfl 7 (by decide) (List.mem_of_getElem? (i := 3) rfl) rfl dX10_thinOnce_133 ?_
                refine gg_iload_n hx hb 2 rfl rfl dX10_thinOnce_136 ?_
                refine gg_iconst hx hb dX10_thinOnce_137 ?_
                refine gg_zast hx hb hK 4 1 rfl rfl (cM_st_4 aa cI cZ cJ _ _) (by decide) h.1 (Or.inl rfl) dX10_thinOnce_138 (fun σ_138 e138 => ?_)
                have h := h.2 σ_138 e138
                refine gg_iinc (lv' := [(1, .int (xI (x1_98 + 1))), (0, .ref (aa 0)), (2, .int (xI x2_98))]) hx hb 1 rfl (by decide) rfl dX10_thinOnce_139 ?_
                refine gg_iinc (lv' := [(2, .int (xI (x2_98 + 1))), (1, .int (xI (x1_98 + 1))), (0, .ref (aa 0))]) hx hb 2 rfl (by decide) rfl dX10_thinOnce_142 ?_
                refine gg_goto (tgt := 98) hx hb dX10_thinOnce_145 rfl ?_
                refine gg_lv [2, 1, 0] rfl ?_
                exact h)
      refine gg_lv [2, 1, 0] rfl ?_
      exact h
    · have h := h.2.2.2 c7
      refine gg_iload_n hx hb 1 rfl rfl dX10_thinOnce_10 ?_
      refine gg_aload_n hx hb 0 rfl rfl dX10_thinOnce_11 ?_
      refine gg_get (C := RX10) (T := TX10) (N := 18) hx hb hts hown hK iX10_thinOnce_X10 0 rfl rfl 5 (by decide) (List.mem_of_getElem? (i := 1) rfl) rfl dX10_thinOnce_12 ?_
      refine gg_irem hx hb h.1 h.2.1 h.2.2.1 dX10_thinOnce_15 ?_
      have h := h.2.2.2
      refine gg_istore_n (lv' := [(2, .int (xI (Int.tmod x1_2 (s2 0 5)))), (0, .ref (aa 0)), (1, .int (xI x1_2))]) hx hb rfl (by decide) rfl dX10_thinOnce_16 ?_
      refine gg_iload_n hx hb 2 rfl rfl dX10_thinOnce_17 ?_
      refine gg_aload_n hx hb 1 rfl rfl dX10_thinOnce_18 ?_
      refine gg_get (C := RX10) (T := TX10) (N := 18) hx hb hts hown hK iX10_thinOnce_X10 0 rfl rfl 5 (by decide) (List.mem_of_getElem? (i := 1) rfl) rfl dX10_thinOnce_19 ?_
      refine gg_idiv hx hb h.1 h.2.1 h.2.2.1 dX10_thinOnce_22 ?_
      have h := h.2.2.2
      refine gg_istore_n (lv' := [(3, .int (xI (Int.tdiv x1_2 (s2 0 5)))), (2, .int (xI (Int.tmod x1_2 (s2 0 5)))), (0, .ref (aa 0)), (1, .int (xI x1_2))]) hx hb rfl (by decide) rfl dX10_thinOnce_23 ?_
      refine gg_aload_n hx hb 2 rfl rfl dX10_thinOnce_24 ?_
      refine gg_get (C := RX10) (T := TX10) (N := 18) hx hb hts hown hK iX10_thinOnce_X10 0 rfl rfl 11 (by decide) (List.mem_of_getElem? (i := 2) rfl) rfl dX10_thinOnce_25 ?_
      refine gg_iload_n hx hb 3 rfl rfl dX10_thinOnce_28 ?_
      refine gg_aload_n hx hb 2 rfl rfl dX10_thinOnce_29 ?_
      refine gg_get (C := RX10) (T := TX10) (N := 18) hx hb hts hown hK iX10_thinOnce_X10 0 rfl rfl 7 (by decide) (List.mem_of_getElem? (i := 3) rfl) rfl dX10_thinOnce_30 ?_
      refine gg_iload_n hx hb 3 rfl rfl dX10_thinOnce_33 ?_
      refine gg_zald hx hb hK 4 1 rfl rfl (by decide) h.1 dX10_thinOnce_34 ?_
      have h := h.2
      refine gg_if_eq (tgt := 86) hx hb h.1 dX10_thinOnce_35 rfl (fun c35 => ?_) (fun c35 => ?_)
      · have h := h.2.1 c35
        refine gg_iconst hx hb dX10_thinOnce_86 ?_
        refine gg_zast hx hb hK 8 1 rfl rfl (cM_st_8 aa cI cZ cJ _ _) (by decide) h.1 (Or.inl rfl) dX10_thinOnce_87 (fun σ_87 e87 => ?_)
        have h := h.2 σ_87 e87
        refine gg_iinc (lv' := [(1, .int (xI (x1_2 + 1))), (3, .int (xI (Int.tdiv x1_2 (s2 0 5)))), (2, .int (xI (Int.tmod x1_2 (s2 0 5)))), (0, .ref (aa 0))]) hx hb 3 rfl (by decide) rfl dX10_thinOnce_88 ?_
        refine gg_goto (tgt := 2) hx hb dX10_thinOnce_91 rfl ?_
        refine gg_lv [3, 0] rfl ?_
        exact h
      · have h := h.2.2 c35
        refine gg_aload_n hx hb 2 rfl rfl dX10_thinOnce_38 ?_
        refine gg_iload_n hx hb 1 rfl rfl dX10_thinOnce_39 ?_
        refine gg_iconst hx hb dX10_thinOnce_40 ?_
        refine gg_isub hx hb dX10_thinOnce_41 ?_
        refine gg_iload_n hx hb 0 rfl rfl dX10_thinOnce_42 ?_
        refine gg_callVip (As := [.int (xI ((Int.tmod x1_2 (s2 0 5)) - 1)), .int (xI (Int.tdiv x1_2 (s2 0 5)))]) (rest := [.int (xI x1_2), .ref (aa 8)]) hx hb hml hown hts hK hZ hA (c_X10_isOf l D aa cI cZ cJ tR tU ((Int.tmod x1_2 (s2 0 5)) - 1) (Int.tdiv x1_2 (s2 0 5)) s2 _ h) (cwV 2 hts gX10_thinOnce_X10_isOf rfl rfl rfl hd_X10_isOf ⟨Nat.le_of_ble_eq_true rfl, Nat.le_of_ble_eq_true rfl⟩) 0 rfl rfl rfl rfl (Nat.le_of_ble_eq_true rfl) dX10_thinOnce_43 (fun r43 h => ?_)
        refine gg_if_eq (tgt := 82) hx hb h.1 dX10_thinOnce_46 rfl (fun c46 => ?_) (fun c46 => ?_)
        · have h := h.2.1 c46
          refine gg_iconst hx hb dX10_thinOnce_82 ?_
          refine gg_goto (tgt := 87) hx hb dX10_thinOnce_83 rfl ?_
          refine gg_zast hx hb hK 8 1 rfl rfl (cM_st_8 aa cI cZ cJ _ _) (by decide) h.1 (Or.inr rfl) dX10_thinOnce_87 (fun σ_87 e87 => ?_)
          have h := h.2 σ_87 e87
          refine gg_iinc (lv' := [(1, .int (xI (x1_2 + 1))), (3, .int (xI (Int.tdiv x1_2 (s2 0 5)))), (2, .int (xI (Int.tmod x1_2 (s2 0 5)))), (0, .ref (aa 0))]) hx hb 3 rfl (by decide) rfl dX10_thinOnce_88 ?_
          refine gg_goto (tgt := 2) hx hb dX10_thinOnce_91 rfl ?_
          refine gg_lv [3, 0] rfl ?_
          exact h
        · have h := h.2.2 c46
          refine gg_aload_n hx hb 2 rfl rfl dX10_thinOnce_49 ?_
          refine gg_iload_n hx hb 1 rfl rfl dX10_thinOnce_50 ?_
          refine gg_iconst hx hb dX10_thinOnce_51 ?_
          refine gg_iadd hx hb dX10_thinOnce_52 ?_
          refine gg_iload_n hx hb 0 rfl rfl dX10_thinOnce_53 ?_
          refine gg_callVip (As := [.int (xI ((Int.tmod x1_2 (s2 0 5)) + 1)), .int (xI (Int.tdiv x1_2 (s2 0 5)))]) (rest := [.int (xI x1_2), .ref (aa 8)]) hx hb hml hown hts hK hZ hA (c_X10_isOf l D aa cI cZ cJ tR tU ((Int.tmod x1_2 (s2 0 5)) + 1) (Int.tdiv x1_2 (s2 0 5)) s2 _ h) (cwV 2 hts gX10_thinOnce_X10_isOf rfl rfl rfl hd_X10_isOf ⟨Nat.le_of_ble_eq_true rfl, Nat.le_of_ble_eq_true rfl⟩) 0 rfl rfl rfl rfl (Nat.le_of_ble_eq_true rfl) dX10_thinOnce_54 (fun r54 h => ?_)
          refine gg_if_eq (tgt := 82) hx hb h.1 dX10_thinOnce_57 rfl (fun c57 => ?_) (fun c57 => ?_)
          · have h := h.2.1 c57
            refine gg_iconst hx hb dX10_thinOnce_82 ?_
            refine gg_goto (tgt := 87) hx hb dX10_thinOnce_83 rfl ?_
            refine gg_zast hx hb hK 8 1 rfl rfl (cM_st_8 aa cI cZ cJ _ _) (by decide) h.1 (Or.inr rfl) dX10_thinOnce_87 (fun σ_87 e87 => ?_)
            have h := h.2 σ_87 e87
            refine gg_iinc (lv' := [(1, .int (xI (x1_2 + 1))), (3, .int (xI (Int.tdiv x1_2 (s2 0 5)))), (2, .int (xI (Int.tmod x1_2 (s2 0 5)))), (0, .ref (aa 0))]) hx hb 3 rfl (by decide) rfl dX10_thinOnce_88 ?_
            refine gg_goto (tgt := 2) hx hb dX10_thinOnce_91 rfl ?_
            refine gg_lv [3, 0] rfl ?_
            exact h
          · have h := h.2.2 c57
            refine gg_aload_n hx hb 2 rfl rfl dX10_thinOnce_60 ?_
            refine gg_iload_n hx hb 1 rfl rfl dX10_thinOnce_61 ?_
            refine gg_iload_n hx hb 0 rfl rfl dX10_thinOnce_62 ?_
            refine gg_iconst hx hb dX10_thinOnce_63 ?_
            refine gg_isub hx hb dX10_thinOnce_64 ?_
            refine gg_callVip (As := [.int (xI (Int.tmod x1_2 (s2 0 5))), .int (xI ((Int.tdiv x1_2 (s2 0 5)) - 1))]) (rest := [.int (xI x1_2), .ref (aa 8)]) hx hb hml hown hts hK hZ hA (c_X10_isOf l D aa cI cZ cJ tR tU (Int.tmod x1_2 (s2 0 5)) ((Int.tdiv x1_2 (s2 0 5)) - 1) s2 _ h) (cwV 2 hts gX10_thinOnce_X10_isOf rfl rfl rfl hd_X10_isOf ⟨Nat.le_of_ble_eq_true rfl, Nat.le_of_ble_eq_true rfl⟩) 0 rfl rfl rfl rfl (Nat.le_of_ble_eq_true rfl) dX10_thinOnce_65 (fun r65 h => ?_)
            refine gg_if_eq (tgt := 82) hx hb h.1 dX10_thinOnce_68 rfl (fun c68 => ?_) (fun c68 => ?_)
            · have h := h.2.1 c68
              refine gg_iconst hx hb dX10_thinOnce_82 ?_
              refine gg_goto (tgt := 87) hx hb dX10_thinOnce_83 rfl ?_
              refine gg_zast hx hb hK 8 1 rfl rfl (cM_st_8 aa cI cZ cJ _ _) (by decide) h.1 (Or.inr rfl) dX10_thinOnce_87 (fun σ_87 e87 => ?_)
              have h := h.2 σ_87 e87
              refine gg_iinc (lv' := [(1, .int (xI (x1_2 + 1))), (3, .int (xI (Int.tdiv x1_2 (s2 0 5)))), (2, .int (xI (Int.tmod x1_2 (s2 0 5)))), (0, .ref (aa 0))]) hx hb 3 rfl (by decide) rfl dX10_thinOnce_88 ?_
              refine gg_goto (tgt := 2) hx hb dX10_thinOnce_91 rfl ?_
              refine gg_lv [3, 0] rfl ?_
              exact h
            · have h := h.2.2 c68
              refine gg_aload_n hx hb 2 rfl rfl dX10_thinOnce_71 ?_
              refine gg_iload_n hx hb 1 rfl rfl dX10_thinOnce_72 ?_
              refine gg_iload_n hx hb 0 rfl rfl dX10_thinOnce_73 ?_
              refine gg_iconst hx hb dX10_thinOnce_74 ?_
              refine gg_iadd hx hb dX10_thinOnce_75 ?_
              refine gg_callVip (As := [.int (xI (Int.tmod x1_2 (s2 0 5))), .int (xI ((Int.tdiv x1_2 (s2 0 5)) + 1))]) (rest := [.int (xI x1_2), .ref (aa 8)]) hx hb hml hown hts hK hZ hA (c_X10_isOf l D aa cI cZ cJ tR tU (Int.tmod x1_2 (s2 0 5)) ((Int.tdiv x1_2 (s2 0 5)) + 1) s2 _ h) (cwV 2 hts gX10_thinOnce_X10_isOf rfl rfl rfl hd_X10_isOf ⟨Nat.le_of_ble_eq_true rfl, Nat.le_of_ble_eq_true rfl⟩) 0 rfl rfl rfl rfl (Nat.le_of_ble_eq_true rfl) dX10_thinOnce_76 (fun r76 h => ?_)
              refine gg_if_ne (tgt := 86) hx hb h.1 dX10_thinOnce_79 rfl (fun c79 => ?_) (fun c79 => ?_)
              · have h := h.2.1 c79
                refine gg_iconst hx hb dX10_thinOnce_86 ?_
                refine gg_zast hx hb hK 8 1 rfl rfl (cM_st_8 aa cI cZ cJ _ _) (by decide) h.1 (Or.inl rfl) dX10_thinOnce_87 (fun σ_87 e87 => ?_)
                have h := h.2 σ_87 e87
                refine gg_iinc (lv' := [(1, .int (xI (x1_2 + 1))), (3, .int (xI (Int.tdiv x1_2 (s2 0 5)))), (2, .int (xI (Int.tmod x1_2 (s2 0 5)))), (0, .ref (aa 0))]) hx hb 3 rfl (by decide) rfl dX10_thinOnce_88 ?_
                refine gg_goto (tgt := 2) hx hb dX10_thinOnce_91 rfl ?_
                refine gg_lv [3, 0] rfl ?_
                exact h
              · have h := h.2.2 c79
                refine gg_iconst hx hb dX10_thinOnce_82 ?_
                refine gg_goto (tgt := 87) hx hb dX10_thinOnce_83 rfl ?_
                refine gg_zast hx hb hK 8 1 rfl rfl (cM_st_8 aa cI cZ cJ _ _) (by decide) h.1 (Or.inr rfl) dX10_thinOnce_87 (fun σ_87 e87 => ?_)
                have h := h.2 σ_87 e87
                refine gg_iinc (lv' := [(1, .int (xI (x1_2 + 1))), (3, .int (xI (Int.tdiv x1_2 (s2 0 5)))), (2, .int (xI (Int.tmod x1_2 (s2 0 5)))), (0, .ref (aa 0))]) hx hb 3 rfl (by decide) rfl dX10_thinOnce_88 ?_
                refine gg_goto (tgt := 2) hx hb dX10_thinOnce_91 rfl ?_
                refine gg_lv [3, 0] rfl ?_
                exact h)
  refine gg_lv [1, 0] rfl ?_
  exact h
