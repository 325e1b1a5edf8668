abbrev rmX10_thinning : Room := { frames := 6, cells := 0, slots := 0, locals := 136 }
theorem iX10_thinning_X10 : ∀ w ∈ u_ws RX10 TX10 18, w ∈ wsX10_thinning := (fun _ h => List.mem_cons_of_mem _ (List.mem_append_right _ h))
theorem hd_X10_thinning : (yX10_thinning.cls = RX10 ∧ yX10_thinning.cls ≠ "java/lang/invoke/MethodHandle" ∧ yX10_thinning.cls ≠ "java/lang/invoke/VarHandle" ∧ (parseMethodDescriptor yX10_thinning.desc).map (fun d => d.parameters.length) = some 0) := by decide +kernel
set_option maxRecDepth 100000 in
set_option maxHeartbeats 4000000 in
theorem c_X10_thinning (l : Launch) (D : va_G) (aa : Nat → Nat) (cI cZ cJ : ClassId) (tR tU : Nat) (σ : xSt) (Post : Int → xSt → Prop) (h : wp_X10_thinning σ Post) : MI l D (tyL cI cZ cJ) (cM aa cI cZ cJ) tR tU yX10_thinning wsX10_thinning rmX10_thinning [.ref (aa 0)] σ Post := by
  refine mi_of (cc := cX10_thinning) (maxL := 1) (ret := (some .int)) (by decide) rfl (Nat.le_of_ble_eq_true rfl) ?_
  intro p e s m args below meth c A hF
  obtain ⟨hx, hb, hr, hml, hown, hts, hlk, hK, hZ, hA⟩ := hF
  have hown : s.vm.findClass RX10 = some m.cls := hown
  delta wp_X10_thinning at h
  refine gg_lv (lv' := [(0, .ref (aa 0))]) [0] rfl ?_
  refine gg_aload_n hx hb 0 rfl rfl dX10_thinning_0 ?_
  refine gg_iconst hx hb dX10_thinning_1 ?_
  refine gg_put (C := RX10) (T := TX10) (N := 18) hx hb hts hown hK iX10_thinning_X10 tyX10 tyX10_ok nmX10 0 rfl rfl 0 (by decide) (List.mem_of_getElem? (i := 1) rfl) rfl rfl (Nat.le_of_ble_eq_true rfl) (cM_set_0_0 aa cI cZ cJ _ _) dX10_thinning_2 (fun σ_2 e2 => ?_)
  have h := h σ_2 e2
  refine gg_aload_n hx hb 0 rfl rfl dX10_thinning_5 ?_
  refine gg_callVi (As := []) (rest := []) hx hb hml hown hts hK hZ hA (c_X10_thinOnce l D aa cI cZ cJ tR tU σ_2 _ h) (cwV 0 hts gX10_thinning_X10_thinOnce rfl rfl rfl hd_X10_thinOnce ⟨Nat.le_of_ble_eq_true rfl, Nat.le_of_ble_eq_true rfl⟩) 0 rfl rfl rfl rfl (Nat.le_of_ble_eq_true rfl) dX10_thinning_6 (fun r6 t6 h => ?_)
  exact gg_iret hx hb hr hlk h dX10_thinning_9
abbrev rmX10_thin : Room := { frames := 6, cells := 0, slots := 0, locals := 136 }
theorem iX10_thin_X10 : ∀ w ∈ u_ws RX10 TX10 18, w ∈ wsX10_thin := (fun _ h => List.mem_cons_of_mem _ (List.mem_append_right _ h))
theorem hd_X10_thin : (yX10_thin.cls = RX10 ∧ yX10_thin.cls ≠ "java/lang/invoke/MethodHandle" ∧ yX10_thin.cls ≠ "java/lang/invoke/VarHandle" ∧ (parseMethodDescriptor yX10_thin.desc).map (fun d => d.parameters.length) = some 0) := by decide +kernel
set_option maxRecDepth 100000 in
set_option maxHeartbeats 4000000 in
theorem c_X10_thin (l : Launch) (D : va_G) (aa : Nat → Nat) (cI cZ cJ : ClassId) (tR tU : Nat) (σ : xSt) (Post : Int → xSt → Prop) (h : wp_X10_thin σ Post) : MI l D (tyL cI cZ cJ) (cM aa cI cZ cJ) tR tU yX10_thin wsX10_thin rmX10_thin [.ref (aa 0)] σ Post := by
  refine mi_of (cc := cX10_thin) (maxL := 3) (ret := (some .int)) (by decide) rfl (Nat.le_of_ble_eq_true rfl) ?_
  intro p e s m args below meth c A hF
  obtain ⟨hx, hb, hr, hml, hown, hts, hlk, hK, hZ, hA⟩ := hF
  have hown : s.vm.findClass RX10 = some m.cls := hown
  delta wp_X10_thin at h
  refine gg_lv (lv' := [(0, .ref (aa 0))]) [0] rfl ?_
  refine gg_aload_n hx hb 0 rfl rfl dX10_thin_0 ?_
  refine gg_iconst hx hb dX10_thin_1 ?_
  refine gg_put (C := RX10) (T := TX10) (N := 18) hx hb hts hown hK iX10_thin_X10 tyX10 tyX10_ok nmX10 0 rfl rfl 0 (by decide) (List.mem_of_getElem? (i := 1) rfl) rfl rfl (Nat.le_of_ble_eq_true rfl) (cM_set_0_0 aa cI cZ cJ _ _) dX10_thin_2 (fun σ_2 e2 => ?_)
  have h := h σ_2 e2
  refine gg_iconst hx hb dX10_thin_5 ?_
  refine gg_istore_n (lv' := [(1, .int (xI 0)), (0, .ref (aa 0))]) hx hb rfl (by decide) rfl dX10_thin_6 ?_
  refine gg_aload_n hx hb 1 rfl rfl dX10_thin_7 ?_
  refine gg_callVi (As := []) (rest := []) hx hb hml hown hts hK hZ hA (c_X10_thinOnce l D aa cI cZ cJ tR tU σ_2 _ h) (cwV 0 hts gX10_thin_X10_thinOnce rfl rfl rfl hd_X10_thinOnce ⟨Nat.le_of_ble_eq_true rfl, Nat.le_of_ble_eq_true rfl⟩) 0 rfl rfl rfl rfl (Nat.le_of_ble_eq_true rfl) dX10_thin_8 (fun r8 t8 h => ?_)
  refine gg_istore_n (lv' := [(2, .int (xI r8)), (1, .int (xI 0)), (0, .ref (aa 0))]) hx hb rfl (by decide) rfl dX10_thin_11 ?_
  have h := h (fun (x1_12 x2_12 : Int) (s12 : xSt) => GG p l e rmX10_thin s m args below meth c (QI below D (cM aa cI cZ cJ) A args s Post) A D (cM aa cI cZ cJ) 3 s12 12 [(0, .ref (aa 0)), (1, .int (xI x1_12)), (2, .int (xI x2_12))] [])
  have h := h (by
    intro x1_12 x2_12 s12 h
    refine gg_iload_n hx hb 2 rfl rfl dX10_thin_12 ?_
    refine gg_if_le (tgt := 28) hx hb h.1 dX10_thin_13 rfl (fun c13 => ?_) (fun c13 => ?_)
    · have h := h.2.1 c13
      refine gg_iload_n hx hb 1 rfl rfl dX10_thin_28 ?_
      exact gg_iret hx hb hr hlk h dX10_thin_29
    · have h := h.2.2 c13
      refine gg_iload_n hx hb 1 rfl rfl dX10_thin_16 ?_
      refine gg_iload_n hx hb 2 rfl rfl dX10_thin_17 ?_
      refine gg_iadd hx hb dX10_thin_18 ?_
      refine gg_istore_n (lv' := [(1, .int (xI (x1_12 + x2_12))), (0, .ref (aa 0)), (2, .int (xI x2_12))]) hx hb rfl (by decide) rfl dX10_thin_19 ?_
      refine gg_aload_n hx hb 1 rfl rfl dX10_thin_20 ?_
      refine gg_callVi (As := []) (rest := []) hx hb hml hown hts hK hZ hA (c_X10_thinOnce l D aa cI cZ cJ tR tU s12 _ h) (cwV 0 hts gX10_thin_X10_thinOnce rfl rfl rfl hd_X10_thinOnce ⟨Nat.le_of_ble_eq_true rfl, Nat.le_of_ble_eq_true rfl⟩) 0 rfl rfl rfl rfl (Nat.le_of_ble_eq_true rfl) dX10_thin_21 (fun r21 t21 h => ?_)
      refine gg_istore_n (lv' := [(2, .int (xI r21)), (1, .int (xI (x1_12 + x2_12))), (0, .ref (aa 0))]) hx hb rfl (by decide) rfl dX10_thin_24 ?_
      refine gg_goto (tgt := 12) hx hb dX10_thin_25 rfl ?_
      refine gg_lv [2, 1, 0] rfl ?_
      exact h)
  refine gg_lv [2, 1, 0] rfl ?_
  exact h
abbrev rmX10_count : Room := { frames := 1, cells := 0, slots := 0, locals := 23 }
theorem iX10_count_X10 : ∀ w ∈ u_ws RX10 TX10 18, w ∈ wsX10_count := (fun _ h => List.mem_cons_of_mem _ (List.mem_append_right _ h))
theorem hd_X10_count : (yX10_count.cls = RX10 ∧ yX10_count.cls ≠ "java/lang/invoke/MethodHandle" ∧ yX10_count.cls ≠ "java/lang/invoke/VarHandle" ∧ (parseMethodDescriptor yX10_count.desc).map (fun d => d.parameters.length) = some 1) := by decide +kernel
set_option maxRecDepth 100000 in
set_option maxHeartbeats 4000000 in
theorem c_X10_count (l : Launch) (D : va_G) (aa : Nat → Nat) (cI cZ cJ : ClassId) (tR tU : Nat) (a1 : Int) (σ : xSt) (Post : Int → xSt → Prop) (h : wp_X10_count a1 σ Post) : MI l D (tyL cI cZ cJ) (cM aa cI cZ cJ) tR tU yX10_count wsX10_count rmX10_count [.ref (aa 0), .int (xI a1)] σ Post := by
  refine mi_of (cc := cX10_count) (maxL := 5) (ret := (some .int)) (by decide) rfl (Nat.le_of_ble_eq_true rfl) ?_
  intro p e s m args below meth c A hF
  obtain ⟨hx, hb, hr, hml, hown, hts, hlk, hK, hZ, hA⟩ := hF
  have hown : s.vm.findClass RX10 = some m.cls := hown
  delta wp_X10_count at h
  refine gg_lv (lv' := [(0, .ref (aa 0)), (1, .int (xI a1))]) [0, 1] rfl ?_
  refine gg_aload_n hx hb 0 rfl rfl dX10_count_0 ?_
  refine gg_iconst hx hb dX10_count_1 ?_
  refine gg_put (C := RX10) (T := TX10) (N := 18) hx hb hts hown hK iX10_count_X10 tyX10 tyX10_ok nmX10 0 rfl rfl 0 (by decide) (List.mem_of_getElem? (i := 1) rfl) rfl rfl (Nat.le_of_ble_eq_true rfl) (cM_set_0_0 aa cI cZ cJ _ _) dX10_count_2 (fun σ_2 e2 => ?_)
  have h := h σ_2 e2
  refine gg_iconst hx hb dX10_count_5 ?_
  refine gg_istore_n (lv' := [(2, .int (xI 0)), (0, .ref (aa 0)), (1, .int (xI a1))]) hx hb rfl (by decide) rfl dX10_count_6 ?_
  refine gg_iconst hx hb dX10_count_7 ?_
  refine gg_istore_n (lv' := [(3, .int (xI 0)), (2, .int (xI 0)), (0, .ref (aa 0)), (1, .int (xI a1))]) hx hb rfl (by decide) rfl dX10_count_8 ?_
  refine gg_iconst hx hb dX10_count_9 ?_
  refine gg_istore (lv' := [(4, .int (xI 0)), (3, .int (xI 0)), (2, .int (xI 0)), (0, .ref (aa 0)), (1, .int (xI a1))]) hx hb (by decide) rfl dX10_count_10 ?_
  have h := h (fun (x2_12 x4_12 : Int) => GG p l e rmX10_count s m args below meth c (QI below D (cM aa cI cZ cJ) A args s Post) A D (cM aa cI cZ cJ) 5 σ_2 12 [(0, .ref (aa 0)), (1, .int (xI a1)), (2, .int (xI x2_12)), (3, .int (xI 0)), (4, .int (xI x4_12))] [])
  have h := h (by
    intro x2_12 x4_12 h
    refine gg_iload hx hb 4 rfl dX10_count_12 ?_
    refine gg_aload_n hx hb 0 rfl rfl dX10_count_14 ?_
    refine gg_get (C := RX10) (T := TX10) (N := 18) hx hb hts hown hK iX10_count_X10 0 rfl rfl 1 (by decide) (List.mem_of_getElem? (i := 2) rfl) rfl dX10_count_15 ?_
    refine gg_icmp_ge (tgt := 47) hx hb h.1 h.2.1 dX10_count_18 rfl (fun c18 => ?_) (fun c18 => ?_)
    · have h := h.2.2.1 c18
      refine gg_iconst hx hb dX10_count_47 ?_
      refine gg_istore (lv' := [(4, .int (xI 0)), (0, .ref (aa 0)), (1, .int (xI a1)), (2, .int (xI x2_12)), (3, .int (xI 0))]) hx hb (by decide) rfl dX10_count_48 ?_
      have h := h (fun (x3_50 x4_50 : Int) => GG p l e rmX10_count s m args below meth c (QI below D (cM aa cI cZ cJ) A args s Post) A D (cM aa cI cZ cJ) 5 σ_2 50 [(0, .ref (aa 0)), (1, .int (xI a1)), (2, .int (xI x2_12)), (3, .int (xI x3_50)), (4, .int (xI x4_50))] [])
      have h := h (by
        intro x3_50 x4_50 h
        refine gg_iload hx hb 4 rfl dX10_count_50 ?_
        refine gg_aload_n hx hb 0 rfl rfl dX10_count_52 ?_
        refine gg_callVip (As := []) (rest := [.int (xI x4_50)]) hx hb hml hown hts hK hZ hA (c_X10_fields l D aa cI cZ cJ tR tU σ_2 _ h) (cwV 0 hts gX10_count_X10_fields rfl rfl rfl hd_X10_fields ⟨Nat.le_of_ble_eq_true rfl, Nat.le_of_ble_eq_true rfl⟩) 0 rfl rfl rfl rfl (Nat.le_of_ble_eq_true rfl) dX10_count_53 (fun r53 h => ?_)
        refine gg_icmp_ge (tgt := 92) hx hb h.1 h.2.1 dX10_count_56 rfl (fun c56 => ?_) (fun c56 => ?_)
        · have h := h.2.2.1 c56
          refine gg_iload_n hx hb 1 rfl rfl dX10_count_92 ?_
          refine gg_if_ne (tgt := 103) hx hb h.1 dX10_count_93 rfl (fun c93 => ?_) (fun c93 => ?_)
          · have h := h.2.1 c93
            refine gg_iload_n hx hb 1 rfl rfl dX10_count_103 ?_
            refine gg_iconst hx hb dX10_count_104 ?_
            refine gg_icmp_ne (tgt := 115) hx hb h.1 (by decide) dX10_count_105 rfl (fun c105 => ?_) (fun c105 => ?_)
            · have h := h.2.1 c105
              refine gg_iload_n hx hb 1 rfl rfl dX10_count_115 ?_
              refine gg_iconst hx hb dX10_count_116 ?_
              refine gg_icmp_ne (tgt := 127) hx hb h.1 (by decide) dX10_count_117 rfl (fun c117 => ?_) (fun c117 => ?_)
              · have h := h.2.1 c117
                refine gg_iload_n hx hb 1 rfl rfl dX10_count_127 ?_
                refine gg_iconst hx hb dX10_count_128 ?_
                refine gg_icmp_ne (tgt := 136) hx hb h.1 (by decide) dX10_count_129 rfl (fun c129 => ?_) (fun c129 => ?_)
                · have h := h.2.1 c129
                  refine gg_iload_n hx hb 1 rfl rfl dX10_count_136 ?_
                  refine gg_iconst hx hb dX10_count_137 ?_
                  refine gg_icmp_ne (tgt := 145) hx hb h.1 (by decide) dX10_count_138 rfl (fun c138 => ?_) (fun c138 => ?_)
                  · have h := h.2.1 c138
                    refine gg_sipush hx hb dX10_count_145 rfl ?_
                    exact gg_iret hx hb hr hlk h dX10_count_148
                  · have h := h.2.2 c138
                    refine gg_iload_n hx hb 3 rfl rfl dX10_count_141 ?_
                    refine gg_goto (tgt := 148) hx hb dX10_count_142 rfl ?_
                    exact gg_iret hx hb hr hlk h dX10_count_148
                · have h := h.2.2 c129
                  refine gg_iload_n hx hb 2 rfl rfl dX10_count_132 ?_
                  refine gg_goto (tgt := 148) hx hb dX10_count_133 rfl ?_
                  exact gg_iret hx hb hr hlk h dX10_count_148
              · have h := h.2.2 c117
                refine gg_aload_n hx hb 0 rfl rfl dX10_count_120 ?_
                refine gg_get (C := RX10) (T := TX10) (N := 18) hx hb hts hown hK iX10_count_X10 0 rfl rfl 6 (by decide) (List.mem_of_getElem? (i := 6) rfl) rfl dX10_count_121 ?_
                refine gg_goto (tgt := 148) hx hb dX10_count_124 rfl ?_
                exact gg_iret hx hb hr hlk h dX10_count_148
            · have h := h.2.2 c105
              refine gg_aload_n hx hb 0 rfl rfl dX10_count_108 ?_
              refine gg_get (C := RX10) (T := TX10) (N := 18) hx hb hts hown hK iX10_count_X10 0 rfl rfl 5 (by decide) (List.mem_of_getElem? (i := 5) rfl) rfl dX10_count_109 ?_
              refine gg_goto (tgt := 148) hx hb dX10_count_112 rfl ?_
              exact gg_iret hx hb hr hlk h dX10_count_148
          · have h := h.2.2 c93
            refine gg_aload_n hx hb 0 rfl rfl dX10_count_96 ?_
            refine gg_get (C := RX10) (T := TX10) (N := 18) hx hb hts hown hK iX10_count_X10 0 rfl rfl 1 (by decide) (List.mem_of_getElem? (i := 2) rfl) rfl dX10_count_97 ?_
            refine gg_goto (tgt := 148) hx hb dX10_count_100 rfl ?_
            exact gg_iret hx hb hr hlk h dX10_count_148
        · have h := h.2.2.2 c56
          refine gg_iload_n hx hb 3 rfl rfl dX10_count_59 ?_
          refine gg_aload_n hx hb 0 rfl rfl dX10_count_60 ?_
          refine gg_get (C := RX10) (T := TX10) (N := 18) hx hb hts hown hK iX10_count_X10 0 rfl rfl 7 (by decide) (List.mem_of_getElem? (i := 4) rfl) rfl dX10_count_61 ?_
          refine gg_iload hx hb 4 rfl dX10_count_64 ?_
          refine gg_zald hx hb hK 4 1 rfl rfl (by decide) h.1 dX10_count_66 ?_
          have h := h.2
          refine gg_if_eq (tgt := 83) hx hb h.1 dX10_count_67 rfl (fun c67 => ?_) (fun c67 => ?_)
          · have h := h.2.1 c67
            refine gg_iconst hx hb dX10_count_83 ?_
            refine gg_iadd hx hb dX10_count_84 ?_
            refine gg_istore_n (lv' := [(3, .int (xI (x3_50 + 0))), (0, .ref (aa 0)), (1, .int (xI a1)), (2, .int (xI x2_12)), (4, .int (xI x4_50))]) hx hb rfl (by decide) rfl dX10_count_85 ?_
            refine gg_iinc (lv' := [(4, .int (xI (x4_50 + 1))), (3, .int (xI (x3_50 + 0))), (0, .ref (aa 0)), (1, .int (xI a1)), (2, .int (xI x2_12))]) hx hb 4 rfl (by decide) rfl dX10_count_86 ?_
            refine gg_goto (tgt := 50) hx hb dX10_count_89 rfl ?_
            refine gg_lv [2, 3, 4, 1, 0] rfl ?_
            exact h
          · have h := h.2.2 c67
            refine gg_aload_n hx hb 0 rfl rfl dX10_count_70 ?_
            refine gg_iload hx hb 4 rfl dX10_count_71 ?_
            refine gg_callVip (As := [.int (xI x4_50)]) (rest := [.int (xI x3_50)]) hx hb hml hown hts hK hZ hA (c_X10_onEdge l D aa cI cZ cJ tR tU x4_50 σ_2 _ h) (cwV 1 hts gX10_count_X10_onEdge rfl rfl rfl hd_X10_onEdge ⟨Nat.le_of_ble_eq_true rfl, Nat.le_of_ble_eq_true rfl⟩) 0 rfl rfl rfl rfl (Nat.le_of_ble_eq_true rfl) dX10_count_73 (fun r73 h => ?_)
            refine gg_if_eq (tgt := 83) hx hb h.1 dX10_count_76 rfl (fun c76 => ?_) (fun c76 => ?_)
            · have h := h.2.1 c76
              refine gg_iconst hx hb dX10_count_83 ?_
              refine gg_iadd hx hb dX10_count_84 ?_
              refine gg_istore_n (lv' := [(3, .int (xI (x3_50 + 0))), (0, .ref (aa 0)), (1, .int (xI a1)), (2, .int (xI x2_12)), (4, .int (xI x4_50))]) hx hb rfl (by decide) rfl dX10_count_85 ?_
              refine gg_iinc (lv' := [(4, .int (xI (x4_50 + 1))), (3, .int (xI (x3_50 + 0))), (0, .ref (aa 0)), (1, .int (xI a1)), (2, .int (xI x2_12))]) hx hb 4 rfl (by decide) rfl dX10_count_86 ?_
              refine gg_goto (tgt := 50) hx hb dX10_count_89 rfl ?_
              refine gg_lv [2, 3, 4, 1, 0] rfl ?_
              exact h
            · have h := h.2.2 c76
              refine gg_iconst hx hb dX10_count_79 ?_
              refine gg_goto (tgt := 84) hx hb dX10_count_80 rfl ?_
              refine gg_iadd hx hb dX10_count_84 ?_
              refine gg_istore_n (lv' := [(3, .int (xI (x3_50 + 1))), (0, .ref (aa 0)), (1, .int (xI a1)), (2, .int (xI x2_12)), (4, .int (xI x4_50))]) hx hb rfl (by decide) rfl dX10_count_85 ?_
              refine gg_iinc (lv' := [(4, .int (xI (x4_50 + 1))), (3, .int (xI (x3_50 + 1))), (0, .ref (aa 0)), (1, .int (xI a1)), (2, .int (xI x2_12))]) hx hb 4 rfl (by decide) rfl dX10_count_86 ?_
              refine gg_goto (tgt := 50) hx hb dX10_count_89 rfl ?_
              refine gg_lv [2, 3, 4, 1, 0] rfl ?_
              exact h)
      refine gg_lv [1, 2, 3, 4, 0] rfl ?_
      exact h
    · have h := h.2.2.2 c18
      refine gg_iload_n hx hb 2 rfl rfl dX10_count_21 ?_
      refine gg_aload_n hx hb 0 rfl rfl dX10_count_22 ?_
      refine gg_get (C := RX10) (T := TX10) (N := 18) hx hb hts hown hK iX10_count_X10 0 rfl rfl 2 (by decide) (List.mem_of_getElem? (i := 3) rfl) rfl dX10_count_23 ?_
      refine gg_iload hx hb 4 rfl dX10_count_26 ?_
      refine gg_iald hx hb hK 1 0 rfl rfl (by decide) h.1 dX10_count_28 ?_
      have h := h.2
      refine gg_iconst hx hb dX10_count_29 ?_
      refine gg_irem hx hb h.1 h.2.1 h.2.2.1 dX10_count_30 ?_
      have h := h.2.2.2
      refine gg_if_ne (tgt := 38) hx hb h.1 dX10_count_31 rfl (fun c31 => ?_) (fun c31 => ?_)
      · have h := h.2.1 c31
        refine gg_iconst hx hb dX10_count_38 ?_
        refine gg_iadd hx hb dX10_count_39 ?_
        refine gg_istore_n (lv' := [(2, .int (xI (x2_12 + 0))), (0, .ref (aa 0)), (1, .int (xI a1)), (3, .int (xI 0)), (4, .int (xI x4_12))]) hx hb rfl (by decide) rfl dX10_count_40 ?_
        refine gg_iinc (lv' := [(4, .int (xI (x4_12 + 1))), (2, .int (xI (x2_12 + 0))), (0, .ref (aa 0)), (1, .int (xI a1)), (3, .int (xI 0))]) hx hb 4 rfl (by decide) rfl dX10_count_41 ?_
        refine gg_goto (tgt := 12) hx hb dX10_count_44 rfl ?_
        refine gg_lv [2, 3, 1, 4, 0] rfl ?_
        exact h
      · have h := h.2.2 c31
        refine gg_iconst hx hb dX10_count_34 ?_
        refine gg_goto (tgt := 39) hx hb dX10_count_35 rfl ?_
        refine gg_iadd hx hb dX10_count_39 ?_
        refine gg_istore_n (lv' := [(2, .int (xI (x2_12 + 1))), (0, .ref (aa 0)), (1, .int (xI a1)), (3, .int (xI 0)), (4, .int (xI x4_12))]) hx hb rfl (by decide) rfl dX10_count_40 ?_
        refine gg_iinc (lv' := [(4, .int (xI (x4_12 + 1))), (2, .int (xI (x2_12 + 1))), (0, .ref (aa 0)), (1, .int (xI a1)), (3, .int (xI 0))]) hx hb 4 rfl (by decide) rfl dX10_count_41 ?_
        refine gg_goto (tgt := 12) hx hb dX10_count_44 rfl ?_
        refine gg_lv [2, 3, 1, 4, 0] rfl ?_
        exact h)
  refine gg_lv [3, 4, 2, 1, 0] rfl ?_
  exact h
