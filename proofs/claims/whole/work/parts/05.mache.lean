abbrev rmX7_takeOnce : Room := { frames := 5, cells := 0, slots := 0, locals := 109 }
theorem iX7_takeOnce_X7 : ∀ w ∈ u_ws RX7 TX7 1, w ∈ wsX7_takeOnce := (fun _ h => List.mem_cons_of_mem _ (List.mem_append_left _ (List.mem_append_right _ h)))
theorem hd_X7_takeOnce : (yX7_takeOnce.cls = RX7 ∧ yX7_takeOnce.cls ≠ "java/lang/invoke/MethodHandle" ∧ yX7_takeOnce.cls ≠ "java/lang/invoke/VarHandle" ∧ (parseMethodDescriptor yX7_takeOnce.desc).map (fun d => d.parameters.length) = some 1) := by decide +kernel
set_option maxRecDepth 100000 in
set_option maxHeartbeats 4000000 in
theorem c_X7_takeOnce (l : Launch) (D : va_G) (aa : Nat → Nat) (cI cZ cJ : ClassId) (tR tU : Nat) (σ : xSt) (Post : Int → xSt → Prop) (h : wp_X7_takeOnce σ Post) : MI l D (tyL cI cZ cJ) (cX aa cI cZ cJ) tR tU yX7_takeOnce wsX7_takeOnce rmX7_takeOnce [.ref (aa 21), .ref (aa 7)] σ Post := by
  refine mi_of (cc := cX7_takeOnce) (maxL := 4) (ret := (some .int)) (by decide) rfl (Nat.le_of_ble_eq_true rfl) ?_
  intro p e s m args below meth c A hF
  obtain ⟨hx, hb, hr, hml, hown, hts, hlk, hK, hZ, hA⟩ := hF
  have hown : s.vm.findClass RX7 = some m.cls := hown
  delta wp_X7_takeOnce at h
  refine gg_lv (lv' := [(0, .ref (aa 21)), (1, .ref (aa 7))]) [0, 1] rfl ?_
  refine gg_iconst hx hb dX7_takeOnce_0 ?_
  refine gg_istore_n (lv' := [(2, .int (xI 0)), (0, .ref (aa 21)), (1, .ref (aa 7))]) hx hb rfl (by decide) rfl dX7_takeOnce_1 ?_
  have h := h (fun (x2_2 : Int) (s2 : xSt) => GG p l e rmX7_takeOnce s m args below meth c (QI below D (cX aa cI cZ cJ) A args s Post) A D (cX aa cI cZ cJ) 4 s2 2 [(0, .ref (aa 21)), (1, .ref (aa 7)), (2, .int (xI x2_2))] [])
  have h := h (by
    intro x2_2 s2 h
    refine gg_iload_n hx hb 2 rfl rfl dX7_takeOnce_2 ?_
    refine gg_aload_n hx hb 1 rfl rfl dX7_takeOnce_3 ?_
    refine gg_callVip (As := []) (rest := [.int (xI x2_2)]) hx hb hml hown hts hK hZ hA (c_X2_fields l D aa cI cZ cJ tR tU s2 _ h) (cwV 0 hts gX7_takeOnce_X2_fields rfl rfl rfl hd_X2_fields ⟨Nat.le_of_ble_eq_true rfl, Nat.le_of_ble_eq_true rfl⟩) 7 rfl rfl rfl rfl (Nat.le_of_ble_eq_true rfl) dX7_takeOnce_4 (fun r4 h => ?_)
    refine gg_icmp_ge (tgt := 48) hx hb h.1 h.2.1 dX7_takeOnce_7 rfl (fun c7 => ?_) (fun c7 => ?_)
    · have h := h.2.2.1 c7
      refine gg_iconst hx hb dX7_takeOnce_48 ?_
      refine gg_istore_n (lv' := [(2, .int (xI 0)), (0, .ref (aa 21)), (1, .ref (aa 7))]) hx hb rfl (by decide) rfl dX7_takeOnce_49 ?_
      refine gg_iconst hx hb dX7_takeOnce_50 ?_
      refine gg_istore_n (lv' := [(3, .int (xI 0)), (2, .int (xI 0)), (0, .ref (aa 21)), (1, .ref (aa 7))]) hx hb rfl (by decide) rfl dX7_takeOnce_51 ?_
      have h := h (fun (x2_52 x3_52 : Int) (s52 : xSt) => GG p l e rmX7_takeOnce s m args below meth c (QI below D (cX aa cI cZ cJ) A args s Post) A D (cX aa cI cZ cJ) 4 s52 52 [(0, .ref (aa 21)), (1, .ref (aa 7)), (2, .int (xI x2_52)), (3, .int (xI x3_52))] [])
      have h := h (by
        intro x2_52 x3_52 s52 h
        refine gg_iload_n hx hb 3 rfl rfl dX7_takeOnce_52 ?_
        refine gg_aload_n hx hb 1 rfl rfl dX7_takeOnce_53 ?_
        refine gg_callVip (As := []) (rest := [.int (xI x3_52)]) hx hb hml hown hts hK hZ hA (c_X2_fields l D aa cI cZ cJ tR tU s52 _ h) (cwV 0 hts gX7_takeOnce_X2_fields rfl rfl rfl hd_X2_fields ⟨Nat.le_of_ble_eq_true rfl, Nat.le_of_ble_eq_true rfl⟩) 7 rfl rfl rfl rfl (Nat.le_of_ble_eq_true rfl) dX7_takeOnce_54 (fun r54 h => ?_)
        refine gg_icmp_ge (tgt := 95) hx hb h.1 h.2.1 dX7_takeOnce_57 rfl (fun c57 => ?_) (fun c57 => ?_)
        · have h := h.2.2.1 c57
          refine gg_iload_n hx hb 2 rfl rfl dX7_takeOnce_95 ?_
          exact gg_iret hx hb hr hlk h dX7_takeOnce_96
        · have h := h.2.2.2 c57
          refine gg_aload_n hx hb 0 rfl rfl dX7_takeOnce_60 ?_
          refine gg_get (C := RX7) (T := TX7) (N := 1) hx hb hts hown hK iX7_takeOnce_X7 21 rfl rfl 0 (by decide) (List.mem_of_getElem? (i := 1) rfl) rfl dX7_takeOnce_61 ?_
          refine gg_iload_n hx hb 3 rfl rfl dX7_takeOnce_64 ?_
          refine gg_zald hx hb hK 22 1 rfl rfl (by decide) h.1 dX7_takeOnce_65 ?_
          have h := h.2
          refine gg_if_eq (tgt := 89) hx hb h.1 dX7_takeOnce_66 rfl (fun c66 => ?_) (fun c66 => ?_)
          · have h := h.2.1 c66
            refine gg_iinc (lv' := [(3, .int (xI (x3_52 + 1))), (0, .ref (aa 21)), (1, .ref (aa 7)), (2, .int (xI x2_52))]) hx hb 3 rfl (by decide) rfl dX7_takeOnce_89 ?_
            refine gg_goto (tgt := 52) hx hb dX7_takeOnce_92 rfl ?_
            refine gg_lv [1, 2, 3, 0] rfl ?_
            exact h
          · have h := h.2.2 c66
            refine gg_aload_n hx hb 1 rfl rfl dX7_takeOnce_69 ?_
            refine gg_iload_n hx hb 3 rfl rfl dX7_takeOnce_70 ?_
            refine gg_callVip (As := [.int (xI x3_52)]) (rest := []) hx hb hml hown hts hK hZ hA (c_X2_eightAbout l D aa cI cZ cJ tR tU x3_52 s52 _ h) (cwV 1 hts gX7_takeOnce_X2_eightAbout rfl rfl rfl hd_X2_eightAbout ⟨Nat.le_of_ble_eq_true rfl, Nat.le_of_ble_eq_true rfl⟩) 7 rfl rfl rfl rfl (Nat.le_of_ble_eq_true rfl) dX7_takeOnce_71 (fun r71 h => ?_)
            refine gg_callSip (As := [.int (xI r71)]) (rest := []) hx hb hml hown hts hK hZ hA (c_X7_mayGo l D aa cI cZ cJ tR tU r71 s52 _ h) (va_cwS 1 hts gX7_takeOnce_X7_mayGo rfl rfl rfl hd_X7_mayGo ⟨Nat.le_of_ble_eq_true rfl, Nat.le_of_ble_eq_true rfl⟩) rfl rfl (Nat.le_of_ble_eq_true rfl) dX7_takeOnce_74 (fun r74 h => ?_)
            refine gg_if_eq (tgt := 89) hx hb h.1 dX7_takeOnce_77 rfl (fun c77 => ?_) (fun c77 => ?_)
            · have h := h.2.1 c77
              refine gg_iinc (lv' := [(3, .int (xI (x3_52 + 1))), (0, .ref (aa 21)), (1, .ref (aa 7)), (2, .int (xI x2_52))]) hx hb 3 rfl (by decide) rfl dX7_takeOnce_89 ?_
              refine gg_goto (tgt := 52) hx hb dX7_takeOnce_92 rfl ?_
              refine gg_lv [1, 2, 3, 0] rfl ?_
              exact h
            · have h := h.2.2 c77
              refine gg_aload_n hx hb 1 rfl rfl dX7_takeOnce_80 ?_
              refine gg_iload_n hx hb 3 rfl rfl dX7_takeOnce_81 ?_
              refine gg_iconst hx hb dX7_takeOnce_82 ?_
              refine gg_callVv (As := [.int (xI x3_52), .int (xI 0)]) (rest := []) hx hb hml hown hts hK hZ hA (c_X2_put l D aa cI cZ cJ tR tU x3_52 0 s52 _ h) (cwV 2 hts gX7_takeOnce_X2_put rfl rfl rfl hd_X2_put ⟨Nat.le_of_ble_eq_true rfl, Nat.le_of_ble_eq_true rfl⟩) 7 rfl rfl rfl rfl (Nat.le_of_ble_eq_true rfl) dX7_takeOnce_83 (fun t83 h => ?_)
              refine gg_iinc (lv' := [(2, .int (xI (x2_52 + 1))), (0, .ref (aa 21)), (1, .ref (aa 7)), (3, .int (xI x3_52))]) hx hb 2 rfl (by decide) rfl dX7_takeOnce_86 ?_
              refine gg_iinc (lv' := [(3, .int (xI (x3_52 + 1))), (2, .int (xI (x2_52 + 1))), (0, .ref (aa 21)), (1, .ref (aa 7))]) hx hb 3 rfl (by decide) rfl dX7_takeOnce_89 ?_
              refine gg_goto (tgt := 52) hx hb dX7_takeOnce_92 rfl ?_
              refine gg_lv [2, 3, 1, 0] rfl ?_
              exact h)
      refine gg_lv [2, 3, 1, 0] rfl ?_
      exact h
    · have h := h.2.2.2 c7
      refine gg_aload_n hx hb 0 rfl rfl dX7_takeOnce_10 ?_
      refine gg_get (C := RX7) (T := TX7) (N := 1) hx hb hts hown hK iX7_takeOnce_X7 21 rfl rfl 0 (by decide) (List.mem_of_getElem? (i := 1) rfl) rfl dX7_takeOnce_11 ?_
      refine gg_iload_n hx hb 2 rfl rfl dX7_takeOnce_14 ?_
      refine gg_aload_n hx hb 1 rfl rfl dX7_takeOnce_15 ?_
      refine gg_iload_n hx hb 2 rfl rfl dX7_takeOnce_16 ?_
      refine gg_callVip (As := [.int (xI x2_2)]) (rest := [.int (xI x2_2), .ref (aa 22)]) hx hb hml hown hts hK hZ hA (c_X2_holds l D aa cI cZ cJ tR tU x2_2 s2 _ h) (cwV 1 hts gX7_takeOnce_X2_holds rfl rfl rfl hd_X2_holds ⟨Nat.le_of_ble_eq_true rfl, Nat.le_of_ble_eq_true rfl⟩) 7 rfl rfl rfl rfl (Nat.le_of_ble_eq_true rfl) dX7_takeOnce_17 (fun r17 h => ?_)
      refine gg_if_eq (tgt := 40) hx hb h.1 dX7_takeOnce_20 rfl (fun c20 => ?_) (fun c20 => ?_)
      · have h := h.2.1 c20
        refine gg_iconst hx hb dX7_takeOnce_40 ?_
        refine gg_zast hx hb hK 22 1 rfl rfl (cX_st_22 aa cI cZ cJ _ _) (by decide) h.1 (Or.inl rfl) dX7_takeOnce_41 (fun σ_41 e41 => ?_)
        have h := h.2 σ_41 e41
        refine gg_iinc (lv' := [(2, .int (xI (x2_2 + 1))), (0, .ref (aa 21)), (1, .ref (aa 7))]) hx hb 2 rfl (by decide) rfl dX7_takeOnce_42 ?_
        refine gg_goto (tgt := 2) hx hb dX7_takeOnce_45 rfl ?_
        refine gg_lv [1, 2, 0] rfl ?_
        exact h
      · have h := h.2.2 c20
        refine gg_aload_n hx hb 1 rfl rfl dX7_takeOnce_23 ?_
        refine gg_iload_n hx hb 2 rfl rfl dX7_takeOnce_24 ?_
        refine gg_callVip (As := [.int (xI x2_2)]) (rest := [.int (xI x2_2), .ref (aa 22)]) hx hb hml hown hts hK hZ hA (c_X2_eightAbout l D aa cI cZ cJ tR tU x2_2 s2 _ h) (cwV 1 hts gX7_takeOnce_X2_eightAbout rfl rfl rfl hd_X2_eightAbout ⟨Nat.le_of_ble_eq_true rfl, Nat.le_of_ble_eq_true rfl⟩) 7 rfl rfl rfl rfl (Nat.le_of_ble_eq_true rfl) dX7_takeOnce_25 (fun r25 h => ?_)
        refine gg_bipush hx hb dX7_takeOnce_28 rfl ?_
        refine gg_iand hx hb dX7_takeOnce_30 ?_
        refine gg_bipush hx hb dX7_takeOnce_31 rfl ?_
        refine gg_icmp_eq (tgt := 40) hx hb h.1 (by decide) dX7_takeOnce_33 rfl (fun c33 => ?_) (fun c33 => ?_)
        · have h := h.2.1 c33
          refine gg_iconst hx hb dX7_takeOnce_40 ?_
          refine gg_zast hx hb hK 22 1 rfl rfl (cX_st_22 aa cI cZ cJ _ _) (by decide) h.1 (Or.inl rfl) dX7_takeOnce_41 (fun σ_41 e41 => ?_)
          have h := h.2 σ_41 e41
          refine gg_iinc (lv' := [(2, .int (xI (x2_2 + 1))), (0, .ref (aa 21)), (1, .ref (aa 7))]) hx hb 2 rfl (by decide) rfl dX7_takeOnce_42 ?_
          refine gg_goto (tgt := 2) hx hb dX7_takeOnce_45 rfl ?_
          refine gg_lv [1, 2, 0] rfl ?_
          exact h
        · have h := h.2.2 c33
          refine gg_iconst hx hb dX7_takeOnce_36 ?_
          refine gg_goto (tgt := 41) hx hb dX7_takeOnce_37 rfl ?_
          refine gg_zast hx hb hK 22 1 rfl rfl (cX_st_22 aa cI cZ cJ _ _) (by decide) h.1 (Or.inr rfl) dX7_takeOnce_41 (fun σ_41 e41 => ?_)
          have h := h.2 σ_41 e41
          refine gg_iinc (lv' := [(2, .int (xI (x2_2 + 1))), (0, .ref (aa 21)), (1, .ref (aa 7))]) hx hb 2 rfl (by decide) rfl dX7_takeOnce_42 ?_
          refine gg_goto (tgt := 2) hx hb dX7_takeOnce_45 rfl ?_
          refine gg_lv [1, 2, 0] rfl ?_
          exact h)
  refine gg_lv [1, 2, 0] rfl ?_
  exact h
abbrev rmX9_thinning : Room := { frames := 6, cells := 0, slots := 0, locals := 132 }
theorem iX9_thinning_X9 : ∀ w ∈ u_ws RX9 TX9 9, w ∈ wsX9_thinning := (fun _ h => List.mem_cons_of_mem _ (List.mem_append_left _ (List.mem_append_left _ (List.mem_append_right _ h))))
theorem hd_X9_thinning : (yX9_thinning.cls = RX9 ∧ yX9_thinning.cls ≠ "java/lang/invoke/MethodHandle" ∧ yX9_thinning.cls ≠ "java/lang/invoke/VarHandle" ∧ (parseMethodDescriptor yX9_thinning.desc).map (fun d => d.parameters.length) = some 0) := by decide +kernel
set_option maxRecDepth 100000 in
set_option maxHeartbeats 4000000 in
theorem c_X9_thinning (l : Launch) (D : va_G) (aa : Nat → Nat) (cI cZ cJ : ClassId) (tR tU : Nat) (σ : xSt) (Post : Int → xSt → Prop) (h : wp_X9_thinning σ Post) : MI l D (tyL cI cZ cJ) (cX aa cI cZ cJ) tR tU yX9_thinning wsX9_thinning rmX9_thinning [.ref (aa 0)] σ Post := by
  refine mi_of (cc := cX9_thinning) (maxL := 1) (ret := (some .int)) (by decide) rfl (Nat.le_of_ble_eq_true rfl) ?_
  intro p e s m args below meth c A hF
  obtain ⟨hx, hb, hr, hml, hown, hts, hlk, hK, hZ, hA⟩ := hF
  have hown : s.vm.findClass RX9 = some m.cls := hown
  delta wp_X9_thinning at h
  refine gg_lv (lv' := [(0, .ref (aa 0))]) [0] rfl ?_
  refine gg_aload_n hx hb 0 rfl rfl dX9_thinning_0 ?_
  refine gg_get (C := RX9) (T := TX9) (N := 9) hx hb hts hown hK iX9_thinning_X9 0 rfl rfl 8 (by decide) (List.mem_of_getElem? (i := 1) rfl) rfl dX9_thinning_1 ?_
  refine gg_aload_n hx hb 0 rfl rfl dX9_thinning_4 ?_
  refine gg_get (C := RX9) (T := TX9) (N := 9) hx hb hts hown hK iX9_thinning_X9 0 rfl rfl 2 (by decide) (List.mem_of_getElem? (i := 2) rfl) rfl dX9_thinning_5 ?_
  refine gg_callVi (As := [.ref (aa 7)]) (rest := []) hx hb hml hown hts hK hZ hA (c_X7_takeOnce l D aa cI cZ cJ tR tU σ _ h) (cwV 1 hts gX9_thinning_X7_takeOnce rfl rfl rfl hd_X7_takeOnce ⟨Nat.le_of_ble_eq_true rfl, Nat.le_of_ble_eq_true rfl⟩) 21 rfl rfl rfl rfl (Nat.le_of_ble_eq_true rfl) dX9_thinning_8 (fun r8 t8 h => ?_)
  exact gg_iret hx hb hr hlk h dX9_thinning_11
abbrev rmX9_thin : Room := { frames := 6, cells := 0, slots := 0, locals := 132 }
theorem iX9_thin_X9 : ∀ w ∈ u_ws RX9 TX9 9, w ∈ wsX9_thin := (fun _ h => List.mem_cons_of_mem _ (List.mem_append_left _ (List.mem_append_left _ (List.mem_append_right _ h))))
theorem hd_X9_thin : (yX9_thin.cls = RX9 ∧ yX9_thin.cls ≠ "java/lang/invoke/MethodHandle" ∧ yX9_thin.cls ≠ "java/lang/invoke/VarHandle" ∧ (parseMethodDescriptor yX9_thin.desc).map (fun d => d.parameters.length) = some 0) := by decide +kernel
set_option maxRecDepth 100000 in
set_option maxHeartbeats 4000000 in
theorem c_X9_thin (l : Launch) (D : va_G) (aa : Nat → Nat) (cI cZ cJ : ClassId) (tR tU : Nat) (σ : xSt) (Post : Int → xSt → Prop) (h : wp_X9_thin σ Post) : MI l D (tyL cI cZ cJ) (cX aa cI cZ cJ) tR tU yX9_thin wsX9_thin rmX9_thin [.ref (aa 0)] σ Post := by
  refine mi_of (cc := cX9_thin) (maxL := 4) (ret := (some .int)) (by decide) rfl (Nat.le_of_ble_eq_true rfl) ?_
  intro p e s m args below meth c A hF
  obtain ⟨hx, hb, hr, hml, hown, hts, hlk, hK, hZ, hA⟩ := hF
  have hown : s.vm.findClass RX9 = some m.cls := hown
  delta wp_X9_thin at h
  refine gg_lv (lv' := [(0, .ref (aa 0))]) [0] rfl ?_
  refine gg_iconst hx hb dX9_thin_0 ?_
  refine gg_istore_n (lv' := [(1, .int (xI 0)), (0, .ref (aa 0))]) hx hb rfl (by decide) rfl dX9_thin_1 ?_
  refine gg_iconst hx hb dX9_thin_2 ?_
  refine gg_istore_n (lv' := [(2, .int (xI 0)), (1, .int (xI 0)), (0, .ref (aa 0))]) hx hb rfl (by decide) rfl dX9_thin_3 ?_
  have h := h (fun (x1_4 x2_4 : Int) (s4 : xSt) => GG p l e rmX9_thin s m args below meth c (QI below D (cX aa cI cZ cJ) A args s Post) A D (cX aa cI cZ cJ) 4 s4 4 [(0, .ref (aa 0)), (1, .int (xI x1_4)), (2, .int (xI x2_4))] [])
  have h := h (by
    intro x1_4 x2_4 s4 h
    refine gg_iload_n hx hb 2 rfl rfl dX9_thin_4 ?_
    refine gg_sipush hx hb dX9_thin_5 rfl ?_
    refine gg_icmp_gt (tgt := 40) hx hb h.1 (by decide) dX9_thin_8 rfl (fun c8 => ?_) (fun c8 => ?_)
    · have h := h.2.1 c8
      refine gg_iload_n hx hb 1 rfl rfl dX9_thin_40 ?_
      exact gg_iret hx hb hr hlk h dX9_thin_41
    · have h := h.2.2 c8
      refine gg_aload_n hx hb 0 rfl rfl dX9_thin_11 ?_
      refine gg_get (C := RX9) (T := TX9) (N := 9) hx hb hts hown hK iX9_thin_X9 0 rfl rfl 8 (by decide) (List.mem_of_getElem? (i := 1) rfl) rfl dX9_thin_12 ?_
      refine gg_aload_n hx hb 0 rfl rfl dX9_thin_15 ?_
      refine gg_get (C := RX9) (T := TX9) (N := 9) hx hb hts hown hK iX9_thin_X9 0 rfl rfl 2 (by decide) (List.mem_of_getElem? (i := 2) rfl) rfl dX9_thin_16 ?_
      refine gg_callVi (As := [.ref (aa 7)]) (rest := []) hx hb hml hown hts hK hZ hA (c_X7_takeOnce l D aa cI cZ cJ tR tU s4 _ h) (cwV 1 hts gX9_thin_X7_takeOnce rfl rfl rfl hd_X7_takeOnce ⟨Nat.le_of_ble_eq_true rfl, Nat.le_of_ble_eq_true rfl⟩) 21 rfl rfl rfl rfl (Nat.le_of_ble_eq_true rfl) dX9_thin_19 (fun r19 t19 h => ?_)
      refine gg_istore_n (lv' := [(3, .int (xI r19)), (0, .ref (aa 0)), (1, .int (xI x1_4)), (2, .int (xI x2_4))]) hx hb rfl (by decide) rfl dX9_thin_22 ?_
      refine gg_iload_n hx hb 0 rfl rfl dX9_thin_23 ?_
      refine gg_if_ne (tgt := 30) hx hb h.1 dX9_thin_24 rfl (fun c24 => ?_) (fun c24 => ?_)
      · have h := h.2.1 c24
        refine gg_iload_n hx hb 2 rfl rfl dX9_thin_30 ?_
        refine gg_iload_n hx hb 0 rfl rfl dX9_thin_31 ?_
        refine gg_iadd hx hb dX9_thin_32 ?_
        refine gg_istore_n (lv' := [(1, .int (xI (x1_4 + r19))), (3, .int (xI r19)), (0, .ref (aa 0)), (2, .int (xI x2_4))]) hx hb rfl (by decide) rfl dX9_thin_33 ?_
        refine gg_iinc (lv' := [(2, .int (xI (x2_4 + 1))), (1, .int (xI (x1_4 + r19))), (3, .int (xI r19)), (0, .ref (aa 0))]) hx hb 3 rfl (by decide) rfl dX9_thin_34 ?_
        refine gg_goto (tgt := 4) hx hb dX9_thin_37 rfl ?_
        refine gg_lv [3, 1, 0] rfl ?_
        exact h
      · have h := h.2.2 c24
        refine gg_goto (tgt := 40) hx hb dX9_thin_27 rfl ?_
        refine gg_iload_n hx hb 2 rfl rfl dX9_thin_40 ?_
        exact gg_iret hx hb hr hlk h dX9_thin_41)
  refine gg_lv [2, 1, 0] rfl ?_
  exact h
abbrev rmX6_evenSteps : Room := { frames := 0, cells := 0, slots := 0, locals := 0 }
theorem iX6_evenSteps_X6 : ∀ w ∈ u_ws RX6 TX6 4, w ∈ wsX6_evenSteps := (fun _ h => List.mem_cons_of_mem _ (List.mem_append_right _ h))
theorem hd_X6_evenSteps : (yX6_evenSteps.cls = RX6 ∧ yX6_evenSteps.cls ≠ "java/lang/invoke/MethodHandle" ∧ yX6_evenSteps.cls ≠ "java/lang/invoke/VarHandle" ∧ (parseMethodDescriptor yX6_evenSteps.desc).map (fun d => d.parameters.length) = some 0) := by decide +kernel
set_option maxRecDepth 100000 in
set_option maxHeartbeats 4000000 in
theorem c_X6_evenSteps (l : Launch) (D : va_G) (aa : Nat → Nat) (cI cZ cJ : ClassId) (tR tU : Nat) (σ : xSt) (Post : Int → Prop) (h : wp_X6_evenSteps σ Post) : MI l D (tyL cI cZ cJ) (cX aa cI cZ cJ) tR tU yX6_evenSteps wsX6_evenSteps rmX6_evenSteps [.ref (aa 1)] σ (fun r9 σ9 => σ9 = σ ∧ Post r9) := by
  refine mi_of (cc := cX6_evenSteps) (maxL := 3) (ret := (some .int)) (by decide) rfl (Nat.le_of_ble_eq_true rfl) ?_
  intro p e s m args below meth c A hF
  obtain ⟨hx, hb, hr, hml, hown, hts, hlk, hK, hZ, hA⟩ := hF
  have hown : s.vm.findClass RX6 = some m.cls := hown
  delta wp_X6_evenSteps at h
  refine gg_lv (lv' := [(0, .ref (aa 1))]) [0] rfl ?_
  refine gg_iconst hx hb dX6_evenSteps_0 ?_
  refine gg_istore_n (lv' := [(1, .int (xI 0)), (0, .ref (aa 1))]) hx hb rfl (by decide) rfl dX6_evenSteps_1 ?_
  refine gg_iconst hx hb dX6_evenSteps_2 ?_
  refine gg_istore_n (lv' := [(2, .int (xI 0)), (1, .int (xI 0)), (0, .ref (aa 1))]) hx hb rfl (by decide) rfl dX6_evenSteps_3 ?_
  have h := h (fun (x1_4 x2_4 : Int) => GG p l e rmX6_evenSteps s m args below meth c (QI below D (cX aa cI cZ cJ) A args s (fun r9 σ9 => σ9 = σ ∧ Post r9)) A D (cX aa cI cZ cJ) 3 σ 4 [(0, .ref (aa 1)), (1, .int (xI x1_4)), (2, .int (xI x2_4))] [])
  have h := h (by
    intro x1_4 x2_4 h
    refine gg_iload_n hx hb 2 rfl rfl dX6_evenSteps_4 ?_
    refine gg_aload_n hx hb 0 rfl rfl dX6_evenSteps_5 ?_
    refine gg_get (C := RX6) (T := TX6) (N := 4) hx hb hts hown hK iX6_evenSteps_X6 1 rfl rfl 3 (by decide) (List.mem_of_getElem? (i := 1) rfl) rfl dX6_evenSteps_6 ?_
    refine gg_icmp_ge (tgt := 32) hx hb h.1 h.2.1 dX6_evenSteps_9 rfl (fun c9 => ?_) (fun c9 => ?_)
    · have h := h.2.2.1 c9
      refine gg_iload_n hx hb 1 rfl rfl dX6_evenSteps_32 ?_
      exact gg_iret hx hb hr hlk ⟨rfl, h⟩ dX6_evenSteps_33
    · have h := h.2.2.2 c9
      refine gg_aload_n hx hb 0 rfl rfl dX6_evenSteps_12 ?_
      refine gg_get (C := RX6) (T := TX6) (N := 4) hx hb hts hown hK iX6_evenSteps_X6 1 rfl rfl 0 (by decide) (List.mem_of_getElem? (i := 2) rfl) rfl dX6_evenSteps_13 ?_
      refine gg_iload_n hx hb 2 rfl rfl dX6_evenSteps_16 ?_
      refine gg_iald hx hb hK 2 0 rfl rfl (by decide) h.1 dX6_evenSteps_17 ?_
      have h := h.2
      refine gg_iconst hx hb dX6_evenSteps_18 ?_
      refine gg_irem hx hb h.1 h.2.1 h.2.2.1 dX6_evenSteps_19 ?_
      have h := h.2.2.2
      refine gg_if_ne (tgt := 26) hx hb h.1 dX6_evenSteps_20 rfl (fun c20 => ?_) (fun c20 => ?_)
      · have h := h.2.1 c20
        refine gg_iinc (lv' := [(2, .int (xI (x2_4 + 1))), (0, .ref (aa 1)), (1, .int (xI x1_4))]) hx hb 2 rfl (by decide) rfl dX6_evenSteps_26 ?_
        refine gg_goto (tgt := 4) hx hb dX6_evenSteps_29 rfl ?_
        refine gg_lv [1, 2, 0] rfl ?_
        exact h
      · have h := h.2.2 c20
        refine gg_iinc (lv' := [(1, .int (xI (x1_4 + 1))), (0, .ref (aa 1)), (2, .int (xI x2_4))]) hx hb 1 rfl (by decide) rfl dX6_evenSteps_23 ?_
        refine gg_iinc (lv' := [(2, .int (xI (x2_4 + 1))), (1, .int (xI (x1_4 + 1))), (0, .ref (aa 1))]) hx hb 2 rfl (by decide) rfl dX6_evenSteps_26 ?_
        refine gg_goto (tgt := 4) hx hb dX6_evenSteps_29 rfl ?_
        refine gg_lv [2, 1, 0] rfl ?_
        exact h)
  refine gg_lv [2, 1, 0] rfl ?_
  exact h
abbrev rmX2_heapOnEdge : Room := { frames := 3, cells := 0, slots := 0, locals := 62 }
theorem hd_X2_heapOnEdge : (yX2_heapOnEdge.cls = RX2 ∧ yX2_heapOnEdge.cls ≠ "java/lang/invoke/MethodHandle" ∧ yX2_heapOnEdge.cls ≠ "java/lang/invoke/VarHandle" ∧ (parseMethodDescriptor yX2_heapOnEdge.desc).map (fun d => d.parameters.length) = some 0) := by decide +kernel
set_option maxRecDepth 100000 in
set_option maxHeartbeats 4000000 in
theorem c_X2_heapOnEdge (l : Launch) (D : va_G) (aa : Nat → Nat) (cI cZ cJ : ClassId) (tR tU : Nat) (σ : xSt) (Post : Int → Prop) (h : wp_X2_heapOnEdge σ Post) : MI l D (tyL cI cZ cJ) (cX aa cI cZ cJ) tR tU yX2_heapOnEdge wsX2_heapOnEdge rmX2_heapOnEdge [.ref (aa 7)] σ (fun r9 σ9 => σ9 = σ ∧ Post r9) := by
  refine mi_of (cc := cX2_heapOnEdge) (maxL := 3) (ret := (some .int)) (by decide) rfl (Nat.le_of_ble_eq_true rfl) ?_
  intro p e s m args below meth c A hF
  obtain ⟨hx, hb, hr, hml, hown, hts, hlk, hK, hZ, hA⟩ := hF
  have hown : s.vm.findClass RX2 = some m.cls := hown
  delta wp_X2_heapOnEdge at h
  refine gg_lv (lv' := [(0, .ref (aa 7))]) [0] rfl ?_
  refine gg_iconst hx hb dX2_heapOnEdge_0 ?_
  refine gg_istore_n (lv' := [(1, .int (xI 0)), (0, .ref (aa 7))]) hx hb rfl (by decide) rfl dX2_heapOnEdge_1 ?_
  refine gg_iconst hx hb dX2_heapOnEdge_2 ?_
  refine gg_istore_n (lv' := [(2, .int (xI 0)), (1, .int (xI 0)), (0, .ref (aa 7))]) hx hb rfl (by decide) rfl dX2_heapOnEdge_3 ?_
  have h := h (fun (x1_4 x2_4 : Int) => GG p l e rmX2_heapOnEdge s m args below meth c (QI below D (cX aa cI cZ cJ) A args s (fun r9 σ9 => σ9 = σ ∧ Post r9)) A D (cX aa cI cZ cJ) 3 σ 4 [(0, .ref (aa 7)), (1, .int (xI x1_4)), (2, .int (xI x2_4))] [])
  have h := h (by
    intro x1_4 x2_4 h
    refine gg_iload_n hx hb 2 rfl rfl dX2_heapOnEdge_4 ?_
    refine gg_aload_n hx hb 0 rfl rfl dX2_heapOnEdge_5 ?_
    refine gg_callVip (As := []) (rest := [.int (xI x2_4)]) hx hb hml hown hts hK hZ hA (c_X2_fields l D aa cI cZ cJ tR tU σ _ h) (cwV 0 hts gX2_heapOnEdge_X2_fields rfl rfl rfl hd_X2_fields ⟨Nat.le_of_ble_eq_true rfl, Nat.le_of_ble_eq_true rfl⟩) 7 rfl rfl rfl rfl (Nat.le_of_ble_eq_true rfl) dX2_heapOnEdge_6 (fun r6 h => ?_)
    refine gg_icmp_ge (tgt := 37) hx hb h.1 h.2.1 dX2_heapOnEdge_9 rfl (fun c9 => ?_) (fun c9 => ?_)
    · have h := h.2.2.1 c9
      refine gg_iload_n hx hb 1 rfl rfl dX2_heapOnEdge_37 ?_
      exact gg_iret hx hb hr hlk ⟨rfl, h⟩ dX2_heapOnEdge_38
    · have h := h.2.2.2 c9
      refine gg_aload_n hx hb 0 rfl rfl dX2_heapOnEdge_12 ?_
      refine gg_iload_n hx hb 2 rfl rfl dX2_heapOnEdge_13 ?_
      refine gg_callVip (As := [.int (xI x2_4)]) (rest := []) hx hb hml hown hts hK hZ hA (c_X2_holds l D aa cI cZ cJ tR tU x2_4 σ _ h) (cwV 1 hts gX2_heapOnEdge_X2_holds rfl rfl rfl hd_X2_holds ⟨Nat.le_of_ble_eq_true rfl, Nat.le_of_ble_eq_true rfl⟩) 7 rfl rfl rfl rfl (Nat.le_of_ble_eq_true rfl) dX2_heapOnEdge_14 (fun r14 h => ?_)
      refine gg_if_eq (tgt := 31) hx hb h.1 dX2_heapOnEdge_17 rfl (fun c17 => ?_) (fun c17 => ?_)
      · have h := h.2.1 c17
        refine gg_iinc (lv' := [(2, .int (xI (x2_4 + 1))), (0, .ref (aa 7)), (1, .int (xI x1_4))]) hx hb 2 rfl (by decide) rfl dX2_heapOnEdge_31 ?_
        refine gg_goto (tgt := 4) hx hb dX2_heapOnEdge_34 rfl ?_
        refine gg_lv [1, 2, 0] rfl ?_
        exact h
      · have h := h.2.2 c17
        refine gg_aload_n hx hb 0 rfl rfl dX2_heapOnEdge_20 ?_
        refine gg_iload_n hx hb 2 rfl rfl dX2_heapOnEdge_21 ?_
        refine gg_callVip (As := [.int (xI x2_4)]) (rest := []) hx hb hml hown hts hK hZ hA (c_X2_onEdge l D aa cI cZ cJ tR tU x2_4 σ _ h) (cwV 1 hts gX2_heapOnEdge_X2_onEdge rfl rfl rfl hd_X2_onEdge ⟨Nat.le_of_ble_eq_true rfl, Nat.le_of_ble_eq_true rfl⟩) 7 rfl rfl rfl rfl (Nat.le_of_ble_eq_true rfl) dX2_heapOnEdge_22 (fun r22 h => ?_)
        refine gg_if_eq (tgt := 31) hx hb h.1 dX2_heapOnEdge_25 rfl (fun c25 => ?_) (fun c25 => ?_)
        · have h := h.2.1 c25
          refine gg_iinc (lv' := [(2, .int (xI (x2_4 + 1))), (0, .ref (aa 7)), (1, .int (xI x1_4))]) hx hb 2 rfl (by decide) rfl dX2_heapOnEdge_31 ?_
          refine gg_goto (tgt := 4) hx hb dX2_heapOnEdge_34 rfl ?_
          refine gg_lv [1, 2, 0] rfl ?_
          exact h
        · have h := h.2.2 c25
          refine gg_iinc (lv' := [(1, .int (xI (x1_4 + 1))), (0, .ref (aa 7)), (2, .int (xI x2_4))]) hx hb 1 rfl (by decide) rfl dX2_heapOnEdge_28 ?_
          refine gg_iinc (lv' := [(2, .int (xI (x2_4 + 1))), (1, .int (xI (x1_4 + 1))), (0, .ref (aa 7))]) hx hb 2 rfl (by decide) rfl dX2_heapOnEdge_31 ?_
          refine gg_goto (tgt := 4) hx hb dX2_heapOnEdge_34 rfl ?_
          refine gg_lv [2, 1, 0] rfl ?_
          exact h)
  refine gg_lv [2, 1, 0] rfl ?_
  exact h
abbrev rmX9_count : Room := { frames := 4, cells := 0, slots := 0, locals := 84 }
theorem iX9_count_X9 : ∀ w ∈ u_ws RX9 TX9 9, w ∈ wsX9_count := (fun _ h => List.mem_cons_of_mem _ (List.mem_append_left _ (List.mem_append_left _ (List.mem_append_right _ h))))
theorem tbo_X9_count (a : Int) (c0 : ¬ a = 0) (c1 : ¬ a = 1) (c2 : ¬ a = 2) (c3 : ¬ a = 3) (c4 : ¬ a = 4) : a < 0 ∨ 4 < a := by omega
theorem hd_X9_count : (yX9_count.cls = RX9 ∧ yX9_count.cls ≠ "java/lang/invoke/MethodHandle" ∧ yX9_count.cls ≠ "java/lang/invoke/VarHandle" ∧ (parseMethodDescriptor yX9_count.desc).map (fun d => d.parameters.length) = some 1) := by decide +kernel
set_option maxRecDepth 100000 in
set_option maxHeartbeats 4000000 in
theorem c_X9_count (l : Launch) (D : va_G) (aa : Nat → Nat) (cI cZ cJ : ClassId) (tR tU : Nat) (a1 : Int) (σ : xSt) (Post : Int → Prop) (h : wp_X9_count a1 σ Post) : MI l D (tyL cI cZ cJ) (cX aa cI cZ cJ) tR tU yX9_count wsX9_count rmX9_count [.ref (aa 0), .int (xI a1)] σ (fun r9 σ9 => σ9 = σ ∧ Post r9) := by
  refine mi_of (cc := cX9_count) (maxL := 2) (ret := (some .int)) (by decide) rfl (Nat.le_of_ble_eq_true rfl) ?_
  intro p e s m args below meth c A hF
  obtain ⟨hx, hb, hr, hml, hown, hts, hlk, hK, hZ, hA⟩ := hF
  have hown : s.vm.findClass RX9 = some m.cls := hown
  delta wp_X9_count at h
  refine gg_lv (lv' := [(0, .ref (aa 0)), (1, .int (xI a1))]) [0, 1] rfl ?_
  refine gg_iload_n hx hb 1 rfl rfl dX9_count_0 ?_
  have hq := h.1
  have h := h.2
  by_cases c1_0 : a1 = 0
  · have h := h.1 c1_0
    refine gg_tableIn (k := 0) (tgt := 36) hx hb hq c1_0 dX9_count_1 (by decide) (by decide) rfl rfl ?_
    refine gg_aload_n hx hb 0 rfl rfl dX9_count_36 ?_
    refine gg_get (C := RX9) (T := TX9) (N := 9) hx hb hts hown hK iX9_count_X9 0 rfl rfl 0 (by decide) (List.mem_of_getElem? (i := 1) rfl) rfl dX9_count_37 ?_
    refine gg_callVip (As := []) (rest := []) hx hb hml hown hts hK hZ hA (c_X6_steps l D aa cI cZ cJ tR tU σ _ h) (cwV 0 hts gX9_count_X6_steps rfl rfl rfl hd_X6_steps ⟨Nat.le_of_ble_eq_true rfl, Nat.le_of_ble_eq_true rfl⟩) 1 rfl rfl rfl rfl (Nat.le_of_ble_eq_true rfl) dX9_count_40 (fun r40 h => ?_)
    exact gg_iret hx hb hr hlk ⟨rfl, h⟩ dX9_count_43
  have h := h.2
  by_cases c1_1 : a1 = 1
  · have h := h.1 c1_1
    refine gg_tableIn (k := 1) (tgt := 44) hx hb hq c1_1 dX9_count_1 (by decide) (by decide) rfl rfl ?_
    refine gg_aload_n hx hb 0 rfl rfl dX9_count_44 ?_
    refine gg_get (C := RX9) (T := TX9) (N := 9) hx hb hts hown hK iX9_count_X9 0 rfl rfl 2 (by decide) (List.mem_of_getElem? (i := 2) rfl) rfl dX9_count_45 ?_
    refine gg_callVip (As := []) (rest := []) hx hb hml hown hts hK hZ hA (c_X2_width l D aa cI cZ cJ tR tU σ _ h) (cwV 0 hts gX9_count_X2_width rfl rfl rfl hd_X2_width ⟨Nat.le_of_ble_eq_true rfl, Nat.le_of_ble_eq_true rfl⟩) 7 rfl rfl rfl rfl (Nat.le_of_ble_eq_true rfl) dX9_count_48 (fun r48 h => ?_)
    exact gg_iret hx hb hr hlk ⟨rfl, h⟩ dX9_count_51
  have h := h.2
  by_cases c1_2 : a1 = 2
  · have h := h.1 c1_2
    refine gg_tableIn (k := 2) (tgt := 52) hx hb hq c1_2 dX9_count_1 (by decide) (by decide) rfl rfl ?_
    refine gg_aload_n hx hb 0 rfl rfl dX9_count_52 ?_
    refine gg_get (C := RX9) (T := TX9) (N := 9) hx hb hts hown hK iX9_count_X9 0 rfl rfl 2 (by decide) (List.mem_of_getElem? (i := 2) rfl) rfl dX9_count_53 ?_
    refine gg_callVip (As := []) (rest := []) hx hb hml hown hts hK hZ hA (c_X2_height l D aa cI cZ cJ tR tU σ _ h) (cwV 0 hts gX9_count_X2_height rfl rfl rfl hd_X2_height ⟨Nat.le_of_ble_eq_true rfl, Nat.le_of_ble_eq_true rfl⟩) 7 rfl rfl rfl rfl (Nat.le_of_ble_eq_true rfl) dX9_count_56 (fun r56 h => ?_)
    exact gg_iret hx hb hr hlk ⟨rfl, h⟩ dX9_count_59
  have h := h.2
  by_cases c1_3 : a1 = 3
  · have h := h.1 c1_3
    refine gg_tableIn (k := 3) (tgt := 60) hx hb hq c1_3 dX9_count_1 (by decide) (by decide) rfl rfl ?_
    refine gg_aload_n hx hb 0 rfl rfl dX9_count_60 ?_
    refine gg_get (C := RX9) (T := TX9) (N := 9) hx hb hts hown hK iX9_count_X9 0 rfl rfl 0 (by decide) (List.mem_of_getElem? (i := 1) rfl) rfl dX9_count_61 ?_
    refine gg_callVip (As := []) (rest := []) hx hb hml hown hts hK hZ hA (c_X6_evenSteps l D aa cI cZ cJ tR tU σ _ h) (cwV 0 hts gX9_count_X6_evenSteps rfl rfl rfl hd_X6_evenSteps ⟨Nat.le_of_ble_eq_true rfl, Nat.le_of_ble_eq_true rfl⟩) 1 rfl rfl rfl rfl (Nat.le_of_ble_eq_true rfl) dX9_count_64 (fun r64 h => ?_)
    exact gg_iret hx hb hr hlk ⟨rfl, h⟩ dX9_count_67
  have h := h.2
  by_cases c1_4 : a1 = 4
  · have h := h.1 c1_4
    refine gg_tableIn (k := 4) (tgt := 68) hx hb hq c1_4 dX9_count_1 (by decide) (by decide) rfl rfl ?_
    refine gg_aload_n hx hb 0 rfl rfl dX9_count_68 ?_
    refine gg_get (C := RX9) (T := TX9) (N := 9) hx hb hts hown hK iX9_count_X9 0 rfl rfl 2 (by decide) (List.mem_of_getElem? (i := 2) rfl) rfl dX9_count_69 ?_
    refine gg_callVip (As := []) (rest := []) hx hb hml hown hts hK hZ hA (c_X2_heapOnEdge l D aa cI cZ cJ tR tU σ _ h) (cwV 0 hts gX9_count_X2_heapOnEdge rfl rfl rfl hd_X2_heapOnEdge ⟨Nat.le_of_ble_eq_true rfl, Nat.le_of_ble_eq_true rfl⟩) 7 rfl rfl rfl rfl (Nat.le_of_ble_eq_true rfl) dX9_count_72 (fun r72 h => ?_)
    exact gg_iret hx hb hr hlk ⟨rfl, h⟩ dX9_count_75
  have h := h.2
  have cD := tbo_X9_count a1 c1_0 c1_1 c1_2 c1_3 c1_4
  have h := h cD
  refine gg_tableOut (tgt := 76) hx hb hq cD dX9_count_1 rfl ?_
  refine gg_sipush hx hb dX9_count_76 rfl ?_
  exact gg_iret hx hb hr hlk ⟨rfl, h⟩ dX9_count_79
abbrev rmX10_in : Room := { frames := 0, cells := 0, slots := 0, locals := 0 }
theorem hd_X10_in : (yX10_in.cls ≠ "java/lang/invoke/MethodHandle" ∧ yX10_in.cls ≠ "java/lang/invoke/VarHandle" ∧ (parseMethodDescriptor yX10_in.desc).map (fun d => d.parameters.length) = some 3) := by decide +kernel
set_option maxRecDepth 100000 in
set_option maxHeartbeats 4000000 in
theorem c_X10_in (l : Launch) (D : va_G) (aa : Nat → Nat) (cI cZ cJ : ClassId) (tR tU : Nat) (a0 : Int) (a2 : Int) (a4 : Int) (σ : xSt) (Post : Int → Prop) (h : wp_X10_in a0 a2 a4 σ Post) : MI l D (tyL cI cZ cJ) (cM aa cI cZ cJ) tR tU yX10_in wsX10_in rmX10_in [.long (xJ a0), .long (xJ a2), .long (xJ a4)] σ (fun r9 σ9 => σ9 = σ ∧ Post r9) := by
  refine mi_of (cc := cX10_in) (maxL := 6) (ret := (some .boolean)) (by decide) rfl (Nat.le_of_ble_eq_true rfl) ?_
  intro p e s m args below meth c A hF
  obtain ⟨hx, hb, hr, hml, hown, hts, hlk, hK, hZ, hA⟩ := hF
  have hown : s.vm.findClass RX10 = some m.cls := hown
  delta wp_X10_in at h
  refine gg_lv (lv' := [(0, .long (xJ a0)), (2, .long (xJ a2)), (4, .long (xJ a4))]) [0, 1, 2] rfl ?_
  refine gg_lload_n hx hb 0 rfl rfl dX10_in_0 ?_
  refine gg_lload_n hx hb 1 rfl rfl dX10_in_1 ?_
  refine gg_lcmp_lt (tgt := 17) hx hb h.1 h.2.1 dX10_in_2 dX10_in_3 rfl (fun c3 => ?_) (fun c3 => ?_)
  · have h := h.2.2.1 c3
    refine gg_iconst hx hb dX10_in_17 ?_
    exact gg_zret hx hb hr hlk (Or.inl rfl) ⟨rfl, h⟩ dX10_in_18
  · have h := h.2.2.2 c3
    refine gg_lload_n hx hb 0 rfl rfl dX10_in_6 ?_
    refine gg_lload hx hb 2 rfl dX10_in_7 ?_
    refine gg_lcmp_gt (tgt := 17) hx hb h.1 h.2.1 dX10_in_9 dX10_in_10 rfl (fun c10 => ?_) (fun c10 => ?_)
    · have h := h.2.2.1 c10
      refine gg_iconst hx hb dX10_in_17 ?_
      exact gg_zret hx hb hr hlk (Or.inl rfl) ⟨rfl, h⟩ dX10_in_18
    · have h := h.2.2.2 c10
      refine gg_iconst hx hb dX10_in_13 ?_
      refine gg_goto (tgt := 18) hx hb dX10_in_14 rfl ?_
      exact gg_zret hx hb hr hlk (Or.inr rfl) ⟨rfl, h⟩ dX10_in_18
abbrev rmX10_size : Room := { frames := 0, cells := 0, slots := 0, locals := 0 }
theorem hd_X10_size : (yX10_size.cls ≠ "java/lang/invoke/MethodHandle" ∧ yX10_size.cls ≠ "java/lang/invoke/VarHandle" ∧ (parseMethodDescriptor yX10_size.desc).map (fun d => d.parameters.length) = some 1) := by decide +kernel
set_option maxRecDepth 100000 in
set_option maxHeartbeats 4000000 in
theorem c_X10_size (l : Launch) (D : va_G) (aa : Nat → Nat) (cI cZ cJ : ClassId) (tR tU : Nat) (a0 : Int) (σ : xSt) (Post : Int → Prop) (h : wp_X10_size a0 σ Post) : MI l D (tyL cI cZ cJ) (cM aa cI cZ cJ) tR tU yX10_size wsX10_size rmX10_size [.int (xI a0)] σ (fun r9 σ9 => σ9 = σ ∧ Post r9) := by
  refine mi_of (cc := cX10_size) (maxL := 1) (ret := (some .int)) (by decide) rfl (Nat.le_of_ble_eq_true rfl) ?_
  intro p e s m args below meth c A hF
  obtain ⟨hx, hb, hr, hml, hown, hts, hlk, hK, hZ, hA⟩ := hF
  have hown : s.vm.findClass RX10 = some m.cls := hown
  delta wp_X10_size at h
  refine gg_lv (lv' := [(0, .int (xI a0))]) [0] rfl ?_
  refine gg_iload_n hx hb 0 rfl rfl dX10_size_0 ?_
  refine gg_if_ge (tgt := 9) hx hb h.1 dX10_size_1 rfl (fun c1 => ?_) (fun c1 => ?_)
  · have h := h.2.1 c1
    refine gg_iload_n hx hb 0 rfl rfl dX10_size_9 ?_
    exact gg_iret hx hb hr hlk ⟨rfl, h⟩ dX10_size_10
  · have h := h.2.2 c1
    refine gg_iload_n hx hb 0 rfl rfl dX10_size_4 ?_
    refine gg_ineg hx hb dX10_size_5 ?_
    refine gg_goto (tgt := 10) hx hb dX10_size_6 rfl ?_
    exact gg_iret hx hb hr hlk ⟨rfl, h⟩ dX10_size_10
abbrev rmX10_stepX : Room := { frames := 0, cells := 0, slots := 0, locals := 0 }
theorem hd_X10_stepX : (yX10_stepX.cls ≠ "java/lang/invoke/MethodHandle" ∧ yX10_stepX.cls ≠ "java/lang/invoke/VarHandle" ∧ (parseMethodDescriptor yX10_stepX.desc).map (fun d => d.parameters.length) = some 1) := by decide +kernel
set_option maxRecDepth 100000 in
set_option maxHeartbeats 4000000 in
theorem c_X10_stepX (l : Launch) (D : va_G) (aa : Nat → Nat) (cI cZ cJ : ClassId) (tR tU : Nat) (a0 : Int) (σ : xSt) (Post : Int → Prop) (h : wp_X10_stepX a0 σ Post) : MI l D (tyL cI cZ cJ) (cM aa cI cZ cJ) tR tU yX10_stepX wsX10_stepX rmX10_stepX [.int (xI a0)] σ (fun r9 σ9 => σ9 = σ ∧ Post r9) := by
  refine mi_of (cc := cX10_stepX) (maxL := 1) (ret := (some .int)) (by decide) rfl (Nat.le_of_ble_eq_true rfl) ?_
  intro p e s m args below meth c A hF
  obtain ⟨hx, hb, hr, hml, hown, hts, hlk, hK, hZ, hA⟩ := hF
  have hown : s.vm.findClass RX10 = some m.cls := hown
  delta wp_X10_stepX at h
  refine gg_lv (lv' := [(0, .int (xI a0))]) [0] rfl ?_
  refine gg_iload_n hx hb 0 rfl rfl dX10_stepX_0 ?_
  refine gg_iconst hx hb dX10_stepX_1 ?_
  refine gg_icmp_lt (tgt := 11) hx hb h.1 (by decide) dX10_stepX_2 rfl (fun c2 => ?_) (fun c2 => ?_)
  · have h := h.2.1 c2
    refine gg_iconst hx hb dX10_stepX_11 ?_
    refine gg_goto (tgt := 31) hx hb dX10_stepX_12 rfl ?_
    exact gg_iret hx hb hr hlk ⟨rfl, h⟩ dX10_stepX_31
  · have h := h.2.2 c2
    refine gg_iload_n hx hb 0 rfl rfl dX10_stepX_5 ?_
    refine gg_bipush hx hb dX10_stepX_6 rfl ?_
    refine gg_icmp_ne (tgt := 15) hx hb h.1 (by decide) dX10_stepX_8 rfl (fun c8 => ?_) (fun c8 => ?_)
    · have h := h.2.1 c8
      refine gg_iload_n hx hb 0 rfl rfl dX10_stepX_15 ?_
      refine gg_iconst hx hb dX10_stepX_16 ?_
      refine gg_icmp_le (tgt := 30) hx hb h.1 (by decide) dX10_stepX_17 rfl (fun c17 => ?_) (fun c17 => ?_)
      · have h := h.2.1 c17
        refine gg_iconst hx hb dX10_stepX_30 ?_
        exact gg_iret hx hb hr hlk ⟨rfl, h⟩ dX10_stepX_31
      · have h := h.2.2 c17
        refine gg_iload_n hx hb 0 rfl rfl dX10_stepX_20 ?_
        refine gg_bipush hx hb dX10_stepX_21 rfl ?_
        refine gg_icmp_ge (tgt := 30) hx hb h.1 (by decide) dX10_stepX_23 rfl (fun c23 => ?_) (fun c23 => ?_)
        · have h := h.2.1 c23
          refine gg_iconst hx hb dX10_stepX_30 ?_
          exact gg_iret hx hb hr hlk ⟨rfl, h⟩ dX10_stepX_31
        · have h := h.2.2 c23
          refine gg_iconst hx hb dX10_stepX_26 ?_
          refine gg_goto (tgt := 31) hx hb dX10_stepX_27 rfl ?_
          exact gg_iret hx hb hr hlk ⟨rfl, h⟩ dX10_stepX_31
    · have h := h.2.2 c8
      refine gg_iconst hx hb dX10_stepX_11 ?_
      refine gg_goto (tgt := 31) hx hb dX10_stepX_12 rfl ?_
      exact gg_iret hx hb hr hlk ⟨rfl, h⟩ dX10_stepX_31
abbrev rmX10_stepY : Room := { frames := 0, cells := 0, slots := 0, locals := 0 }
theorem hd_X10_stepY : (yX10_stepY.cls ≠ "java/lang/invoke/MethodHandle" ∧ yX10_stepY.cls ≠ "java/lang/invoke/VarHandle" ∧ (parseMethodDescriptor yX10_stepY.desc).map (fun d => d.parameters.length) = some 1) := by decide +kernel
set_option maxRecDepth 100000 in
set_option maxHeartbeats 4000000 in
theorem c_X10_stepY (l : Launch) (D : va_G) (aa : Nat → Nat) (cI cZ cJ : ClassId) (tR tU : Nat) (a0 : Int) (σ : xSt) (Post : Int → Prop) (h : wp_X10_stepY a0 σ Post) : MI l D (tyL cI cZ cJ) (cM aa cI cZ cJ) tR tU yX10_stepY wsX10_stepY rmX10_stepY [.int (xI a0)] σ (fun r9 σ9 => σ9 = σ ∧ Post r9) := by
  refine mi_of (cc := cX10_stepY) (maxL := 1) (ret := (some .int)) (by decide) rfl (Nat.le_of_ble_eq_true rfl) ?_
  intro p e s m args below meth c A hF
  obtain ⟨hx, hb, hr, hml, hown, hts, hlk, hK, hZ, hA⟩ := hF
  have hown : s.vm.findClass RX10 = some m.cls := hown
  delta wp_X10_stepY at h
  refine gg_lv (lv' := [(0, .int (xI a0))]) [0] rfl ?_
  refine gg_iload_n hx hb 0 rfl rfl dX10_stepY_0 ?_
  have h := h (GG p l e rmX10_stepY s m args below meth c (QI below D (cM aa cI cZ cJ) A args s (fun r9 σ9 => σ9 = σ ∧ Post r9)) A D (cM aa cI cZ cJ) 1 σ 13 [(0, .int (xI a0))] [])
  have h := h (by
    intro h
    refine gg_iload_n hx hb 0 rfl rfl dX10_stepY_13 ?_
    refine gg_iconst hx hb dX10_stepY_14 ?_
    refine gg_icmp_le (tgt := 22) hx hb h.1 (by decide) dX10_stepY_15 rfl (fun c15 => ?_) (fun c15 => ?_)
    · have h := h.2.1 c15
      refine gg_iconst hx hb dX10_stepY_22 ?_
      exact gg_iret hx hb hr hlk ⟨rfl, h⟩ dX10_stepY_23
    · have h := h.2.2 c15
      refine gg_iconst hx hb dX10_stepY_18 ?_
      refine gg_goto (tgt := 23) hx hb dX10_stepY_19 rfl ?_
      exact gg_iret hx hb hr hlk ⟨rfl, h⟩ dX10_stepY_23)
  refine gg_if_le (tgt := 13) hx hb h.1 dX10_stepY_1 rfl (fun c1 => ?_) (fun c1 => ?_)
  · have h := h.2.1 c1
    exact h
  · have h := h.2.2 c1
    refine gg_iload_n hx hb 0 rfl rfl dX10_stepY_4 ?_
    refine gg_iconst hx hb dX10_stepY_5 ?_
    refine gg_icmp_ge (tgt := 13) hx hb h.1 (by decide) dX10_stepY_6 rfl (fun c6 => ?_) (fun c6 => ?_)
    · have h := h.2.1 c6
      exact h
    · have h := h.2.2 c6
      refine gg_iconst hx hb dX10_stepY_9 ?_
      refine gg_goto (tgt := 23) hx hb dX10_stepY_10 rfl ?_
      exact gg_iret hx hb hr hlk ⟨rfl, h⟩ dX10_stepY_23
abbrev rmX10_placeOf : Room := { frames := 1, cells := 0, slots := 0, locals := 20 }
theorem iX10_placeOf_X10 : ∀ w ∈ u_ws RX10 TX10 18, w ∈ wsX10_placeOf := (fun _ h => List.mem_cons_of_mem _ (List.mem_append_right _ h))
theorem hd_X10_placeOf : (yX10_placeOf.cls = RX10 ∧ yX10_placeOf.cls ≠ "java/lang/invoke/MethodHandle" ∧ yX10_placeOf.cls ≠ "java/lang/invoke/VarHandle" ∧ (parseMethodDescriptor yX10_placeOf.desc).map (fun d => d.parameters.length) = some 2) := by decide +kernel
set_option maxRecDepth 100000 in
set_option maxHeartbeats 4000000 in
theorem c_X10_placeOf (l : Launch) (D : va_G) (aa : Nat → Nat) (cI cZ cJ : ClassId) (tR tU : Nat) (a1 : Int) (a2 : Int) (σ : xSt) (Post : Int → Prop) (h : wp_X10_placeOf a1 a2 σ Post) : MI l D (tyL cI cZ cJ) (cM aa cI cZ cJ) tR tU yX10_placeOf wsX10_placeOf rmX10_placeOf [.ref (aa 0), .int (xI a1), .int (xI a2)] σ (fun r9 σ9 => σ9 = σ ∧ Post r9) := by
  refine mi_of (cc := cX10_placeOf) (maxL := 5) (ret := (some .int)) (by decide) rfl (Nat.le_of_ble_eq_true rfl) ?_
  intro p e s m args below meth c A hF
  obtain ⟨hx, hb, hr, hml, hown, hts, hlk, hK, hZ, hA⟩ := hF
  have hown : s.vm.findClass RX10 = some m.cls := hown
  delta wp_X10_placeOf at h
  refine gg_lv (lv' := [(0, .ref (aa 0)), (1, .int (xI a1)), (2, .int (xI a2))]) [0, 1, 2] rfl ?_
  refine gg_iconst hx hb dX10_placeOf_0 ?_
  refine gg_istore_n (lv' := [(3, .int (xI 0)), (0, .ref (aa 0)), (1, .int (xI a1)), (2, .int (xI a2))]) hx hb rfl (by decide) rfl dX10_placeOf_1 ?_
  refine gg_iconst hx hb dX10_placeOf_2 ?_
  refine gg_istore (lv' := [(4, .int (xI 0)), (3, .int (xI 0)), (0, .ref (aa 0)), (1, .int (xI a1)), (2, .int (xI a2))]) hx hb (by decide) rfl dX10_placeOf_3 ?_
  have h := h (fun (x3_5 x4_5 : Int) => GG p l e rmX10_placeOf s m args below meth c (QI below D (cM aa cI cZ cJ) A args s (fun r9 σ9 => σ9 = σ ∧ Post r9)) A D (cM aa cI cZ cJ) 5 σ 5 [(0, .ref (aa 0)), (1, .int (xI a1)), (2, .int (xI a2)), (3, .int (xI x3_5)), (4, .int (xI x4_5))] [])
  have h := h (by
    intro x3_5 x4_5 h
    refine gg_iload hx hb 4 rfl dX10_placeOf_5 ?_
    refine gg_iload_n hx hb 1 rfl rfl dX10_placeOf_7 ?_
    refine gg_icmp_ge (tgt := 47) hx hb h.1 h.2.1 dX10_placeOf_8 rfl (fun c8 => ?_) (fun c8 => ?_)
    · have h := h.2.2.1 c8
      refine gg_iload_n hx hb 3 rfl rfl dX10_placeOf_47 ?_
      exact gg_iret hx hb hr hlk ⟨rfl, h⟩ dX10_placeOf_48
    · have h := h.2.2.2 c8
      refine gg_iload_n hx hb 3 rfl rfl dX10_placeOf_11 ?_
      refine gg_iload_n hx hb 2 rfl rfl dX10_placeOf_12 ?_
      refine gg_if_eq (tgt := 29) hx hb h.1 dX10_placeOf_13 rfl (fun c13 => ?_) (fun c13 => ?_)
      · have h := h.2.1 c13
        refine gg_aload_n hx hb 0 rfl rfl dX10_placeOf_29 ?_
        refine gg_get (C := RX10) (T := TX10) (N := 18) hx hb hts hown hK iX10_placeOf_X10 0 rfl rfl 2 (by decide) (List.mem_of_getElem? (i := 1) rfl) rfl dX10_placeOf_30 ?_
        refine gg_iload hx hb 4 rfl dX10_placeOf_33 ?_
        refine gg_iald hx hb hK 1 0 rfl rfl (by decide) h.1 dX10_placeOf_35 ?_
        have h := h.2
        refine gg_callSip (As := [.int (xI (σ 1 (x4_5).toNat))]) (rest := [.int (xI x3_5)]) hx hb hml hown hts hK hZ hA (c_X10_stepX l D aa cI cZ cJ tR tU (σ 1 (x4_5).toNat) σ _ h) (va_cwS 1 hts gX10_placeOf_X10_stepX rfl rfl rfl hd_X10_stepX ⟨Nat.le_of_ble_eq_true rfl, Nat.le_of_ble_eq_true rfl⟩) rfl rfl (Nat.le_of_ble_eq_true rfl) dX10_placeOf_36 (fun r36 h => ?_)
        refine gg_iadd hx hb dX10_placeOf_39 ?_
        refine gg_istore_n (lv' := [(3, .int (xI (x3_5 + r36))), (0, .ref (aa 0)), (1, .int (xI a1)), (2, .int (xI a2)), (4, .int (xI x4_5))]) hx hb rfl (by decide) rfl dX10_placeOf_40 ?_
        refine gg_iinc (lv' := [(4, .int (xI (x4_5 + 1))), (3, .int (xI (x3_5 + r36))), (0, .ref (aa 0)), (1, .int (xI a1)), (2, .int (xI a2))]) hx hb 4 rfl (by decide) rfl dX10_placeOf_41 ?_
        refine gg_goto (tgt := 5) hx hb dX10_placeOf_44 rfl ?_
        refine gg_lv [2, 3, 4, 1, 0] rfl ?_
        exact h
      · have h := h.2.2 c13
        refine gg_aload_n hx hb 0 rfl rfl dX10_placeOf_16 ?_
        refine gg_get (C := RX10) (T := TX10) (N := 18) hx hb hts hown hK iX10_placeOf_X10 0 rfl rfl 2 (by decide) (List.mem_of_getElem? (i := 1) rfl) rfl dX10_placeOf_17 ?_
        refine gg_iload hx hb 4 rfl dX10_placeOf_20 ?_
        refine gg_iald hx hb hK 1 0 rfl rfl (by decide) h.1 dX10_placeOf_22 ?_
        have h := h.2
        refine gg_callSip (As := [.int (xI (σ 1 (x4_5).toNat))]) (rest := [.int (xI x3_5)]) hx hb hml hown hts hK hZ hA (c_X10_stepY l D aa cI cZ cJ tR tU (σ 1 (x4_5).toNat) σ _ h) (va_cwS 1 hts gX10_placeOf_X10_stepY rfl rfl rfl hd_X10_stepY ⟨Nat.le_of_ble_eq_true rfl, Nat.le_of_ble_eq_true rfl⟩) rfl rfl (Nat.le_of_ble_eq_true rfl) dX10_placeOf_23 (fun r23 h => ?_)
        refine gg_goto (tgt := 39) hx hb dX10_placeOf_26 rfl ?_
        refine gg_iadd hx hb dX10_placeOf_39 ?_
        refine gg_istore_n (lv' := [(3, .int (xI (x3_5 + r23))), (0, .ref (aa 0)), (1, .int (xI a1)), (2, .int (xI a2)), (4, .int (xI x4_5))]) hx hb rfl (by decide) rfl dX10_placeOf_40 ?_
        refine gg_iinc (lv' := [(4, .int (xI (x4_5 + 1))), (3, .int (xI (x3_5 + r23))), (0, .ref (aa 0)), (1, .int (xI a1)), (2, .int (xI a2))]) hx hb 4 rfl (by decide) rfl dX10_placeOf_41 ?_
        refine gg_goto (tgt := 5) hx hb dX10_placeOf_44 rfl ?_
        refine gg_lv [2, 3, 4, 1, 0] rfl ?_
        exact h)
  refine gg_lv [2, 3, 4, 1, 0] rfl ?_
  exact h
abbrev rmX10_step : Room := { frames := 1, cells := 0, slots := 0, locals := 25 }
theorem iX10_step_X10 : ∀ w ∈ u_ws RX10 TX10 18, w ∈ wsX10_step := (fun _ h => List.mem_cons_of_mem _ (List.mem_append_right _ h))
theorem hd_X10_step : (yX10_step.cls = RX10 ∧ yX10_step.cls ≠ "java/lang/invoke/MethodHandle" ∧ yX10_step.cls ≠ "java/lang/invoke/VarHandle" ∧ (parseMethodDescriptor yX10_step.desc).map (fun d => d.parameters.length) = some 1) := by decide +kernel
set_option maxRecDepth 100000 in
set_option maxHeartbeats 4000000 in
theorem c_X10_step (l : Launch) (D : va_G) (aa : Nat → Nat) (cI cZ cJ : ClassId) (tR tU : Nat) (a1 : Int) (σ : xSt) (Post : Int → xSt → Prop) (h : wp_X10_step a1 σ Post) : MI l D (tyL cI cZ cJ) (cM aa cI cZ cJ) tR tU yX10_step wsX10_step rmX10_step [.ref (aa 0), .int (xI a1)] σ Post := by
  refine mi_of (cc := cX10_step) (maxL := 2) (ret := (some .int)) (by decide) rfl (Nat.le_of_ble_eq_true rfl) ?_
  intro p e s m args below meth c A hF
  obtain ⟨hx, hb, hr, hml, hown, hts, hlk, hK, hZ, hA⟩ := hF
  have hown : s.vm.findClass RX10 = some m.cls := hown
  delta wp_X10_step at h
  refine gg_lv (lv' := [(0, .ref (aa 0)), (1, .int (xI a1))]) [0, 1] rfl ?_
  refine gg_aload_n hx hb 0 rfl rfl dX10_step_0 ?_
  refine gg_iconst hx hb dX10_step_1 ?_
  refine gg_put (C := RX10) (T := TX10) (N := 18) hx hb hts hown hK iX10_step_X10 tyX10 tyX10_ok nmX10 0 rfl rfl 0 (by decide) (List.mem_of_getElem? (i := 1) rfl) rfl rfl (Nat.le_of_ble_eq_true rfl) (cM_set_0_0 aa cI cZ cJ _ _) dX10_step_2 (fun σ_2 e2 => ?_)
  have h := h σ_2 e2
  refine gg_iload_n hx hb 1 rfl rfl dX10_step_5 ?_
  refine gg_i2l hx hb h.1 dX10_step_6 ?_
  have h := h.2
  refine gg_lconst (z := 0) hx hb dX10_step_7 rfl ?_
  refine gg_ldc2 hx hb (7) hown (hts _ (List.mem_of_getElem? (i := 2) rfl)) rfl dX10_step_8 ?_
  refine gg_callSip (As := [.long (xJ a1), .long (xJ 0), .long (xJ 7)]) (rest := []) hx hb hml hown hts hK hZ hA (c_X10_in l D aa cI cZ cJ tR tU a1 0 7 σ_2 _ h) (va_cwS 3 hts gX10_step_X10_in rfl rfl rfl hd_X10_in ⟨Nat.le_of_ble_eq_true rfl, Nat.le_of_ble_eq_true rfl⟩) rfl rfl (Nat.le_of_ble_eq_true rfl) dX10_step_11 (fun r11 h => ?_)
  refine gg_if_ne (tgt := 21) hx hb h.1 dX10_step_14 rfl (fun c14 => ?_) (fun c14 => ?_)
  · have h := h.2.1 c14
    refine gg_aload_n hx hb 0 rfl rfl dX10_step_21 ?_
    refine gg_get (C := RX10) (T := TX10) (N := 18) hx hb hts hown hK iX10_step_X10 0 rfl rfl 1 (by decide) (List.mem_of_getElem? (i := 3) rfl) rfl dX10_step_22 ?_
    refine gg_bipush hx hb dX10_step_25 rfl ?_
    refine gg_icmp_ne (tgt := 34) hx hb h.1 (by decide) dX10_step_27 rfl (fun c27 => ?_) (fun c27 => ?_)
    · have h := h.2.1 c27
      refine gg_aload_n hx hb 0 rfl rfl dX10_step_34 ?_
      refine gg_get (C := RX10) (T := TX10) (N := 18) hx hb hts hown hK iX10_step_X10 0 rfl rfl 2 (by decide) (List.mem_of_getElem? (i := 4) rfl) rfl dX10_step_35 ?_
      refine gg_aload_n hx hb 0 rfl rfl dX10_step_38 ?_
      refine gg_get (C := RX10) (T := TX10) (N := 18) hx hb hts hown hK iX10_step_X10 0 rfl rfl 1 (by decide) (List.mem_of_getElem? (i := 3) rfl) rfl dX10_step_39 ?_
      refine gg_iload_n hx hb 1 rfl rfl dX10_step_42 ?_
      refine gg_iast hx hb hK 1 0 rfl rfl (cM_st_1 aa cI cZ cJ _ _) (by decide) h.1 dX10_step_43 (fun σ_43 e43 => ?_)
      have h := h.2 σ_43 e43
      refine gg_aload_n hx hb 0 rfl rfl dX10_step_44 ?_
      refine gg_dup hx hb rfl dX10_step_45 ?_
      refine gg_get (C := RX10) (T := TX10) (N := 18) hx hb hts hown hK iX10_step_X10 0 rfl rfl 1 (by decide) (List.mem_of_getElem? (i := 3) rfl) rfl dX10_step_46 ?_
      refine gg_iconst hx hb dX10_step_49 ?_
      refine gg_iadd hx hb dX10_step_50 ?_
      refine gg_put (C := RX10) (T := TX10) (N := 18) hx hb hts hown hK iX10_step_X10 tyX10 tyX10_ok nmX10 0 rfl rfl 1 (by decide) (List.mem_of_getElem? (i := 3) rfl) rfl rfl (Nat.le_of_ble_eq_true rfl) (cM_set_0_1 aa cI cZ cJ _ _) dX10_step_51 (fun σ_51 e51 => ?_)
      have h := h σ_51 e51
      refine gg_aload_n hx hb 0 rfl rfl dX10_step_54 ?_
      refine gg_get (C := RX10) (T := TX10) (N := 18) hx hb hts hown hK iX10_step_X10 0 rfl rfl 1 (by decide) (List.mem_of_getElem? (i := 3) rfl) rfl dX10_step_55 ?_
      exact gg_iret hx hb hr hlk h dX10_step_58
    · have h := h.2.2 c27
      refine gg_sipush hx hb dX10_step_30 rfl ?_
      exact gg_iret hx hb hr hlk h dX10_step_33
  · have h := h.2.2 c14
    refine gg_sipush hx hb dX10_step_17 rfl ?_
    exact gg_iret hx hb hr hlk h dX10_step_20
abbrev rmX10_back : Room := { frames := 1, cells := 0, slots := 0, locals := 25 }
theorem iX10_back_X10 : ∀ w ∈ u_ws RX10 TX10 18, w ∈ wsX10_back := (fun _ h => List.mem_cons_of_mem _ (List.mem_append_right _ h))
theorem hd_X10_back : (yX10_back.cls = RX10 ∧ yX10_back.cls ≠ "java/lang/invoke/MethodHandle" ∧ yX10_back.cls ≠ "java/lang/invoke/VarHandle" ∧ (parseMethodDescriptor yX10_back.desc).map (fun d => d.parameters.length) = some 1) := by decide +kernel
set_option maxRecDepth 100000 in
set_option maxHeartbeats 4000000 in
theorem c_X10_back (l : Launch) (D : va_G) (aa : Nat → Nat) (cI cZ cJ : ClassId) (tR tU : Nat) (a1 : Int) (σ : xSt) (Post : Int → xSt → Prop) (h : wp_X10_back a1 σ Post) : MI l D (tyL cI cZ cJ) (cM aa cI cZ cJ) tR tU yX10_back wsX10_back rmX10_back [.ref (aa 0), .int (xI a1)] σ Post := by
  refine mi_of (cc := cX10_back) (maxL := 2) (ret := (some .int)) (by decide) rfl (Nat.le_of_ble_eq_true rfl) ?_
  intro p e s m args below meth c A hF
  obtain ⟨hx, hb, hr, hml, hown, hts, hlk, hK, hZ, hA⟩ := hF
  have hown : s.vm.findClass RX10 = some m.cls := hown
  delta wp_X10_back at h
  refine gg_lv (lv' := [(0, .ref (aa 0)), (1, .int (xI a1))]) [0, 1] rfl ?_
  refine gg_aload_n hx hb 0 rfl rfl dX10_back_0 ?_
  refine gg_iconst hx hb dX10_back_1 ?_
  refine gg_put (C := RX10) (T := TX10) (N := 18) hx hb hts hown hK iX10_back_X10 tyX10 tyX10_ok nmX10 0 rfl rfl 0 (by decide) (List.mem_of_getElem? (i := 1) rfl) rfl rfl (Nat.le_of_ble_eq_true rfl) (cM_set_0_0 aa cI cZ cJ _ _) dX10_back_2 (fun σ_2 e2 => ?_)
  have h := h σ_2 e2
  refine gg_iload_n hx hb 1 rfl rfl dX10_back_5 ?_
  refine gg_i2l hx hb h.1 dX10_back_6 ?_
  have h := h.2
  refine gg_lconst (z := 1) hx hb dX10_back_7 rfl ?_
  refine gg_ldc2 hx hb (60) hown (hts _ (List.mem_of_getElem? (i := 2) rfl)) rfl dX10_back_8 ?_
  refine gg_callSip (As := [.long (xJ a1), .long (xJ 1), .long (xJ 60)]) (rest := []) hx hb hml hown hts hK hZ hA (c_X10_in l D aa cI cZ cJ tR tU a1 1 60 σ_2 _ h) (va_cwS 3 hts gX10_back_X10_in rfl rfl rfl hd_X10_in ⟨Nat.le_of_ble_eq_true rfl, Nat.le_of_ble_eq_true rfl⟩) rfl rfl (Nat.le_of_ble_eq_true rfl) dX10_back_11 (fun r11 h => ?_)
  refine gg_if_ne (tgt := 21) hx hb h.1 dX10_back_14 rfl (fun c14 => ?_) (fun c14 => ?_)
  · have h := h.2.1 c14
    refine gg_iload_n hx hb 1 rfl rfl dX10_back_21 ?_
    refine gg_aload_n hx hb 0 rfl rfl dX10_back_22 ?_
    refine gg_get (C := RX10) (T := TX10) (N := 18) hx hb hts hown hK iX10_back_X10 0 rfl rfl 1 (by decide) (List.mem_of_getElem? (i := 3) rfl) rfl dX10_back_23 ?_
    refine gg_icmp_le (tgt := 33) hx hb h.1 h.2.1 dX10_back_26 rfl (fun c26 => ?_) (fun c26 => ?_)
    · have h := h.2.2.1 c26
      refine gg_aload_n hx hb 0 rfl rfl dX10_back_33 ?_
      refine gg_dup hx hb rfl dX10_back_34 ?_
      refine gg_get (C := RX10) (T := TX10) (N := 18) hx hb hts hown hK iX10_back_X10 0 rfl rfl 1 (by decide) (List.mem_of_getElem? (i := 3) rfl) rfl dX10_back_35 ?_
      refine gg_iload_n hx hb 1 rfl rfl dX10_back_38 ?_
      refine gg_isub hx hb dX10_back_39 ?_
      refine gg_put (C := RX10) (T := TX10) (N := 18) hx hb hts hown hK iX10_back_X10 tyX10 tyX10_ok nmX10 0 rfl rfl 1 (by decide) (List.mem_of_getElem? (i := 3) rfl) rfl rfl (Nat.le_of_ble_eq_true rfl) (cM_set_0_1 aa cI cZ cJ _ _) dX10_back_40 (fun σ_40 e40 => ?_)
      have h := h σ_40 e40
      refine gg_aload_n hx hb 0 rfl rfl dX10_back_43 ?_
      refine gg_get (C := RX10) (T := TX10) (N := 18) hx hb hts hown hK iX10_back_X10 0 rfl rfl 1 (by decide) (List.mem_of_getElem? (i := 3) rfl) rfl dX10_back_44 ?_
      exact gg_iret hx hb hr hlk h dX10_back_47
    · have h := h.2.2.2 c26
      refine gg_sipush hx hb dX10_back_29 rfl ?_
      exact gg_iret hx hb hr hlk h dX10_back_32
  · have h := h.2.2 c14
    refine gg_sipush hx hb dX10_back_17 rfl ?_
    exact gg_iret hx hb hr hlk h dX10_back_20
abbrev rmX10_way : Room := { frames := 1, cells := 0, slots := 0, locals := 25 }
theorem iX10_way_X10 : ∀ w ∈ u_ws RX10 TX10 18, w ∈ wsX10_way := (fun _ h => List.mem_cons_of_mem _ (List.mem_append_right _ h))
theorem hd_X10_way : (yX10_way.cls = RX10 ∧ yX10_way.cls ≠ "java/lang/invoke/MethodHandle" ∧ yX10_way.cls ≠ "java/lang/invoke/VarHandle" ∧ (parseMethodDescriptor yX10_way.desc).map (fun d => d.parameters.length) = some 1) := by decide +kernel
set_option maxRecDepth 100000 in
set_option maxHeartbeats 4000000 in
theorem c_X10_way (l : Launch) (D : va_G) (aa : Nat → Nat) (cI cZ cJ : ClassId) (tR tU : Nat) (a1 : Int) (σ : xSt) (Post : Int → xSt → Prop) (h : wp_X10_way a1 σ Post) : MI l D (tyL cI cZ cJ) (cM aa cI cZ cJ) tR tU yX10_way wsX10_way rmX10_way [.ref (aa 0), .int (xI a1)] σ Post := by
  refine mi_of (cc := cX10_way) (maxL := 2) (ret := (some .int)) (by decide) rfl (Nat.le_of_ble_eq_true rfl) ?_
  intro p e s m args below meth c A hF
  obtain ⟨hx, hb, hr, hml, hown, hts, hlk, hK, hZ, hA⟩ := hF
  have hown : s.vm.findClass RX10 = some m.cls := hown
  delta wp_X10_way at h
  refine gg_lv (lv' := [(0, .ref (aa 0)), (1, .int (xI a1))]) [0, 1] rfl ?_
  refine gg_aload_n hx hb 0 rfl rfl dX10_way_0 ?_
  refine gg_iconst hx hb dX10_way_1 ?_
  refine gg_put (C := RX10) (T := TX10) (N := 18) hx hb hts hown hK iX10_way_X10 tyX10 tyX10_ok nmX10 0 rfl rfl 0 (by decide) (List.mem_of_getElem? (i := 1) rfl) rfl rfl (Nat.le_of_ble_eq_true rfl) (cM_set_0_0 aa cI cZ cJ _ _) dX10_way_2 (fun σ_2 e2 => ?_)
  have h := h σ_2 e2
  refine gg_iload_n hx hb 1 rfl rfl dX10_way_5 ?_
  refine gg_i2l hx hb h.1 dX10_way_6 ?_
  have h := h.2
  refine gg_lconst (z := 0) hx hb dX10_way_7 rfl ?_
  refine gg_aload_n hx hb 0 rfl rfl dX10_way_8 ?_
  refine gg_get (C := RX10) (T := TX10) (N := 18) hx hb hts hown hK iX10_way_X10 0 rfl rfl 1 (by decide) (List.mem_of_getElem? (i := 2) rfl) rfl dX10_way_9 ?_
  refine gg_iconst hx hb dX10_way_12 ?_
  refine gg_isub hx hb dX10_way_13 ?_
  refine gg_i2l hx hb h.1 dX10_way_14 ?_
  have h := h.2
  refine gg_callSip (As := [.long (xJ a1), .long (xJ 0), .long (xJ ((σ_2 0 1) - 1))]) (rest := []) hx hb hml hown hts hK hZ hA (c_X10_in l D aa cI cZ cJ tR tU a1 0 ((σ_2 0 1) - 1) σ_2 _ h) (va_cwS 3 hts gX10_way_X10_in rfl rfl rfl hd_X10_in ⟨Nat.le_of_ble_eq_true rfl, Nat.le_of_ble_eq_true rfl⟩) rfl rfl (Nat.le_of_ble_eq_true rfl) dX10_way_15 (fun r15 h => ?_)
  refine gg_if_eq (tgt := 30) hx hb h.1 dX10_way_18 rfl (fun c18 => ?_) (fun c18 => ?_)
  · have h := h.2.1 c18
    refine gg_sipush hx hb dX10_way_30 rfl ?_
    exact gg_iret hx hb hr hlk h dX10_way_33
  · have h := h.2.2 c18
    refine gg_aload_n hx hb 0 rfl rfl dX10_way_21 ?_
    refine gg_get (C := RX10) (T := TX10) (N := 18) hx hb hts hown hK iX10_way_X10 0 rfl rfl 2 (by decide) (List.mem_of_getElem? (i := 3) rfl) rfl dX10_way_22 ?_
    refine gg_iload_n hx hb 1 rfl rfl dX10_way_25 ?_
    refine gg_iald hx hb hK 1 0 rfl rfl (by decide) h.1 dX10_way_26 ?_
    have h := h.2
    refine gg_goto (tgt := 33) hx hb dX10_way_27 rfl ?_
    exact gg_iret hx hb hr hlk h dX10_way_33
abbrev rmX10_noPlace : Room := { frames := 1, cells := 0, slots := 0, locals := 25 }
theorem iX10_noPlace_X10 : ∀ w ∈ u_ws RX10 TX10 18, w ∈ wsX10_noPlace := (fun _ h => List.mem_cons_of_mem _ (List.mem_append_right _ h))
theorem hd_X10_noPlace : (yX10_noPlace.cls = RX10 ∧ yX10_noPlace.cls ≠ "java/lang/invoke/MethodHandle" ∧ yX10_noPlace.cls ≠ "java/lang/invoke/VarHandle" ∧ (parseMethodDescriptor yX10_noPlace.desc).map (fun d => d.parameters.length) = some 1) := by decide +kernel
set_option maxRecDepth 100000 in
set_option maxHeartbeats 4000000 in
theorem c_X10_noPlace (l : Launch) (D : va_G) (aa : Nat → Nat) (cI cZ cJ : ClassId) (tR tU : Nat) (a1 : Int) (σ : xSt) (Post : Int → Prop) (h : wp_X10_noPlace a1 σ Post) : MI l D (tyL cI cZ cJ) (cM aa cI cZ cJ) tR tU yX10_noPlace wsX10_noPlace rmX10_noPlace [.ref (aa 0), .int (xI a1)] σ (fun r9 σ9 => σ9 = σ ∧ Post r9) := by
  refine mi_of (cc := cX10_noPlace) (maxL := 2) (ret := (some .boolean)) (by decide) rfl (Nat.le_of_ble_eq_true rfl) ?_
  intro p e s m args below meth c A hF
  obtain ⟨hx, hb, hr, hml, hown, hts, hlk, hK, hZ, hA⟩ := hF
  have hown : s.vm.findClass RX10 = some m.cls := hown
  delta wp_X10_noPlace at h
  refine gg_lv (lv' := [(0, .ref (aa 0)), (1, .int (xI a1))]) [0, 1] rfl ?_
  refine gg_iload_n hx hb 1 rfl rfl dX10_noPlace_0 ?_
  refine gg_i2l hx hb h.1 dX10_noPlace_1 ?_
  have h := h.2
  refine gg_lconst (z := 0) hx hb dX10_noPlace_2 rfl ?_
  refine gg_aload_n hx hb 0 rfl rfl dX10_noPlace_3 ?_
  refine gg_get (C := RX10) (T := TX10) (N := 18) hx hb hts hown hK iX10_noPlace_X10 0 rfl rfl 1 (by decide) (List.mem_of_getElem? (i := 1) rfl) rfl dX10_noPlace_4 ?_
  refine gg_i2l hx hb h.1 dX10_noPlace_7 ?_
  have h := h.2
  refine gg_callSip (As := [.long (xJ a1), .long (xJ 0), .long (xJ (σ 0 1))]) (rest := []) hx hb hml hown hts hK hZ hA (c_X10_in l D aa cI cZ cJ tR tU a1 0 (σ 0 1) σ _ h) (va_cwS 3 hts gX10_noPlace_X10_in rfl rfl rfl hd_X10_in ⟨Nat.le_of_ble_eq_true rfl, Nat.le_of_ble_eq_true rfl⟩) rfl rfl (Nat.le_of_ble_eq_true rfl) dX10_noPlace_8 (fun r8 h => ?_)
  refine gg_if_ne (tgt := 18) hx hb h.1 dX10_noPlace_11 rfl (fun c11 => ?_) (fun c11 => ?_)
  · have h := h.2.1 c11
    refine gg_iconst hx hb dX10_noPlace_18 ?_
    exact gg_zret hx hb hr hlk (Or.inl rfl) ⟨rfl, h⟩ dX10_noPlace_19
  · have h := h.2.2 c11
    refine gg_iconst hx hb dX10_noPlace_14 ?_
    refine gg_goto (tgt := 19) hx hb dX10_noPlace_15 rfl ?_
    exact gg_zret hx hb hr hlk (Or.inr rfl) ⟨rfl, h⟩ dX10_noPlace_19
abbrev rmX10_place : Room := { frames := 2, cells := 0, slots := 0, locals := 46 }
theorem iX10_place_X10 : ∀ w ∈ u_ws RX10 TX10 18, w ∈ wsX10_place := (fun _ h => List.mem_cons_of_mem _ (List.mem_append_right _ h))
theorem hd_X10_place : (yX10_place.cls = RX10 ∧ yX10_place.cls ≠ "java/lang/invoke/MethodHandle" ∧ yX10_place.cls ≠ "java/lang/invoke/VarHandle" ∧ (parseMethodDescriptor yX10_place.desc).map (fun d => d.parameters.length) = some 2) := by decide +kernel
set_option maxRecDepth 100000 in
set_option maxHeartbeats 4000000 in
theorem c_X10_place (l : Launch) (D : va_G) (aa : Nat → Nat) (cI cZ cJ : ClassId) (tR tU : Nat) (a1 : Int) (a2 : Int) (σ : xSt) (Post : Int → xSt → Prop) (h : wp_X10_place a1 a2 σ Post) : MI l D (tyL cI cZ cJ) (cM aa cI cZ cJ) tR tU yX10_place wsX10_place rmX10_place [.ref (aa 0), .int (xI a1), .int (xI a2)] σ Post := by
  refine mi_of (cc := cX10_place) (maxL := 3) (ret := (some .int)) (by decide) rfl (Nat.le_of_ble_eq_true rfl) ?_
  intro p e s m args below meth c A hF
  obtain ⟨hx, hb, hr, hml, hown, hts, hlk, hK, hZ, hA⟩ := hF
  have hown : s.vm.findClass RX10 = some m.cls := hown
  delta wp_X10_place at h
  refine gg_lv (lv' := [(0, .ref (aa 0)), (1, .int (xI a1)), (2, .int (xI a2))]) [0, 1, 2] rfl ?_
  refine gg_aload_n hx hb 0 rfl rfl dX10_place_0 ?_
  refine gg_iconst hx hb dX10_place_1 ?_
  refine gg_put (C := RX10) (T := TX10) (N := 18) hx hb hts hown hK iX10_place_X10 tyX10 tyX10_ok nmX10 0 rfl rfl 0 (by decide) (List.mem_of_getElem? (i := 1) rfl) rfl rfl (Nat.le_of_ble_eq_true rfl) (cM_set_0_0 aa cI cZ cJ _ _) dX10_place_2 (fun σ_2 e2 => ?_)
  have h := h σ_2 e2
  refine gg_aload_n hx hb 0 rfl rfl dX10_place_5 ?_
  refine gg_iload_n hx hb 1 rfl rfl dX10_place_6 ?_
  refine gg_callVip (As := [.int (xI a1)]) (rest := []) hx hb hml hown hts hK hZ hA (c_X10_noPlace l D aa cI cZ cJ tR tU a1 σ_2 _ h) (cwV 1 hts gX10_place_X10_noPlace rfl rfl rfl hd_X10_noPlace ⟨Nat.le_of_ble_eq_true rfl, Nat.le_of_ble_eq_true rfl⟩) 0 rfl rfl rfl rfl (Nat.le_of_ble_eq_true rfl) dX10_place_7 (fun r7 h => ?_)
  refine gg_if_eq (tgt := 19) hx hb h.1 dX10_place_10 rfl (fun c10 => ?_) (fun c10 => ?_)
  · have h := h.2.1 c10
    refine gg_aload_n hx hb 0 rfl rfl dX10_place_19 ?_
    refine gg_iload_n hx hb 1 rfl rfl dX10_place_20 ?_
    refine gg_iload_n hx hb 2 rfl rfl dX10_place_21 ?_
    refine gg_callVip (As := [.int (xI a1), .int (xI a2)]) (rest := []) hx hb hml hown hts hK hZ hA (c_X10_placeOf l D aa cI cZ cJ tR tU a1 a2 σ_2 _ h) (cwV 2 hts gX10_place_X10_placeOf rfl rfl rfl hd_X10_placeOf ⟨Nat.le_of_ble_eq_true rfl, Nat.le_of_ble_eq_true rfl⟩) 0 rfl rfl rfl rfl (Nat.le_of_ble_eq_true rfl) dX10_place_22 (fun r22 h => ?_)
    exact gg_iret hx hb hr hlk h dX10_place_25
  · have h := h.2.2 c10
    refine gg_sipush hx hb dX10_place_13 rfl ?_
    refine gg_goto (tgt := 25) hx hb dX10_place_16 rfl ?_
    exact gg_iret hx hb hr hlk h dX10_place_25
abbrev rmX10_near : Room := { frames := 0, cells := 0, slots := 0, locals := 0 }
theorem hd_X10_near : (yX10_near.cls ≠ "java/lang/invoke/MethodHandle" ∧ yX10_near.cls ≠ "java/lang/invoke/VarHandle" ∧ (parseMethodDescriptor yX10_near.desc).map (fun d => d.parameters.length) = some 2) := by decide +kernel
set_option maxRecDepth 100000 in
set_option maxHeartbeats 4000000 in
theorem c_X10_near (l : Launch) (D : va_G) (aa : Nat → Nat) (cI cZ cJ : ClassId) (tR tU : Nat) (a0 : Int) (a1 : Int) (σ : xSt) (Post : Int → Prop) (h : wp_X10_near a0 a1 σ Post) : MI l D (tyL cI cZ cJ) (cM aa cI cZ cJ) tR tU yX10_near wsX10_near rmX10_near [.int (xI a0), .int (xI a1)] σ (fun r9 σ9 => σ9 = σ ∧ Post r9) := by
  refine mi_of (cc := cX10_near) (maxL := 4) (ret := (some .int)) (by decide) rfl (Nat.le_of_ble_eq_true rfl) ?_
  intro p e s m args below meth c A hF
  obtain ⟨hx, hb, hr, hml, hown, hts, hlk, hK, hZ, hA⟩ := hF
  have hown : s.vm.findClass RX10 = some m.cls := hown
  delta wp_X10_near at h
  refine gg_lv (lv' := [(0, .int (xI a0)), (1, .int (xI a1))]) [0, 1] rfl ?_
  refine gg_iconst hx hb dX10_near_0 ?_
  refine gg_iload_n hx hb 0 rfl rfl dX10_near_1 ?_
  refine gg_imul hx hb dX10_near_2 ?_
  refine gg_iload_n hx hb 1 rfl rfl dX10_near_3 ?_
  refine gg_iadd hx hb dX10_near_4 ?_
  refine gg_istore_n (lv' := [(2, .int (xI ((2 * a0) + a1))), (0, .int (xI a0)), (1, .int (xI a1))]) hx hb rfl (by decide) rfl dX10_near_5 ?_
  refine gg_iconst hx hb dX10_near_6 ?_
  refine gg_iload_n hx hb 2 rfl rfl dX10_near_7 ?_
  refine gg_imul hx hb dX10_near_8 ?_
  refine gg_istore_n (lv' := [(3, .int (xI (2 * a1))), (2, .int (xI ((2 * a0) + a1))), (0, .int (xI a0)), (1, .int (xI a1))]) hx hb rfl (by decide) rfl dX10_near_9 ?_
  refine gg_iload_n hx hb 1 rfl rfl dX10_near_10 ?_
  refine gg_if_lt (tgt := 20) hx hb h.1 dX10_near_11 rfl (fun c11 => ?_) (fun c11 => ?_)
  · have h := h.2.1 c11
    refine gg_iload_n hx hb 0 rfl rfl dX10_near_20 ?_
    refine gg_iconst hx hb dX10_near_21 ?_
    refine gg_isub hx hb dX10_near_22 ?_
    refine gg_iload_n hx hb 1 rfl rfl dX10_near_23 ?_
    refine gg_isub hx hb dX10_near_24 ?_
    refine gg_iload_n hx hb 0 rfl rfl dX10_near_25 ?_
    refine gg_idiv hx hb h.1 h.2.1 h.2.2.1 dX10_near_26 ?_
    have h := h.2.2.2
    refine gg_ineg hx hb dX10_near_27 ?_
    exact gg_iret hx hb hr hlk ⟨rfl, h⟩ dX10_near_28
  · have h := h.2.2 c11
    refine gg_iload_n hx hb 1 rfl rfl dX10_near_14 ?_
    refine gg_iload_n hx hb 0 rfl rfl dX10_near_15 ?_
    refine gg_idiv hx hb h.1 h.2.1 h.2.2.1 dX10_near_16 ?_
    have h := h.2.2.2
    refine gg_goto (tgt := 28) hx hb dX10_near_17 rfl ?_
    exact gg_iret hx hb hr hlk ⟨rfl, h⟩ dX10_near_28
abbrev rmX10_wayOf : Room := { frames := 1, cells := 0, slots := 0, locals := 20 }
theorem hd_X10_wayOf : (yX10_wayOf.cls ≠ "java/lang/invoke/MethodHandle" ∧ yX10_wayOf.cls ≠ "java/lang/invoke/VarHandle" ∧ (parseMethodDescriptor yX10_wayOf.desc).map (fun d => d.parameters.length) = some 2) := by decide +kernel
set_option maxRecDepth 100000 in
set_option maxHeartbeats 4000000 in
theorem c_X10_wayOf (l : Launch) (D : va_G) (aa : Nat → Nat) (cI cZ cJ : ClassId) (tR tU : Nat) (a0 : Int) (a1 : Int) (σ : xSt) (Post : Int → Prop) (h : wp_X10_wayOf a0 a1 σ Post) : MI l D (tyL cI cZ cJ) (cM aa cI cZ cJ) tR tU yX10_wayOf wsX10_wayOf rmX10_wayOf [.int (xI a0), .int (xI a1)] σ (fun r9 σ9 => σ9 = σ ∧ Post r9) := by
  refine mi_of (cc := cX10_wayOf) (maxL := 4) (ret := (some .int)) (by decide) rfl (Nat.le_of_ble_eq_true rfl) ?_
  intro p e s m args below meth c A hF
  obtain ⟨hx, hb, hr, hml, hown, hts, hlk, hK, hZ, hA⟩ := hF
  have hown : s.vm.findClass RX10 = some m.cls := hown
  delta wp_X10_wayOf at h
  refine gg_lv (lv' := [(0, .int (xI a0)), (1, .int (xI a1))]) [0, 1] rfl ?_
  refine gg_iconst hx hb dX10_wayOf_0 ?_
  refine gg_istore_n (lv' := [(2, .int (xI 0)), (0, .int (xI a0)), (1, .int (xI a1))]) hx hb rfl (by decide) rfl dX10_wayOf_1 ?_
  refine gg_iconst hx hb dX10_wayOf_2 ?_
  refine gg_istore_n (lv' := [(3, .int (xI 0)), (2, .int (xI 0)), (0, .int (xI a0)), (1, .int (xI a1))]) hx hb rfl (by decide) rfl dX10_wayOf_3 ?_
  have h := h (fun (x2_4 x3_4 : Int) => GG p l e rmX10_wayOf s m args below meth c (QI below D (cM aa cI cZ cJ) A args s (fun r9 σ9 => σ9 = σ ∧ Post r9)) A D (cM aa cI cZ cJ) 4 σ 4 [(0, .int (xI a0)), (1, .int (xI a1)), (2, .int (xI x2_4)), (3, .int (xI x3_4))] [])
  have h := h (by
    intro x2_4 x3_4 h
    refine gg_iload_n hx hb 3 rfl rfl dX10_wayOf_4 ?_
    refine gg_bipush hx hb dX10_wayOf_5 rfl ?_
    refine gg_icmp_ge (tgt := 38) hx hb h.1 (by decide) dX10_wayOf_7 rfl (fun c7 => ?_) (fun c7 => ?_)
    · have h := h.2.1 c7
      refine gg_iload_n hx hb 2 rfl rfl dX10_wayOf_38 ?_
      exact gg_iret hx hb hr hlk ⟨rfl, h⟩ dX10_wayOf_39
    · have h := h.2.2 c7
      refine gg_iload_n hx hb 3 rfl rfl dX10_wayOf_10 ?_
      refine gg_callSip (As := [.int (xI x3_4)]) (rest := []) hx hb hml hown hts hK hZ hA (c_X10_stepX l D aa cI cZ cJ tR tU x3_4 σ _ h) (va_cwS 1 hts gX10_wayOf_X10_stepX rfl rfl rfl hd_X10_stepX ⟨Nat.le_of_ble_eq_true rfl, Nat.le_of_ble_eq_true rfl⟩) rfl rfl (Nat.le_of_ble_eq_true rfl) dX10_wayOf_11 (fun r11 h => ?_)
      refine gg_iload_n hx hb 0 rfl rfl dX10_wayOf_14 ?_
      refine gg_icmp_ne (tgt := 30) hx hb h.1 h.2.1 dX10_wayOf_15 rfl (fun c15 => ?_) (fun c15 => ?_)
      · have h := h.2.2.1 c15
        refine gg_iload_n hx hb 2 rfl rfl dX10_wayOf_30 ?_
        refine gg_istore_n (lv' := [(2, .int (xI x2_4)), (0, .int (xI a0)), (1, .int (xI a1)), (3, .int (xI x3_4))]) hx hb rfl (by decide) rfl dX10_wayOf_31 ?_
        refine gg_iinc (lv' := [(3, .int (xI (x3_4 + 1))), (2, .int (xI x2_4)), (0, .int (xI a0)), (1, .int (xI a1))]) hx hb 3 rfl (by decide) rfl dX10_wayOf_32 ?_
        refine gg_goto (tgt := 4) hx hb dX10_wayOf_35 rfl ?_
        refine gg_lv [2, 3, 1, 0] rfl ?_
        exact h
      · have h := h.2.2.2 c15
        refine gg_iload_n hx hb 3 rfl rfl dX10_wayOf_18 ?_
        refine gg_callSip (As := [.int (xI x3_4)]) (rest := []) hx hb hml hown hts hK hZ hA (c_X10_stepY l D aa cI cZ cJ tR tU x3_4 σ _ h) (va_cwS 1 hts gX10_wayOf_X10_stepY rfl rfl rfl hd_X10_stepY ⟨Nat.le_of_ble_eq_true rfl, Nat.le_of_ble_eq_true rfl⟩) rfl rfl (Nat.le_of_ble_eq_true rfl) dX10_wayOf_19 (fun r19 h => ?_)
        refine gg_iload_n hx hb 1 rfl rfl dX10_wayOf_22 ?_
        refine gg_icmp_ne (tgt := 30) hx hb h.1 h.2.1 dX10_wayOf_23 rfl (fun c23 => ?_) (fun c23 => ?_)
        · have h := h.2.2.1 c23
          refine gg_iload_n hx hb 2 rfl rfl dX10_wayOf_30 ?_
          refine gg_istore_n (lv' := [(2, .int (xI x2_4)), (0, .int (xI a0)), (1, .int (xI a1)), (3, .int (xI x3_4))]) hx hb rfl (by decide) rfl dX10_wayOf_31 ?_
          refine gg_iinc (lv' := [(3, .int (xI (x3_4 + 1))), (2, .int (xI x2_4)), (0, .int (xI a0)), (1, .int (xI a1))]) hx hb 3 rfl (by decide) rfl dX10_wayOf_32 ?_
          refine gg_goto (tgt := 4) hx hb dX10_wayOf_35 rfl ?_
          refine gg_lv [2, 3, 1, 0] rfl ?_
          exact h
        · have h := h.2.2.2 c23
          refine gg_iload_n hx hb 3 rfl rfl dX10_wayOf_26 ?_
          refine gg_goto (tgt := 31) hx hb dX10_wayOf_27 rfl ?_
          refine gg_istore_n (lv' := [(2, .int (xI x3_4)), (0, .int (xI a0)), (1, .int (xI a1)), (3, .int (xI x3_4))]) hx hb rfl (by decide) rfl dX10_wayOf_31 ?_
          refine gg_iinc (lv' := [(3, .int (xI (x3_4 + 1))), (2, .int (xI x3_4)), (0, .int (xI a0)), (1, .int (xI a1))]) hx hb 3 rfl (by decide) rfl dX10_wayOf_32 ?_
          refine gg_goto (tgt := 4) hx hb dX10_wayOf_35 rfl ?_
          refine gg_lv [2, 3, 1, 0] rfl ?_
          exact h)
  refine gg_lv [2, 3, 1, 0] rfl ?_
  exact h
abbrev rmX10_draw : Room := { frames := 2, cells := 0, slots := 0, locals := 43 }
theorem iX10_draw_X10 : ∀ w ∈ u_ws RX10 TX10 18, w ∈ wsX10_draw := (fun _ h => List.mem_cons_of_mem _ (List.mem_append_right _ h))
theorem hd_X10_draw : (yX10_draw.cls = RX10 ∧ yX10_draw.cls ≠ "java/lang/invoke/MethodHandle" ∧ yX10_draw.cls ≠ "java/lang/invoke/VarHandle" ∧ (parseMethodDescriptor yX10_draw.desc).map (fun d => d.parameters.length) = some 2) := by decide +kernel
set_option maxRecDepth 100000 in
set_option maxHeartbeats 4000000 in
theorem c_X10_draw (l : Launch) (D : va_G) (aa : Nat → Nat) (cI cZ cJ : ClassId) (tR tU : Nat) (a1 : Int) (a2 : Int) (σ : xSt) (Post : Int → xSt → Prop) (h : wp_X10_draw a1 a2 σ Post) : MI l D (tyL cI cZ cJ) (cM aa cI cZ cJ) tR tU yX10_draw wsX10_draw rmX10_draw [.ref (aa 0), .int (xI a1), .int (xI a2)] σ Post := by
  refine mi_of (cc := cX10_draw) (maxL := 7) (ret := (some .int)) (by decide) rfl (Nat.le_of_ble_eq_true rfl) ?_
  intro p e s m args below meth c A hF
  obtain ⟨hx, hb, hr, hml, hown, hts, hlk, hK, hZ, hA⟩ := hF
  have hown : s.vm.findClass RX10 = some m.cls := hown
  delta wp_X10_draw at h
  refine gg_lv (lv' := [(0, .ref (aa 0)), (1, .int (xI a1)), (2, .int (xI a2))]) [0, 1, 2] rfl ?_
  refine gg_aload_n hx hb 0 rfl rfl dX10_draw_0 ?_
  refine gg_iconst hx hb dX10_draw_1 ?_
  refine gg_put (C := RX10) (T := TX10) (N := 18) hx hb hts hown hK iX10_draw_X10 tyX10 tyX10_ok nmX10 0 rfl rfl 0 (by decide) (List.mem_of_getElem? (i := 1) rfl) rfl rfl (Nat.le_of_ble_eq_true rfl) (cM_set_0_0 aa cI cZ cJ _ _) dX10_draw_2 (fun σ_2 e2 => ?_)
  have h := h σ_2 e2
  refine gg_iload_n hx hb 1 rfl rfl dX10_draw_5 ?_
  refine gg_i2l hx hb h.1 dX10_draw_6 ?_
  have h := h.2
  refine gg_ldc2 hx hb (-60) hown (hts _ (List.mem_of_getElem? (i := 2) rfl)) rfl dX10_draw_7 ?_
  refine gg_ldc2 hx hb (60) hown (hts _ (List.mem_of_getElem? (i := 3) rfl)) rfl dX10_draw_10 ?_
  refine gg_callSip (As := [.long (xJ a1), .long (xJ (-60)), .long (xJ 60)]) (rest := []) hx hb hml hown hts hK hZ hA (c_X10_in l D aa cI cZ cJ tR tU a1 (-60) 60 σ_2 _ h) (va_cwS 3 hts gX10_draw_X10_in rfl rfl rfl hd_X10_in ⟨Nat.le_of_ble_eq_true rfl, Nat.le_of_ble_eq_true rfl⟩) rfl rfl (Nat.le_of_ble_eq_true rfl) dX10_draw_13 (fun r13 h => ?_)
  refine gg_if_eq (tgt := 41) hx hb h.1 dX10_draw_16 rfl (fun c16 => ?_) (fun c16 => ?_)
  · have h := h.2.1 c16
    refine gg_sipush hx hb dX10_draw_41 rfl ?_
    exact gg_iret hx hb hr hlk h dX10_draw_44
  · have h := h.2.2 c16
    refine gg_iload_n hx hb 2 rfl rfl dX10_draw_19 ?_
    refine gg_i2l hx hb h.1 dX10_draw_20 ?_
    have h := h.2
    refine gg_ldc2 hx hb (-60) hown (hts _ (List.mem_of_getElem? (i := 2) rfl)) rfl dX10_draw_21 ?_
    refine gg_ldc2 hx hb (60) hown (hts _ (List.mem_of_getElem? (i := 3) rfl)) rfl dX10_draw_24 ?_
    refine gg_callSip (As := [.long (xJ a2), .long (xJ (-60)), .long (xJ 60)]) (rest := []) hx hb hml hown hts hK hZ hA (c_X10_in l D aa cI cZ cJ tR tU a2 (-60) 60 σ_2 _ h) (va_cwS 3 hts gX10_draw_X10_in rfl rfl rfl hd_X10_in ⟨Nat.le_of_ble_eq_true rfl, Nat.le_of_ble_eq_true rfl⟩) rfl rfl (Nat.le_of_ble_eq_true rfl) dX10_draw_27 (fun r27 h => ?_)
    refine gg_if_eq (tgt := 41) hx hb h.1 dX10_draw_30 rfl (fun c30 => ?_) (fun c30 => ?_)
    · have h := h.2.1 c30
      refine gg_sipush hx hb dX10_draw_41 rfl ?_
      exact gg_iret hx hb hr hlk h dX10_draw_44
    · have h := h.2.2 c30
      refine gg_iload_n hx hb 1 rfl rfl dX10_draw_33 ?_
      have h := h (GG p l e rmX10_draw s m args below meth c (QI below D (cM aa cI cZ cJ) A args s Post) A D (cM aa cI cZ cJ) 7 σ_2 45 [(0, .ref (aa 0)), (1, .int (xI a1)), (2, .int (xI a2))] [])
      have h := h (by
        intro h
        refine gg_iload_n hx hb 1 rfl rfl dX10_draw_45 ?_
        refine gg_callSip (As := [.int (xI a1)]) (rest := []) hx hb hml hown hts hK hZ hA (c_X10_size l D aa cI cZ cJ tR tU a1 σ_2 _ h) (va_cwS 1 hts gX10_draw_X10_size rfl rfl rfl hd_X10_size ⟨Nat.le_of_ble_eq_true rfl, Nat.le_of_ble_eq_true rfl⟩) rfl rfl (Nat.le_of_ble_eq_true rfl) dX10_draw_46 (fun r46 h => ?_)
        refine gg_iload_n hx hb 2 rfl rfl dX10_draw_49 ?_
        refine gg_callSip (As := [.int (xI a2)]) (rest := [.int (xI r46)]) hx hb hml hown hts hK hZ hA (c_X10_size l D aa cI cZ cJ tR tU a2 σ_2 _ h) (va_cwS 1 hts gX10_draw_X10_size rfl rfl rfl hd_X10_size ⟨Nat.le_of_ble_eq_true rfl, Nat.le_of_ble_eq_true rfl⟩) rfl rfl (Nat.le_of_ble_eq_true rfl) dX10_draw_50 (fun r50 h => ?_)
        have h := h (fun (y0_67 : Int) => GG p l e rmX10_draw s m args below meth c (QI below D (cM aa cI cZ cJ) A args s Post) A D (cM aa cI cZ cJ) 7 σ_2 67 [(0, .ref (aa 0)), (1, .int (xI a1)), (2, .int (xI a2))] [.int (xI y0_67)])
        have h := h (by
          intro y0_67 h
          refine gg_istore_n (lv' := [(3, .int (xI y0_67)), (0, .ref (aa 0)), (1, .int (xI a1)), (2, .int (xI a2))]) hx hb rfl (by decide) rfl dX10_draw_67 ?_
          refine gg_aload_n hx hb 1 rfl rfl dX10_draw_68 ?_
          refine gg_get (C := RX10) (T := TX10) (N := 18) hx hb hts hown hK iX10_draw_X10 0 rfl rfl 1 (by decide) (List.mem_of_getElem? (i := 4) rfl) rfl dX10_draw_69 ?_
          refine gg_iload_n hx hb 0 rfl rfl dX10_draw_72 ?_
          refine gg_iadd hx hb dX10_draw_73 ?_
          refine gg_bipush hx hb dX10_draw_74 rfl ?_
          refine gg_icmp_le (tgt := 83) hx hb h.1 (by decide) dX10_draw_76 rfl (fun c76 => ?_) (fun c76 => ?_)
          · have h := h.2.1 c76
            refine gg_iconst hx hb dX10_draw_83 ?_
            refine gg_istore (lv' := [(4, .int (xI 1)), (3, .int (xI y0_67)), (0, .ref (aa 0)), (1, .int (xI a1)), (2, .int (xI a2))]) hx hb (by decide) rfl dX10_draw_84 ?_
            have h := h (fun (x4_86 : Int) (s86 : xSt) => GG p l e rmX10_draw s m args below meth c (QI below D (cM aa cI cZ cJ) A args s Post) A D (cM aa cI cZ cJ) 7 s86 86 [(0, .ref (aa 0)), (1, .int (xI a1)), (2, .int (xI a2)), (3, .int (xI y0_67)), (4, .int (xI x4_86))] [])
            have h := h (by
              intro x4_86 s86 h
              refine gg_iload hx hb 4 rfl dX10_draw_86 ?_
              refine gg_iload_n hx hb 3 rfl rfl dX10_draw_88 ?_
              refine gg_icmp_gt (tgt := 166) hx hb h.1 h.2.1 dX10_draw_89 rfl (fun c89 => ?_) (fun c89 => ?_)
              · have h := h.2.2.1 c89
                refine gg_aload_n hx hb 0 rfl rfl dX10_draw_166 ?_
                refine gg_get (C := RX10) (T := TX10) (N := 18) hx hb hts hown hK iX10_draw_X10 0 rfl rfl 1 (by decide) (List.mem_of_getElem? (i := 4) rfl) rfl dX10_draw_167 ?_
                exact gg_iret hx hb hr hlk h dX10_draw_170
              · have h := h.2.2.2 c89
                refine gg_iload_n hx hb 1 rfl rfl dX10_draw_92 ?_
                refine gg_iload hx hb 4 rfl dX10_draw_93 ?_
                refine gg_imul hx hb dX10_draw_95 ?_
                refine gg_iload_n hx hb 3 rfl rfl dX10_draw_96 ?_
                refine gg_callSip (As := [.int (xI (a1 * x4_86)), .int (xI y0_67)]) (rest := []) hx hb hml hown hts hK hZ hA (c_X10_near l D aa cI cZ cJ tR tU (a1 * x4_86) y0_67 s86 _ h) (va_cwS 2 hts gX10_draw_X10_near rfl rfl rfl hd_X10_near ⟨Nat.le_of_ble_eq_true rfl, Nat.le_of_ble_eq_true rfl⟩) rfl rfl (Nat.le_of_ble_eq_true rfl) dX10_draw_97 (fun r97 h => ?_)
                refine gg_iload_n hx hb 1 rfl rfl dX10_draw_100 ?_
                refine gg_iload hx hb 4 rfl dX10_draw_101 ?_
                refine gg_iconst hx hb dX10_draw_103 ?_
                refine gg_isub hx hb dX10_draw_104 ?_
                refine gg_imul hx hb dX10_draw_105 ?_
                refine gg_iload_n hx hb 3 rfl rfl dX10_draw_106 ?_
                refine gg_callSip (As := [.int (xI (a1 * (x4_86 - 1))), .int (xI y0_67)]) (rest := [.int (xI r97)]) hx hb hml hown hts hK hZ hA (c_X10_near l D aa cI cZ cJ tR tU (a1 * (x4_86 - 1)) y0_67 s86 _ h) (va_cwS 2 hts gX10_draw_X10_near rfl rfl rfl hd_X10_near ⟨Nat.le_of_ble_eq_true rfl, Nat.le_of_ble_eq_true rfl⟩) rfl rfl (Nat.le_of_ble_eq_true rfl) dX10_draw_107 (fun r107 h => ?_)
                refine gg_isub hx hb dX10_draw_110 ?_
                refine gg_istore (lv' := [(5, .int (xI (r97 - r107))), (0, .ref (aa 0)), (1, .int (xI a1)), (2, .int (xI a2)), (3, .int (xI y0_67)), (4, .int (xI x4_86))]) hx hb (by decide) rfl dX10_draw_111 ?_
                refine gg_iload_n hx hb 3 rfl rfl dX10_draw_113 ?_
                refine gg_iload hx hb 5 rfl dX10_draw_114 ?_
                refine gg_imul hx hb dX10_draw_116 ?_
                refine gg_iload_n hx hb 4 rfl rfl dX10_draw_117 ?_
                refine gg_callSip (As := [.int (xI (a2 * x4_86)), .int (xI y0_67)]) (rest := []) hx hb hml hown hts hK hZ hA (c_X10_near l D aa cI cZ cJ tR tU (a2 * x4_86) y0_67 s86 _ h) (va_cwS 2 hts gX10_draw_X10_near rfl rfl rfl hd_X10_near ⟨Nat.le_of_ble_eq_true rfl, Nat.le_of_ble_eq_true rfl⟩) rfl rfl (Nat.le_of_ble_eq_true rfl) dX10_draw_118 (fun r118 h => ?_)
                refine gg_iload_n hx hb 3 rfl rfl dX10_draw_121 ?_
                refine gg_iload hx hb 5 rfl dX10_draw_122 ?_
                refine gg_iconst hx hb dX10_draw_124 ?_
                refine gg_isub hx hb dX10_draw_125 ?_
                refine gg_imul hx hb dX10_draw_126 ?_
                refine gg_iload_n hx hb 4 rfl rfl dX10_draw_127 ?_
                refine gg_callSip (As := [.int (xI (a2 * (x4_86 - 1))), .int (xI y0_67)]) (rest := [.int (xI r118)]) hx hb hml hown hts hK hZ hA (c_X10_near l D aa cI cZ cJ tR tU (a2 * (x4_86 - 1)) y0_67 s86 _ h) (va_cwS 2 hts gX10_draw_X10_near rfl rfl rfl hd_X10_near ⟨Nat.le_of_ble_eq_true rfl, Nat.le_of_ble_eq_true rfl⟩) rfl rfl (Nat.le_of_ble_eq_true rfl) dX10_draw_128 (fun r128 h => ?_)
                refine gg_isub hx hb dX10_draw_131 ?_
                refine gg_istore (lv' := [(6, .int (xI (r118 - r128))), (5, .int (xI (r97 - r107))), (0, .ref (aa 0)), (1, .int (xI a1)), (2, .int (xI a2)), (3, .int (xI y0_67)), (4, .int (xI x4_86))]) hx hb (by decide) rfl dX10_draw_132 ?_
                refine gg_aload_n hx hb 2 rfl rfl dX10_draw_134 ?_
                refine gg_get (C := RX10) (T := TX10) (N := 18) hx hb hts hown hK iX10_draw_X10 0 rfl rfl 2 (by decide) (List.mem_of_getElem? (i := 5) rfl) rfl dX10_draw_135 ?_
                refine gg_aload_n hx hb 2 rfl rfl dX10_draw_138 ?_
                refine gg_get (C := RX10) (T := TX10) (N := 18) hx hb hts hown hK iX10_draw_X10 0 rfl rfl 1 (by decide) (List.mem_of_getElem? (i := 4) rfl) rfl dX10_draw_139 ?_
                refine gg_iload hx hb 1 rfl dX10_draw_142 ?_
                refine gg_iload hx hb 0 rfl dX10_draw_144 ?_
                refine gg_callSip (As := [.int (xI (r97 - r107)), .int (xI (r118 - r128))]) (rest := [.int (xI (s86 0 1)), .ref (aa 1)]) hx hb hml hown hts hK hZ hA (c_X10_wayOf l D aa cI cZ cJ tR tU (r97 - r107) (r118 - r128) s86 _ h) (va_cwS 2 hts gX10_draw_X10_wayOf rfl rfl rfl hd_X10_wayOf ⟨Nat.le_of_ble_eq_true rfl, Nat.le_of_ble_eq_true rfl⟩) rfl rfl (Nat.le_of_ble_eq_true rfl) dX10_draw_146 (fun r146 h => ?_)
                refine gg_iast hx hb hK 1 0 rfl rfl (cM_st_1 aa cI cZ cJ _ _) (by decide) h.1 dX10_draw_149 (fun σ_149 e149 => ?_)
                have h := h.2 σ_149 e149
                refine gg_aload_n hx hb 2 rfl rfl dX10_draw_150 ?_
                refine gg_dup hx hb rfl dX10_draw_151 ?_
                refine gg_get (C := RX10) (T := TX10) (N := 18) hx hb hts hown hK iX10_draw_X10 0 rfl rfl 1 (by decide) (List.mem_of_getElem? (i := 4) rfl) rfl dX10_draw_152 ?_
                refine gg_iconst hx hb dX10_draw_155 ?_
                refine gg_iadd hx hb dX10_draw_156 ?_
                refine gg_put (C := RX10) (T := TX10) (N := 18) hx hb hts hown hK iX10_draw_X10 tyX10 tyX10_ok nmX10 0 rfl rfl 1 (by decide) (List.mem_of_getElem? (i := 4) rfl) rfl rfl (Nat.le_of_ble_eq_true rfl) (cM_set_0_1 aa cI cZ cJ _ _) dX10_draw_157 (fun σ_157 e157 => ?_)
                have h := h σ_157 e157
                refine gg_iinc (lv' := [(4, .int (xI (x4_86 + 1))), (6, .int (xI (r118 - r128))), (5, .int (xI (r97 - r107))), (0, .ref (aa 0)), (1, .int (xI a1)), (2, .int (xI a2)), (3, .int (xI y0_67))]) hx hb 6 rfl (by decide) rfl dX10_draw_160 ?_
                refine gg_goto (tgt := 86) hx hb dX10_draw_163 rfl ?_
                refine gg_lv [3, 4, 5, 6, 0] rfl ?_
                exact h)
            refine gg_lv [2, 3, 4, 1, 0] rfl ?_
            exact h
          · have h := h.2.2 c76
            refine gg_sipush hx hb dX10_draw_79 rfl ?_
            exact gg_iret hx hb hr hlk h dX10_draw_82)
        refine gg_icmp_le (tgt := 63) hx hb h.1 h.2.1 dX10_draw_53 rfl (fun c53 => ?_) (fun c53 => ?_)
        · have h := h.2.2.1 c53
          refine gg_iload_n hx hb 2 rfl rfl dX10_draw_63 ?_
          refine gg_callSip (As := [.int (xI a2)]) (rest := []) hx hb hml hown hts hK hZ hA (c_X10_size l D aa cI cZ cJ tR tU a2 σ_2 _ h) (va_cwS 1 hts gX10_draw_X10_size rfl rfl rfl hd_X10_size ⟨Nat.le_of_ble_eq_true rfl, Nat.le_of_ble_eq_true rfl⟩) rfl rfl (Nat.le_of_ble_eq_true rfl) dX10_draw_64 (fun r64 h => ?_)
          exact h
        · have h := h.2.2.2 c53
          refine gg_iload_n hx hb 1 rfl rfl dX10_draw_56 ?_
          refine gg_callSip (As := [.int (xI a1)]) (rest := []) hx hb hml hown hts hK hZ hA (c_X10_size l D aa cI cZ cJ tR tU a1 σ_2 _ h) (va_cwS 1 hts gX10_draw_X10_size rfl rfl rfl hd_X10_size ⟨Nat.le_of_ble_eq_true rfl, Nat.le_of_ble_eq_true rfl⟩) rfl rfl (Nat.le_of_ble_eq_true rfl) dX10_draw_57 (fun r57 h => ?_)
          refine gg_goto (tgt := 67) hx hb dX10_draw_60 rfl ?_
          exact h)
      refine gg_if_ne (tgt := 45) hx hb h.1 dX10_draw_34 rfl (fun c34 => ?_) (fun c34 => ?_)
      · have h := h.2.1 c34
        exact h
      · have h := h.2.2 c34
        refine gg_iload_n hx hb 2 rfl rfl dX10_draw_37 ?_
        refine gg_if_ne (tgt := 45) hx hb h.1 dX10_draw_38 rfl (fun c38 => ?_) (fun c38 => ?_)
        · have h := h.2.1 c38
          exact h
        · have h := h.2.2 c38
          refine gg_sipush hx hb dX10_draw_41 rfl ?_
          exact gg_iret hx hb hr hlk h dX10_draw_44
abbrev rmX10_word : Room := { frames := 1, cells := 0, slots := 0, locals := 25 }
theorem iX10_word_X10 : ∀ w ∈ u_ws RX10 TX10 18, w ∈ wsX10_word := (fun _ h => List.mem_cons_of_mem _ (List.mem_append_right _ h))
theorem hd_X10_word : (yX10_word.cls = RX10 ∧ yX10_word.cls ≠ "java/lang/invoke/MethodHandle" ∧ yX10_word.cls ≠ "java/lang/invoke/VarHandle" ∧ (parseMethodDescriptor yX10_word.desc).map (fun d => d.parameters.length) = some 3) := by decide +kernel
set_option maxRecDepth 100000 in
set_option maxHeartbeats 4000000 in
theorem c_X10_word (l : Launch) (D : va_G) (aa : Nat → Nat) (cI cZ cJ : ClassId) (tR tU : Nat) (a1 : Int) (a2 : Int) (a3 : Int) (σ : xSt) (Post : Int → xSt → Prop) (h : wp_X10_word a1 a2 a3 σ Post) : MI l D (tyL cI cZ cJ) (cM aa cI cZ cJ) tR tU yX10_word wsX10_word rmX10_word [.ref (aa 0), .int (xI a1), .int (xI a2), .int (xI a3)] σ Post := by
  refine mi_of (cc := cX10_word) (maxL := 4) (ret := (some .int)) (by decide) rfl (Nat.le_of_ble_eq_true rfl) ?_
  intro p e s m args below meth c A hF
  obtain ⟨hx, hb, hr, hml, hown, hts, hlk, hK, hZ, hA⟩ := hF
  have hown : s.vm.findClass RX10 = some m.cls := hown
  delta wp_X10_word at h
  refine gg_lv (lv' := [(0, .ref (aa 0)), (1, .int (xI a1)), (2, .int (xI a2)), (3, .int (xI a3))]) [0, 1, 2, 3] rfl ?_
  refine gg_aload_n hx hb 0 rfl rfl dX10_word_0 ?_
  refine gg_iconst hx hb dX10_word_1 ?_
  refine gg_put (C := RX10) (T := TX10) (N := 18) hx hb hts hown hK iX10_word_X10 tyX10 tyX10_ok nmX10 0 rfl rfl 0 (by decide) (List.mem_of_getElem? (i := 1) rfl) rfl rfl (Nat.le_of_ble_eq_true rfl) (cM_set_0_0 aa cI cZ cJ _ _) dX10_word_2 (fun σ_2 e2 => ?_)
  have h := h σ_2 e2
  refine gg_iload_n hx hb 1 rfl rfl dX10_word_5 ?_
  refine gg_i2l hx hb h.1 dX10_word_6 ?_
  have h := h.2
  refine gg_lconst (z := 1) hx hb dX10_word_7 rfl ?_
  refine gg_ldc2 hx hb (60) hown (hts _ (List.mem_of_getElem? (i := 2) rfl)) rfl dX10_word_8 ?_
  refine gg_callSip (As := [.long (xJ a1), .long (xJ 1), .long (xJ 60)]) (rest := []) hx hb hml hown hts hK hZ hA (c_X10_in l D aa cI cZ cJ tR tU a1 1 60 σ_2 _ h) (va_cwS 3 hts gX10_word_X10_in rfl rfl rfl hd_X10_in ⟨Nat.le_of_ble_eq_true rfl, Nat.le_of_ble_eq_true rfl⟩) rfl rfl (Nat.le_of_ble_eq_true rfl) dX10_word_11 (fun r11 h => ?_)
  refine gg_if_eq (tgt := 41) hx hb h.1 dX10_word_14 rfl (fun c14 => ?_) (fun c14 => ?_)
  · have h := h.2.1 c14
    refine gg_sipush hx hb dX10_word_41 rfl ?_
    exact gg_iret hx hb hr hlk h dX10_word_44
  · have h := h.2.2 c14
    refine gg_iload_n hx hb 2 rfl rfl dX10_word_17 ?_
    refine gg_i2l hx hb h.1 dX10_word_18 ?_
    have h := h.2
    refine gg_lconst (z := 0) hx hb dX10_word_19 rfl ?_
    refine gg_iload_n hx hb 1 rfl rfl dX10_word_20 ?_
    refine gg_i2l hx hb h.1 dX10_word_21 ?_
    have h := h.2
    refine gg_callSip (As := [.long (xJ a2), .long (xJ 0), .long (xJ a1)]) (rest := []) hx hb hml hown hts hK hZ hA (c_X10_in l D aa cI cZ cJ tR tU a2 0 a1 σ_2 _ h) (va_cwS 3 hts gX10_word_X10_in rfl rfl rfl hd_X10_in ⟨Nat.le_of_ble_eq_true rfl, Nat.le_of_ble_eq_true rfl⟩) rfl rfl (Nat.le_of_ble_eq_true rfl) dX10_word_22 (fun r22 h => ?_)
    refine gg_if_eq (tgt := 41) hx hb h.1 dX10_word_25 rfl (fun c25 => ?_) (fun c25 => ?_)
    · have h := h.2.1 c25
      refine gg_sipush hx hb dX10_word_41 rfl ?_
      exact gg_iret hx hb hr hlk h dX10_word_44
    · have h := h.2.2 c25
      refine gg_iload_n hx hb 3 rfl rfl dX10_word_28 ?_
      refine gg_i2l hx hb h.1 dX10_word_29 ?_
      have h := h.2
      refine gg_lconst (z := 0) hx hb dX10_word_30 rfl ?_
      refine gg_iload_n hx hb 1 rfl rfl dX10_word_31 ?_
      refine gg_iconst hx hb dX10_word_32 ?_
      refine gg_isub hx hb dX10_word_33 ?_
      refine gg_i2l hx hb h.1 dX10_word_34 ?_
      have h := h.2
      refine gg_callSip (As := [.long (xJ a3), .long (xJ 0), .long (xJ (a1 - 1))]) (rest := []) hx hb hml hown hts hK hZ hA (c_X10_in l D aa cI cZ cJ tR tU a3 0 (a1 - 1) σ_2 _ h) (va_cwS 3 hts gX10_word_X10_in rfl rfl rfl hd_X10_in ⟨Nat.le_of_ble_eq_true rfl, Nat.le_of_ble_eq_true rfl⟩) rfl rfl (Nat.le_of_ble_eq_true rfl) dX10_word_35 (fun r35 h => ?_)
      refine gg_if_ne (tgt := 45) hx hb h.1 dX10_word_38 rfl (fun c38 => ?_) (fun c38 => ?_)
      · have h := h.2.1 c38
        refine gg_iload_n hx hb 3 rfl rfl dX10_word_45 ?_
        refine gg_iconst hx hb dX10_word_46 ?_
        refine gg_iadd hx hb dX10_word_47 ?_
        refine gg_iload_n hx hb 2 rfl rfl dX10_word_48 ?_
        refine gg_imul hx hb dX10_word_49 ?_
        refine gg_iload_n hx hb 1 rfl rfl dX10_word_50 ?_
        refine gg_idiv hx hb h.1 h.2.1 h.2.2.1 dX10_word_51 ?_
        have h := h.2.2.2
        refine gg_iload_n hx hb 3 rfl rfl dX10_word_52 ?_
        refine gg_iload_n hx hb 2 rfl rfl dX10_word_53 ?_
        refine gg_imul hx hb dX10_word_54 ?_
        refine gg_iload_n hx hb 1 rfl rfl dX10_word_55 ?_
        refine gg_idiv hx hb h.1 h.2.1 h.2.2.1 dX10_word_56 ?_
        have h := h.2.2.2
        refine gg_icmp_le (tgt := 64) hx hb h.1 h.2.1 dX10_word_57 rfl (fun c57 => ?_) (fun c57 => ?_)
        · have h := h.2.2.1 c57
          refine gg_iconst hx hb dX10_word_64 ?_
          exact gg_iret hx hb hr hlk h dX10_word_65
        · have h := h.2.2.2 c57
          refine gg_iconst hx hb dX10_word_60 ?_
          refine gg_goto (tgt := 65) hx hb dX10_word_61 rfl ?_
          exact gg_iret hx hb hr hlk h dX10_word_65
      · have h := h.2.2 c38
        refine gg_sipush hx hb dX10_word_41 rfl ?_
        exact gg_iret hx hb hr hlk h dX10_word_44
abbrev rmX10_isSo : Room := { frames := 0, cells := 0, slots := 0, locals := 0 }
theorem iX10_isSo_X10 : ∀ w ∈ u_ws RX10 TX10 18, w ∈ wsX10_isSo := (fun _ h => List.mem_cons_of_mem _ (List.mem_append_right _ h))
theorem hd_X10_isSo : (yX10_isSo.cls = RX10 ∧ yX10_isSo.cls ≠ "java/lang/invoke/MethodHandle" ∧ yX10_isSo.cls ≠ "java/lang/invoke/VarHandle" ∧ (parseMethodDescriptor yX10_isSo.desc).map (fun d => d.parameters.length) = some 2) := by decide +kernel
set_option maxRecDepth 100000 in
set_option maxHeartbeats 4000000 in
theorem c_X10_isSo (l : Launch) (D : va_G) (aa : Nat → Nat) (cI cZ cJ : ClassId) (tR tU : Nat) (a1 : Int) (a2 : Int) (σ : xSt) (Post : Int → Prop) (h : wp_X10_isSo a1 a2 σ Post) : MI l D (tyL cI cZ cJ) (cM aa cI cZ cJ) tR tU yX10_isSo wsX10_isSo rmX10_isSo [.ref (aa 0), .int (xI a1), .int (xI a2)] σ (fun r9 σ9 => σ9 = σ ∧ Post r9) := by
  refine mi_of (cc := cX10_isSo) (maxL := 6) (ret := (some .boolean)) (by decide) rfl (Nat.le_of_ble_eq_true rfl) ?_
  intro p e s m args below meth c A hF
  obtain ⟨hx, hb, hr, hml, hown, hts, hlk, hK, hZ, hA⟩ := hF
  have hown : s.vm.findClass RX10 = some m.cls := hown
  delta wp_X10_isSo at h
  refine gg_lv (lv' := [(0, .ref (aa 0)), (1, .int (xI a1)), (2, .int (xI a2))]) [0, 1, 2] rfl ?_
  refine gg_sipush hx hb dX10_isSo_0 rfl ?_
  refine gg_istore_n (lv' := [(3, .int (xI (-999))), (0, .ref (aa 0)), (1, .int (xI a1)), (2, .int (xI a2))]) hx hb rfl (by decide) rfl dX10_isSo_3 ?_
  refine gg_iconst hx hb dX10_isSo_4 ?_
  refine gg_istore (lv' := [(4, .int (xI 1)), (3, .int (xI (-999))), (0, .ref (aa 0)), (1, .int (xI a1)), (2, .int (xI a2))]) hx hb (by decide) rfl dX10_isSo_5 ?_
  refine gg_iload_n hx hb 3 rfl rfl dX10_isSo_7 ?_
  refine gg_iconst hx hb dX10_isSo_8 ?_
  refine gg_iadd hx hb dX10_isSo_9 ?_
  refine gg_istore (lv' := [(5, .int (xI (a1 + 1))), (4, .int (xI 1)), (3, .int (xI (-999))), (0, .ref (aa 0)), (1, .int (xI a1)), (2, .int (xI a2))]) hx hb (by decide) rfl dX10_isSo_10 ?_
  have h := h (fun (x3_12 x4_12 x5_12 : Int) => GG p l e rmX10_isSo s m args below meth c (QI below D (cM aa cI cZ cJ) A args s (fun r9 σ9 => σ9 = σ ∧ Post r9)) A D (cM aa cI cZ cJ) 6 σ 12 [(0, .ref (aa 0)), (1, .int (xI a1)), (2, .int (xI a2)), (3, .int (xI x3_12)), (4, .int (xI x4_12)), (5, .int (xI x5_12))] [])
  have h := h (by
    intro x3_12 x4_12 x5_12 h
    refine gg_iload hx hb 5 rfl dX10_isSo_12 ?_
    refine gg_iload_n hx hb 2 rfl rfl dX10_isSo_14 ?_
    refine gg_icmp_ge (tgt := 78) hx hb h.1 h.2.1 dX10_isSo_15 rfl (fun c15 => ?_) (fun c15 => ?_)
    · have h := h.2.2.1 c15
      refine gg_iload_n hx hb 3 rfl rfl dX10_isSo_78 ?_
      refine gg_sipush hx hb dX10_isSo_79 rfl ?_
      have h := h (fun (y0_103 : Int) => GG p l e rmX10_isSo s m args below meth c (QI below D (cM aa cI cZ cJ) A args s (fun r9 σ9 => σ9 = σ ∧ Post r9)) A D (cM aa cI cZ cJ) 6 σ 103 [(4, .int (xI x4_12))] [.int (xI y0_103)])
      have h := h (by
        intro y0_103 h
        refine gg_istore (lv' := [(5, .int (xI y0_103)), (4, .int (xI x4_12))]) hx hb (by decide) rfl dX10_isSo_103 ?_
        refine gg_iload hx hb 1 rfl dX10_isSo_105 ?_
        refine gg_if_eq (tgt := 127) hx hb h.1 dX10_isSo_107 rfl (fun c107 => ?_) (fun c107 => ?_)
        · have h := h.2.1 c107
          refine gg_iconst hx hb dX10_isSo_127 ?_
          exact gg_zret hx hb hr hlk (Or.inl rfl) ⟨rfl, h⟩ dX10_isSo_128
        · have h := h.2.2 c107
          refine gg_iload hx hb 0 rfl dX10_isSo_110 ?_
          refine gg_iconst hx hb dX10_isSo_112 ?_
          refine gg_icmp_eq (tgt := 123) hx hb h.1 (by decide) dX10_isSo_113 rfl (fun c113 => ?_) (fun c113 => ?_)
          · have h := h.2.1 c113
            refine gg_iconst hx hb dX10_isSo_123 ?_
            refine gg_goto (tgt := 128) hx hb dX10_isSo_124 rfl ?_
            exact gg_zret hx hb hr hlk (Or.inr rfl) ⟨rfl, h⟩ dX10_isSo_128
          · have h := h.2.2 c113
            refine gg_iload hx hb 0 rfl dX10_isSo_116 ?_
            refine gg_bipush hx hb dX10_isSo_118 rfl ?_
            refine gg_icmp_ne (tgt := 127) hx hb h.1 (by decide) dX10_isSo_120 rfl (fun c120 => ?_) (fun c120 => ?_)
            · have h := h.2.1 c120
              refine gg_iconst hx hb dX10_isSo_127 ?_
              exact gg_zret hx hb hr hlk (Or.inl rfl) ⟨rfl, h⟩ dX10_isSo_128
            · have h := h.2.2 c120
              refine gg_iconst hx hb dX10_isSo_123 ?_
              refine gg_goto (tgt := 128) hx hb dX10_isSo_124 rfl ?_
              exact gg_zret hx hb hr hlk (Or.inr rfl) ⟨rfl, h⟩ dX10_isSo_128)
      refine gg_icmp_ne (tgt := 89) hx hb h.1 (by decide) dX10_isSo_82 rfl (fun c82 => ?_) (fun c82 => ?_)
      · have h := h.2.1 c82
        refine gg_iload_n hx hb 3 rfl rfl dX10_isSo_89 ?_
        refine gg_aload_n hx hb 0 rfl rfl dX10_isSo_90 ?_
        refine gg_get (C := RX10) (T := TX10) (N := 18) hx hb hts hown hK iX10_isSo_X10 0 rfl rfl 2 (by decide) (List.mem_of_getElem? (i := 1) rfl) rfl dX10_isSo_91 ?_
        refine gg_iload_n hx hb 1 rfl rfl dX10_isSo_94 ?_
        refine gg_iald hx hb hK 1 0 rfl rfl (by decide) h.1 dX10_isSo_95 ?_
        have h := h.2
        refine gg_isub hx hb dX10_isSo_96 ?_
        refine gg_bipush hx hb dX10_isSo_97 rfl ?_
        refine gg_iadd hx hb dX10_isSo_99 ?_
        refine gg_bipush hx hb dX10_isSo_100 rfl ?_
        refine gg_irem hx hb h.1 h.2.1 h.2.2.1 dX10_isSo_102 ?_
        have h := h.2.2.2
        refine gg_lv [4] rfl ?_
        exact h
      · have h := h.2.2 c82
        refine gg_iconst hx hb dX10_isSo_85 ?_
        refine gg_goto (tgt := 103) hx hb dX10_isSo_86 rfl ?_
        refine gg_lv [4] rfl ?_
        exact h
    · have h := h.2.2.2 c15
      refine gg_aload_n hx hb 0 rfl rfl dX10_isSo_18 ?_
      refine gg_get (C := RX10) (T := TX10) (N := 18) hx hb hts hown hK iX10_isSo_X10 0 rfl rfl 2 (by decide) (List.mem_of_getElem? (i := 1) rfl) rfl dX10_isSo_19 ?_
      refine gg_iload hx hb 5 rfl dX10_isSo_22 ?_
      refine gg_iald hx hb hK 1 0 rfl rfl (by decide) h.1 dX10_isSo_24 ?_
      have h := h.2
      refine gg_aload_n hx hb 0 rfl rfl dX10_isSo_25 ?_
      refine gg_get (C := RX10) (T := TX10) (N := 18) hx hb hts hown hK iX10_isSo_X10 0 rfl rfl 2 (by decide) (List.mem_of_getElem? (i := 1) rfl) rfl dX10_isSo_26 ?_
      refine gg_iload_n hx hb 1 rfl rfl dX10_isSo_29 ?_
      refine gg_iald hx hb hK 1 0 rfl rfl (by decide) h.1 dX10_isSo_30 ?_
      have h := h.2
      refine gg_icmp_eq (tgt := 72) hx hb h.1 h.2.1 dX10_isSo_31 rfl (fun c31 => ?_) (fun c31 => ?_)
      · have h := h.2.2.1 c31
        refine gg_iinc (lv' := [(5, .int (xI (x5_12 + 1))), (0, .ref (aa 0)), (1, .int (xI a1)), (2, .int (xI a2)), (3, .int (xI x3_12)), (4, .int (xI x4_12))]) hx hb 5 rfl (by decide) rfl dX10_isSo_72 ?_
        refine gg_goto (tgt := 12) hx hb dX10_isSo_75 rfl ?_
        refine gg_lv [1, 2, 3, 4, 5, 0] rfl ?_
        exact h
      · have h := h.2.2.2 c31
        refine gg_iload hx hb 4 rfl dX10_isSo_34 ?_
        have h := h (fun (y0_62 : Int) => GG p l e rmX10_isSo s m args below meth c (QI below D (cM aa cI cZ cJ) A args s (fun r9 σ9 => σ9 = σ ∧ Post r9)) A D (cM aa cI cZ cJ) 6 σ 62 [(0, .ref (aa 0)), (1, .int (xI a1)), (2, .int (xI a2)), (5, .int (xI x5_12))] [.int (xI y0_62)])
        have h := h (by
          intro y0_62 h
          refine gg_istore (lv' := [(4, .int (xI y0_62)), (0, .ref (aa 0)), (1, .int (xI a1)), (2, .int (xI a2)), (5, .int (xI x5_12))]) hx hb (by decide) rfl dX10_isSo_62 ?_
          refine gg_aload_n hx hb 1 rfl rfl dX10_isSo_64 ?_
          refine gg_get (C := RX10) (T := TX10) (N := 18) hx hb hts hown hK iX10_isSo_X10 0 rfl rfl 2 (by decide) (List.mem_of_getElem? (i := 1) rfl) rfl dX10_isSo_65 ?_
          refine gg_iload hx hb 4 rfl dX10_isSo_68 ?_
          refine gg_iald hx hb hK 1 0 rfl rfl (by decide) h.1 dX10_isSo_70 ?_
          have h := h.2
          refine gg_istore_n (lv' := [(3, .int (xI (σ 1 (x5_12).toNat))), (4, .int (xI y0_62)), (0, .ref (aa 0)), (1, .int (xI a1)), (2, .int (xI a2)), (5, .int (xI x5_12))]) hx hb rfl (by decide) rfl dX10_isSo_71 ?_
          refine gg_iinc (lv' := [(5, .int (xI (x5_12 + 1))), (3, .int (xI (σ 1 (x5_12).toNat))), (4, .int (xI y0_62)), (0, .ref (aa 0)), (1, .int (xI a1)), (2, .int (xI a2))]) hx hb 5 rfl (by decide) rfl dX10_isSo_72 ?_
          refine gg_goto (tgt := 12) hx hb dX10_isSo_75 rfl ?_
          refine gg_lv [3, 4, 5, 1, 2, 0] rfl ?_
          exact h)
        refine gg_if_eq (tgt := 61) hx hb h.1 dX10_isSo_36 rfl (fun c36 => ?_) (fun c36 => ?_)
        · have h := h.2.1 c36
          refine gg_iconst hx hb dX10_isSo_61 ?_
          refine gg_lv [0, 1, 2, 5] rfl ?_
          exact h
        · have h := h.2.2 c36
          refine gg_iload_n hx hb 3 rfl rfl dX10_isSo_39 ?_
          refine gg_sipush hx hb dX10_isSo_40 rfl ?_
          refine gg_icmp_eq (tgt := 57) hx hb h.1 (by decide) dX10_isSo_43 rfl (fun c43 => ?_) (fun c43 => ?_)
          · have h := h.2.1 c43
            refine gg_iconst hx hb dX10_isSo_57 ?_
            refine gg_goto (tgt := 62) hx hb dX10_isSo_58 rfl ?_
            refine gg_lv [0, 1, 2, 5] rfl ?_
            exact h
          · have h := h.2.2 c43
            refine gg_iload_n hx hb 3 rfl rfl dX10_isSo_46 ?_
            refine gg_aload_n hx hb 0 rfl rfl dX10_isSo_47 ?_
            refine gg_get (C := RX10) (T := TX10) (N := 18) hx hb hts hown hK iX10_isSo_X10 0 rfl rfl 2 (by decide) (List.mem_of_getElem? (i := 1) rfl) rfl dX10_isSo_48 ?_
            refine gg_iload hx hb 5 rfl dX10_isSo_51 ?_
            refine gg_iald hx hb hK 1 0 rfl rfl (by decide) h.1 dX10_isSo_53 ?_
            have h := h.2
            refine gg_icmp_ne (tgt := 61) hx hb h.1 h.2.1 dX10_isSo_54 rfl (fun c54 => ?_) (fun c54 => ?_)
            · have h := h.2.2.1 c54
              refine gg_iconst hx hb dX10_isSo_61 ?_
              refine gg_lv [0, 1, 2, 5] rfl ?_
              exact h
            · have h := h.2.2.2 c54
              refine gg_iconst hx hb dX10_isSo_57 ?_
              refine gg_goto (tgt := 62) hx hb dX10_isSo_58 rfl ?_
              refine gg_lv [0, 1, 2, 5] rfl ?_
              exact h)
  refine gg_lv [3, 4, 5, 2, 1, 0] rfl ?_
  exact h
abbrev rmX10_spans : Room := { frames := 0, cells := 0, slots := 0, locals := 0 }
theorem iX10_spans_X10 : ∀ w ∈ u_ws RX10 TX10 18, w ∈ wsX10_spans := (fun _ h => List.mem_cons_of_mem _ (List.mem_append_right _ h))
theorem hd_X10_spans : (yX10_spans.cls = RX10 ∧ yX10_spans.cls ≠ "java/lang/invoke/MethodHandle" ∧ yX10_spans.cls ≠ "java/lang/invoke/VarHandle" ∧ (parseMethodDescriptor yX10_spans.desc).map (fun d => d.parameters.length) = some 2) := by decide +kernel
set_option maxRecDepth 100000 in
set_option maxHeartbeats 4000000 in
theorem c_X10_spans (l : Launch) (D : va_G) (aa : Nat → Nat) (cI cZ cJ : ClassId) (tR tU : Nat) (a1 : Int) (a2 : Int) (σ : xSt) (Post : Int → xSt → Prop) (h : wp_X10_spans a1 a2 σ Post) : MI l D (tyL cI cZ cJ) (cM aa cI cZ cJ) tR tU yX10_spans wsX10_spans rmX10_spans [.ref (aa 0), .int (xI a1), .int (xI a2)] σ Post := by
  refine mi_of (cc := cX10_spans) (maxL := 7) (ret := (some .boolean)) (by decide) rfl (Nat.le_of_ble_eq_true rfl) ?_
  intro p e s m args below meth c A hF
  obtain ⟨hx, hb, hr, hml, hown, hts, hlk, hK, hZ, hA⟩ := hF
  have hown : s.vm.findClass RX10 = some m.cls := hown
  delta wp_X10_spans at h
  refine gg_lv (lv' := [(0, .ref (aa 0)), (1, .int (xI a1)), (2, .int (xI a2))]) [0, 1, 2] rfl ?_
  refine gg_aload_n hx hb 0 rfl rfl dX10_spans_0 ?_
  refine gg_get (C := RX10) (T := TX10) (N := 18) hx hb hts hown hK iX10_spans_X10 0 rfl rfl 3 (by decide) (List.mem_of_getElem? (i := 1) rfl) rfl dX10_spans_1 ?_
  refine gg_iconst hx hb dX10_spans_4 ?_
  refine gg_ldc2 hx hb (-1) hown (hts _ (List.mem_of_getElem? (i := 2) rfl)) rfl dX10_spans_5 ?_
  refine gg_last hx hb hK 2 2 rfl rfl (cM_st_2 aa cI cZ cJ _ _) (by decide) (by decide) dX10_spans_8 (fun σ_8 e8 => ?_)
  have h := h σ_8 e8
  refine gg_aload_n hx hb 0 rfl rfl dX10_spans_9 ?_
  refine gg_get (C := RX10) (T := TX10) (N := 18) hx hb hts hown hK iX10_spans_X10 0 rfl rfl 3 (by decide) (List.mem_of_getElem? (i := 1) rfl) rfl dX10_spans_10 ?_
  refine gg_iconst hx hb dX10_spans_13 ?_
  refine gg_lconst (z := 1) hx hb dX10_spans_14 rfl ?_
  refine gg_last hx hb hK 2 2 rfl rfl (cM_st_2 aa cI cZ cJ _ _) (by decide) (by decide) dX10_spans_15 (fun σ_15 e15 => ?_)
  have h := h σ_15 e15
  refine gg_aload_n hx hb 0 rfl rfl dX10_spans_16 ?_
  refine gg_get (C := RX10) (T := TX10) (N := 18) hx hb hts hown hK iX10_spans_X10 0 rfl rfl 4 (by decide) (List.mem_of_getElem? (i := 3) rfl) rfl dX10_spans_17 ?_
  refine gg_iconst hx hb dX10_spans_20 ?_
  refine gg_ldc2 hx hb (2) hown (hts _ (List.mem_of_getElem? (i := 4) rfl)) rfl dX10_spans_21 ?_
  refine gg_last hx hb hK 3 2 rfl rfl (cM_st_3 aa cI cZ cJ _ _) (by decide) (by decide) dX10_spans_24 (fun σ_24 e24 => ?_)
  have h := h σ_24 e24
  refine gg_aload_n hx hb 0 rfl rfl dX10_spans_25 ?_
  refine gg_get (C := RX10) (T := TX10) (N := 18) hx hb hts hown hK iX10_spans_X10 0 rfl rfl 4 (by decide) (List.mem_of_getElem? (i := 3) rfl) rfl dX10_spans_26 ?_
  refine gg_iconst hx hb dX10_spans_29 ?_
  refine gg_lconst (z := 1) hx hb dX10_spans_30 rfl ?_
  refine gg_last hx hb hK 3 2 rfl rfl (cM_st_3 aa cI cZ cJ _ _) (by decide) (by decide) dX10_spans_31 (fun σ_31 e31 => ?_)
  have h := h σ_31 e31
  refine gg_iconst hx hb dX10_spans_32 ?_
  refine gg_istore_n (lv' := [(3, .int (xI 1)), (0, .ref (aa 0)), (1, .int (xI a1)), (2, .int (xI a2))]) hx hb rfl (by decide) rfl dX10_spans_33 ?_
  refine gg_iload_n hx hb 2 rfl rfl dX10_spans_34 ?_
  refine gg_istore (lv' := [(4, .int (xI a1)), (3, .int (xI 1)), (0, .ref (aa 0)), (1, .int (xI a1)), (2, .int (xI a2))]) hx hb (by decide) rfl dX10_spans_35 ?_
  have h := h (fun (x3_37 x4_37 : Int) (s37 : xSt) => GG p l e rmX10_spans s m args below meth c (QI below D (cM aa cI cZ cJ) A args s Post) A D (cM aa cI cZ cJ) 7 s37 37 [(0, .ref (aa 0)), (2, .int (xI a2)), (3, .int (xI x3_37)), (4, .int (xI x4_37))] [])
  have h := h (by
    intro x3_37 x4_37 s37 h
    refine gg_iload hx hb 3 rfl dX10_spans_37 ?_
    refine gg_iload_n hx hb 1 rfl rfl dX10_spans_39 ?_
    refine gg_icmp_ge (tgt := 200) hx hb h.1 h.2.1 dX10_spans_40 rfl (fun c40 => ?_) (fun c40 => ?_)
    · have h := h.2.2.1 c40
      refine gg_aload_n hx hb 0 rfl rfl dX10_spans_200 ?_
      refine gg_get (C := RX10) (T := TX10) (N := 18) hx hb hts hown hK iX10_spans_X10 0 rfl rfl 3 (by decide) (List.mem_of_getElem? (i := 1) rfl) rfl dX10_spans_201 ?_
      refine gg_iconst hx hb dX10_spans_204 ?_
      refine gg_lald hx hb hK 2 2 rfl rfl (by decide) (by decide) dX10_spans_205 ?_
      refine gg_aload_n hx hb 0 rfl rfl dX10_spans_206 ?_
      refine gg_get (C := RX10) (T := TX10) (N := 18) hx hb hts hown hK iX10_spans_X10 0 rfl rfl 4 (by decide) (List.mem_of_getElem? (i := 3) rfl) rfl dX10_spans_207 ?_
      refine gg_iconst hx hb dX10_spans_210 ?_
      refine gg_lald hx hb hK 3 2 rfl rfl (by decide) (by decide) dX10_spans_211 ?_
      refine gg_lmul hx hb dX10_spans_212 ?_
      refine gg_aload_n hx hb 0 rfl rfl dX10_spans_213 ?_
      refine gg_get (C := RX10) (T := TX10) (N := 18) hx hb hts hown hK iX10_spans_X10 0 rfl rfl 4 (by decide) (List.mem_of_getElem? (i := 3) rfl) rfl dX10_spans_214 ?_
      refine gg_iconst hx hb dX10_spans_217 ?_
      refine gg_lald hx hb hK 3 2 rfl rfl (by decide) (by decide) dX10_spans_218 ?_
      refine gg_aload_n hx hb 0 rfl rfl dX10_spans_219 ?_
      refine gg_get (C := RX10) (T := TX10) (N := 18) hx hb hts hown hK iX10_spans_X10 0 rfl rfl 3 (by decide) (List.mem_of_getElem? (i := 1) rfl) rfl dX10_spans_220 ?_
      refine gg_iconst hx hb dX10_spans_223 ?_
      refine gg_lald hx hb hK 2 2 rfl rfl (by decide) (by decide) dX10_spans_224 ?_
      refine gg_lmul hx hb dX10_spans_225 ?_
      refine gg_lcmp_ge (tgt := 234) hx hb h.1 h.2.1 dX10_spans_226 dX10_spans_227 rfl (fun c227 => ?_) (fun c227 => ?_)
      · have h := h.2.2.1 c227
        refine gg_iconst hx hb dX10_spans_234 ?_
        exact gg_zret hx hb hr hlk (Or.inl rfl) h dX10_spans_235
      · have h := h.2.2.2 c227
        refine gg_iconst hx hb dX10_spans_230 ?_
        refine gg_goto (tgt := 235) hx hb dX10_spans_231 rfl ?_
        exact gg_zret hx hb hr hlk (Or.inr rfl) h dX10_spans_235
    · have h := h.2.2.2 c40
      refine gg_iconst hx hb dX10_spans_43 ?_
      refine gg_istore (lv' := [(5, .int (xI 0)), (0, .ref (aa 0)), (2, .int (xI a2)), (3, .int (xI x3_37)), (4, .int (xI x4_37))]) hx hb (by decide) rfl dX10_spans_44 ?_
      refine gg_iload hx hb 4 rfl dX10_spans_46 ?_
      refine gg_iconst hx hb dX10_spans_48 ?_
      refine gg_iadd hx hb dX10_spans_49 ?_
      refine gg_istore (lv' := [(6, .int (xI (x4_37 + 1))), (5, .int (xI 0)), (0, .ref (aa 0)), (2, .int (xI a2)), (3, .int (xI x3_37)), (4, .int (xI x4_37))]) hx hb (by decide) rfl dX10_spans_50 ?_
      have h := h (fun (x3_52 x5_52 x6_52 : Int) (s52 : xSt) => GG p l e rmX10_spans s m args below meth c (QI below D (cM aa cI cZ cJ) A args s Post) A D (cM aa cI cZ cJ) 7 s52 52 [(0, .ref (aa 0)), (2, .int (xI a2)), (3, .int (xI x3_52)), (4, .int (xI x4_37)), (5, .int (xI x5_52)), (6, .int (xI x6_52))] [])
      have h := h (by
        intro x3_52 x5_52 x6_52 s52 h
        refine gg_iload hx hb 5 rfl dX10_spans_52 ?_
        refine gg_iload_n hx hb 1 rfl rfl dX10_spans_54 ?_
        refine gg_icmp_gt (tgt := 194) hx hb h.1 h.2.1 dX10_spans_55 rfl (fun c55 => ?_) (fun c55 => ?_)
        · have h := h.2.2.1 c55
          refine gg_iinc (lv' := [(4, .int (xI (x4_37 + 1))), (0, .ref (aa 0)), (2, .int (xI a2)), (3, .int (xI x3_52)), (5, .int (xI x5_52)), (6, .int (xI x6_52))]) hx hb 3 rfl (by decide) rfl dX10_spans_194 ?_
          refine gg_goto (tgt := 37) hx hb dX10_spans_197 rfl ?_
          refine gg_lv [1, 2, 3, 0] rfl ?_
          exact h
        · have h := h.2.2.2 c55
          refine gg_iload hx hb 4 rfl dX10_spans_58 ?_
          refine gg_aload_n hx hb 0 rfl rfl dX10_spans_60 ?_
          refine gg_get (C := RX10) (T := TX10) (N := 18) hx hb hts hown hK iX10_spans_X10 0 rfl rfl 2 (by decide) (List.mem_of_getElem? (i := 5) rfl) rfl dX10_spans_61 ?_
          refine gg_iload hx hb 5 rfl dX10_spans_64 ?_
          refine gg_iconst hx hb dX10_spans_66 ?_
          refine gg_isub hx hb dX10_spans_67 ?_
          refine gg_iald hx hb hK 1 0 rfl rfl (by decide) h.1 dX10_spans_68 ?_
          have h := h.2
          refine gg_iconst hx hb dX10_spans_69 ?_
          refine gg_irem hx hb h.1 h.2.1 h.2.2.1 dX10_spans_70 ?_
          have h := h.2.2.2
          refine gg_iadd hx hb dX10_spans_71 ?_
          refine gg_nm (fun z5_72 e72 => ?_)
          have h := h z5_72 e72
          refine gg_istore (lv' := [(5, .int (xI z5_72)), (0, .ref (aa 0)), (2, .int (xI a2)), (3, .int (xI x3_52)), (4, .int (xI x4_37)), (6, .int (xI x6_52))]) hx hb (by decide) rfl dX10_spans_72 ?_
          refine gg_iload_n hx hb 3 rfl rfl dX10_spans_74 ?_
          have h := h (fun (s130 : xSt) => GG p l e rmX10_spans s m args below meth c (QI below D (cM aa cI cZ cJ) A args s Post) A D (cM aa cI cZ cJ) 7 s130 130 [(0, .ref (aa 0)), (2, .int (xI a2)), (3, .int (xI x3_52)), (4, .int (xI x4_37)), (5, .int (xI z5_72)), (6, .int (xI x6_52))] [])
          have h := h (by
            intro s130 h
            refine gg_iload_n hx hb 2 rfl rfl dX10_spans_130 ?_
            have h := h (GG p l e rmX10_spans s m args below meth c (QI below D (cM aa cI cZ cJ) A args s Post) A D (cM aa cI cZ cJ) 7 s130 163 [(0, .ref (aa 0)), (2, .int (xI a2)), (4, .int (xI x4_37)), (5, .int (xI z5_72)), (6, .int (xI x6_52))] [])
            have h := h (by
              intro h
              refine gg_aload_n hx hb 0 rfl rfl dX10_spans_163 ?_
              refine gg_get (C := RX10) (T := TX10) (N := 18) hx hb hts hown hK iX10_spans_X10 0 rfl rfl 4 (by decide) (List.mem_of_getElem? (i := 3) rfl) rfl dX10_spans_164 ?_
              refine gg_iconst hx hb dX10_spans_167 ?_
              refine gg_iload hx hb 3 rfl dX10_spans_168 ?_
              refine gg_iconst hx hb dX10_spans_170 ?_
              refine gg_iadd hx hb dX10_spans_171 ?_
              refine gg_i2l hx hb h.1 dX10_spans_172 ?_
              have h := h.2
              refine gg_last hx hb hK 3 2 rfl rfl (cM_st_3 aa cI cZ cJ _ _) (by decide) (by decide) dX10_spans_173 (fun σ_173 e173 => ?_)
              have h := h σ_173 e173
              refine gg_aload_n hx hb 0 rfl rfl dX10_spans_174 ?_
              refine gg_get (C := RX10) (T := TX10) (N := 18) hx hb hts hown hK iX10_spans_X10 0 rfl rfl 4 (by decide) (List.mem_of_getElem? (i := 3) rfl) rfl dX10_spans_175 ?_
              refine gg_iconst hx hb dX10_spans_178 ?_
              refine gg_iload hx hb 4 rfl dX10_spans_179 ?_
              refine gg_iload hx hb 2 rfl dX10_spans_181 ?_
              refine gg_isub hx hb dX10_spans_183 ?_
              refine gg_i2l hx hb h.1 dX10_spans_184 ?_
              have h := h.2
              refine gg_last hx hb hK 3 2 rfl rfl (cM_st_3 aa cI cZ cJ _ _) (by decide) (by decide) dX10_spans_185 (fun σ_185 e185 => ?_)
              have h := h σ_185 e185
              refine gg_iconst hx hb dX10_spans_186 ?_
              refine gg_istore_n (lv' := [(3, .int (xI 0)), (0, .ref (aa 0)), (2, .int (xI a2)), (4, .int (xI x4_37)), (5, .int (xI z5_72)), (6, .int (xI x6_52))]) hx hb rfl (by decide) rfl dX10_spans_187 ?_
              refine gg_iinc (lv' := [(6, .int (xI (x6_52 + 1))), (3, .int (xI 0)), (0, .ref (aa 0)), (2, .int (xI a2)), (4, .int (xI x4_37)), (5, .int (xI z5_72))]) hx hb 5 rfl (by decide) rfl dX10_spans_188 ?_
              refine gg_goto (tgt := 52) hx hb dX10_spans_191 rfl ?_
              refine gg_lv [2, 3, 1, 4, 5, 0] rfl ?_
              exact h)
            refine gg_if_ne (tgt := 163) hx hb h.1 dX10_spans_131 rfl (fun c131 => ?_) (fun c131 => ?_)
            · have h := h.2.1 c131
              refine gg_lv [0, 1, 3, 4, 5] rfl ?_
              exact h
            · have h := h.2.2 c131
              refine gg_iload hx hb 4 rfl dX10_spans_134 ?_
              refine gg_iconst hx hb dX10_spans_136 ?_
              refine gg_iadd hx hb dX10_spans_137 ?_
              refine gg_i2l hx hb h.1 dX10_spans_138 ?_
              have h := h.2
              refine gg_aload_n hx hb 0 rfl rfl dX10_spans_139 ?_
              refine gg_get (C := RX10) (T := TX10) (N := 18) hx hb hts hown hK iX10_spans_X10 0 rfl rfl 4 (by decide) (List.mem_of_getElem? (i := 3) rfl) rfl dX10_spans_140 ?_
              refine gg_iconst hx hb dX10_spans_143 ?_
              refine gg_lald hx hb hK 3 2 rfl rfl (by decide) (by decide) dX10_spans_144 ?_
              refine gg_lmul hx hb dX10_spans_145 ?_
              refine gg_aload_n hx hb 0 rfl rfl dX10_spans_146 ?_
              refine gg_get (C := RX10) (T := TX10) (N := 18) hx hb hts hown hK iX10_spans_X10 0 rfl rfl 4 (by decide) (List.mem_of_getElem? (i := 3) rfl) rfl dX10_spans_147 ?_
              refine gg_iconst hx hb dX10_spans_150 ?_
              refine gg_lald hx hb hK 3 2 rfl rfl (by decide) (by decide) dX10_spans_151 ?_
              refine gg_iload hx hb 5 rfl dX10_spans_152 ?_
              refine gg_iload hx hb 3 rfl dX10_spans_154 ?_
              refine gg_isub hx hb dX10_spans_156 ?_
              refine gg_i2l hx hb h.1 dX10_spans_157 ?_
              have h := h.2
              refine gg_lmul hx hb dX10_spans_158 ?_
              refine gg_lcmp_ge (tgt := 186) hx hb h.1 h.2.1 dX10_spans_159 dX10_spans_160 rfl (fun c160 => ?_) (fun c160 => ?_)
              · have h := h.2.2.1 c160
                refine gg_iconst hx hb dX10_spans_186 ?_
                refine gg_istore_n (lv' := [(3, .int (xI 0)), (0, .ref (aa 0)), (2, .int (xI a2)), (4, .int (xI x4_37)), (5, .int (xI z5_72)), (6, .int (xI x6_52))]) hx hb rfl (by decide) rfl dX10_spans_187 ?_
                refine gg_iinc (lv' := [(6, .int (xI (x6_52 + 1))), (3, .int (xI 0)), (0, .ref (aa 0)), (2, .int (xI a2)), (4, .int (xI x4_37)), (5, .int (xI z5_72))]) hx hb 5 rfl (by decide) rfl dX10_spans_188 ?_
                refine gg_goto (tgt := 52) hx hb dX10_spans_191 rfl ?_
                refine gg_lv [2, 3, 1, 4, 5, 0] rfl ?_
                exact h
              · have h := h.2.2.2 c160
                refine gg_lv [0, 1, 3, 4, 5] rfl ?_
                exact h)
          have h := h (GG p l e rmX10_spans s m args below meth c (QI below D (cM aa cI cZ cJ) A args s Post) A D (cM aa cI cZ cJ) 7 s52 107 [(0, .ref (aa 0)), (2, .int (xI a2)), (3, .int (xI x3_52)), (4, .int (xI x4_37)), (5, .int (xI z5_72)), (6, .int (xI x6_52))] [])
          have h := h (by
            intro h
            refine gg_aload_n hx hb 0 rfl rfl dX10_spans_107 ?_
            refine gg_get (C := RX10) (T := TX10) (N := 18) hx hb hts hown hK iX10_spans_X10 0 rfl rfl 3 (by decide) (List.mem_of_getElem? (i := 1) rfl) rfl dX10_spans_108 ?_
            refine gg_iconst hx hb dX10_spans_111 ?_
            refine gg_iload hx hb 4 rfl dX10_spans_112 ?_
            refine gg_iconst hx hb dX10_spans_114 ?_
            refine gg_isub hx hb dX10_spans_115 ?_
            refine gg_i2l hx hb h.1 dX10_spans_116 ?_
            have h := h.2
            refine gg_last hx hb hK 2 2 rfl rfl (cM_st_2 aa cI cZ cJ _ _) (by decide) (by decide) dX10_spans_117 (fun σ_117 e117 => ?_)
            have h := h σ_117 e117
            refine gg_aload_n hx hb 0 rfl rfl dX10_spans_118 ?_
            refine gg_get (C := RX10) (T := TX10) (N := 18) hx hb hts hown hK iX10_spans_X10 0 rfl rfl 3 (by decide) (List.mem_of_getElem? (i := 1) rfl) rfl dX10_spans_119 ?_
            refine gg_iconst hx hb dX10_spans_122 ?_
            refine gg_iload hx hb 5 rfl dX10_spans_123 ?_
            refine gg_iload hx hb 3 rfl dX10_spans_125 ?_
            refine gg_isub hx hb dX10_spans_127 ?_
            refine gg_i2l hx hb h.1 dX10_spans_128 ?_
            have h := h.2
            refine gg_last hx hb hK 2 2 rfl rfl (cM_st_2 aa cI cZ cJ _ _) (by decide) (by decide) dX10_spans_129 (fun σ_129 e129 => ?_)
            have h := h σ_129 e129
            exact h)
          refine gg_if_ne (tgt := 107) hx hb h.1 dX10_spans_75 rfl (fun c75 => ?_) (fun c75 => ?_)
          · have h := h.2.1 c75
            refine gg_lv [1, 2, 3, 4, 0, 5] rfl ?_
            exact h
          · have h := h.2.2 c75
            refine gg_iload hx hb 0 rfl dX10_spans_78 ?_
            refine gg_iconst hx hb dX10_spans_80 ?_
            refine gg_isub hx hb dX10_spans_81 ?_
            refine gg_i2l hx hb h.1 dX10_spans_82 ?_
            have h := h.2
            refine gg_aload_n hx hb 1 rfl rfl dX10_spans_83 ?_
            refine gg_get (C := RX10) (T := TX10) (N := 18) hx hb hts hown hK iX10_spans_X10 0 rfl rfl 3 (by decide) (List.mem_of_getElem? (i := 1) rfl) rfl dX10_spans_84 ?_
            refine gg_iconst hx hb dX10_spans_87 ?_
            refine gg_lald hx hb hK 2 2 rfl rfl (by decide) (by decide) dX10_spans_88 ?_
            refine gg_lmul hx hb dX10_spans_89 ?_
            refine gg_aload_n hx hb 1 rfl rfl dX10_spans_90 ?_
            refine gg_get (C := RX10) (T := TX10) (N := 18) hx hb hts hown hK iX10_spans_X10 0 rfl rfl 3 (by decide) (List.mem_of_getElem? (i := 1) rfl) rfl dX10_spans_91 ?_
            refine gg_iconst hx hb dX10_spans_94 ?_
            refine gg_lald hx hb hK 2 2 rfl rfl (by decide) (by decide) dX10_spans_95 ?_
            refine gg_iload hx hb 5 rfl dX10_spans_96 ?_
            refine gg_iload hx hb 4 rfl dX10_spans_98 ?_
            refine gg_isub hx hb dX10_spans_100 ?_
            refine gg_i2l hx hb h.1 dX10_spans_101 ?_
            have h := h.2
            refine gg_lmul hx hb dX10_spans_102 ?_
            refine gg_lcmp_le (tgt := 130) hx hb h.1 h.2.1 dX10_spans_103 dX10_spans_104 rfl (fun c104 => ?_) (fun c104 => ?_)
            · have h := h.2.2.1 c104
              refine gg_lv [1, 2, 3, 4, 0, 5] rfl ?_
              exact h
            · have h := h.2.2.2 c104
              refine gg_lv [1, 2, 3, 4, 0, 5] rfl ?_
              exact h)
      refine gg_lv [2, 3, 4, 5, 1, 0] rfl ?_
      exact h)
  refine gg_lv [2, 4, 1, 0] rfl ?_
  exact h
