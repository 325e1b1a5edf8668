abbrev rmX2_hasStairs : Room := { frames := 5, cells := 0, slots := 0, locals := 111 }
theorem iX2_hasStairs_X2 : ∀ w ∈ u_ws RX2 TX2 3, w ∈ wsX2_hasStairs := (fun _ h => List.mem_cons_of_mem _ (List.mem_append_right _ h))
theorem hd_X2_hasStairs : (yX2_hasStairs.cls = RX2 ∧ yX2_hasStairs.cls ≠ "java/lang/invoke/MethodHandle" ∧ yX2_hasStairs.cls ≠ "java/lang/invoke/VarHandle" ∧ (parseMethodDescriptor yX2_hasStairs.desc).map (fun d => d.parameters.length) = some 0) := by decide +kernel
set_option maxRecDepth 100000 in
set_option maxHeartbeats 4000000 in
theorem c_X2_hasStairs (l : Launch) (D : va_G) (aa : Nat → Nat) (cI cZ cJ : ClassId) (tR tU : Nat) (σ : xSt) (Post : Int → Prop) (h : wp_X2_hasStairs σ Post) : MI l D (tyL cI cZ cJ) (cX aa cI cZ cJ) tR tU yX2_hasStairs wsX2_hasStairs rmX2_hasStairs [.ref (aa 7)] σ (fun r9 σ9 => σ9 = σ ∧ Post r9) := by
  refine mi_of (cc := cX2_hasStairs) (maxL := 2) (ret := (some .boolean)) (by decide) rfl (Nat.le_of_ble_eq_true rfl) ?_
  intro p e s m args below meth c A hF
  obtain ⟨hx, hb, hr, hml, hown, hts, hlk, hK, hZ, hA⟩ := hF
  have hown : s.vm.findClass RX2 = some m.cls := hown
  delta wp_X2_hasStairs at h
  refine gg_lv (lv' := [(0, .ref (aa 7))]) [0] rfl ?_
  refine gg_iconst hx hb dX2_hasStairs_0 ?_
  refine gg_istore_n (lv' := [(1, .int (xI 0)), (0, .ref (aa 7))]) hx hb rfl (by decide) rfl dX2_hasStairs_1 ?_
  have h := h (fun (x1_2 : Int) => GG p l e rmX2_hasStairs s m args below meth c (QI below D (cX aa cI cZ cJ) A args s (fun r9 σ9 => σ9 = σ ∧ Post r9)) A D (cX aa cI cZ cJ) 2 σ 2 [(0, .ref (aa 7)), (1, .int (xI x1_2))] [])
  have h := h (by
    intro x1_2 h
    refine gg_iload_n hx hb 1 rfl rfl dX2_hasStairs_2 ?_
    refine gg_aload_n hx hb 0 rfl rfl dX2_hasStairs_3 ?_
    refine gg_get (C := RX2) (T := TX2) (N := 3) hx hb hts hown hK iX2_hasStairs_X2 7 rfl rfl 1 (by decide) (List.mem_of_getElem? (i := 1) rfl) rfl dX2_hasStairs_4 ?_
    refine gg_icmp_ge (tgt := 29) hx hb h.1 h.2.1 dX2_hasStairs_7 rfl (fun c7 => ?_) (fun c7 => ?_)
    · have h := h.2.2.1 c7
      refine gg_iconst hx hb dX2_hasStairs_29 ?_
      refine gg_istore_n (lv' := [(1, .int (xI 0)), (0, .ref (aa 7))]) hx hb rfl (by decide) rfl dX2_hasStairs_30 ?_
      have h := h (fun (x1_31 : Int) => GG p l e rmX2_hasStairs s m args below meth c (QI below D (cX aa cI cZ cJ) A args s (fun r9 σ9 => σ9 = σ ∧ Post r9)) A D (cX aa cI cZ cJ) 2 σ 31 [(0, .ref (aa 7)), (1, .int (xI x1_31))] [])
      have h := h (by
        intro x1_31 h
        refine gg_iload_n hx hb 1 rfl rfl dX2_hasStairs_31 ?_
        refine gg_aload_n hx hb 0 rfl rfl dX2_hasStairs_32 ?_
        refine gg_get (C := RX2) (T := TX2) (N := 3) hx hb hts hown hK iX2_hasStairs_X2 7 rfl rfl 2 (by decide) (List.mem_of_getElem? (i := 2) rfl) rfl dX2_hasStairs_33 ?_
        refine gg_icmp_ge (tgt := 58) hx hb h.1 h.2.1 dX2_hasStairs_36 rfl (fun c36 => ?_) (fun c36 => ?_)
        · have h := h.2.2.1 c36
          refine gg_iconst hx hb dX2_hasStairs_58 ?_
          exact gg_zret hx hb hr hlk (Or.inr rfl) ⟨rfl, h⟩ dX2_hasStairs_59
        · have h := h.2.2.2 c36
          refine gg_aload_n hx hb 0 rfl rfl dX2_hasStairs_39 ?_
          refine gg_iconst hx hb dX2_hasStairs_40 ?_
          refine gg_iload_n hx hb 1 rfl rfl dX2_hasStairs_41 ?_
          refine gg_iconst hx hb dX2_hasStairs_42 ?_
          refine gg_callVip (As := [.int (xI 0), .int (xI x1_31), .int (xI 0)]) (rest := []) hx hb hml hown hts hK hZ hA (c_X2_runsFrom l D aa cI cZ cJ tR tU 0 x1_31 0 σ _ h) (cwV 3 hts gX2_hasStairs_X2_runsFrom rfl rfl rfl hd_X2_runsFrom ⟨Nat.le_of_ble_eq_true rfl, Nat.le_of_ble_eq_true rfl⟩) 7 rfl rfl rfl rfl (Nat.le_of_ble_eq_true rfl) dX2_hasStairs_43 (fun r43 h => ?_)
          refine gg_iconst hx hb dX2_hasStairs_46 ?_
          refine gg_icmp_le (tgt := 52) hx hb h.1 (by decide) dX2_hasStairs_47 rfl (fun c47 => ?_) (fun c47 => ?_)
          · have h := h.2.1 c47
            refine gg_iinc (lv' := [(1, .int (xI (x1_31 + 1))), (0, .ref (aa 7))]) hx hb 1 rfl (by decide) rfl dX2_hasStairs_52 ?_
            refine gg_goto (tgt := 31) hx hb dX2_hasStairs_55 rfl ?_
            refine gg_lv [1, 0] rfl ?_
            exact h
          · have h := h.2.2 c47
            refine gg_iconst hx hb dX2_hasStairs_50 ?_
            exact gg_zret hx hb hr hlk (Or.inl rfl) ⟨rfl, h⟩ dX2_hasStairs_51)
      refine gg_lv [1, 0] rfl ?_
      exact h
    · have h := h.2.2.2 c7
      refine gg_aload_n hx hb 0 rfl rfl dX2_hasStairs_10 ?_
      refine gg_iload_n hx hb 1 rfl rfl dX2_hasStairs_11 ?_
      refine gg_iconst hx hb dX2_hasStairs_12 ?_
      refine gg_iconst hx hb dX2_hasStairs_13 ?_
      refine gg_callVip (As := [.int (xI x1_2), .int (xI 0), .int (xI 2)]) (rest := []) hx hb hml hown hts hK hZ hA (c_X2_runsFrom l D aa cI cZ cJ tR tU x1_2 0 2 σ _ h) (cwV 3 hts gX2_hasStairs_X2_runsFrom rfl rfl rfl hd_X2_runsFrom ⟨Nat.le_of_ble_eq_true rfl, Nat.le_of_ble_eq_true rfl⟩) 7 rfl rfl rfl rfl (Nat.le_of_ble_eq_true rfl) dX2_hasStairs_14 (fun r14 h => ?_)
      refine gg_iconst hx hb dX2_hasStairs_17 ?_
      refine gg_icmp_le (tgt := 23) hx hb h.1 (by decide) dX2_hasStairs_18 rfl (fun c18 => ?_) (fun c18 => ?_)
      · have h := h.2.1 c18
        refine gg_iinc (lv' := [(1, .int (xI (x1_2 + 1))), (0, .ref (aa 7))]) hx hb 1 rfl (by decide) rfl dX2_hasStairs_23 ?_
        refine gg_goto (tgt := 2) hx hb dX2_hasStairs_26 rfl ?_
        refine gg_lv [1, 0] rfl ?_
        exact h
      · have h := h.2.2 c18
        refine gg_iconst hx hb dX2_hasStairs_21 ?_
        exact gg_zret hx hb hr hlk (Or.inl rfl) ⟨rfl, h⟩ dX2_hasStairs_22)
  refine gg_lv [1, 0] rfl ?_
  exact h
abbrev rmX1_squareAbout : Room := { frames := 3, cells := 0, slots := 0, locals := 62 }
theorem hd_X1_squareAbout : (yX1_squareAbout.cls ≠ "java/lang/invoke/MethodHandle" ∧ yX1_squareAbout.cls ≠ "java/lang/invoke/VarHandle" ∧ (parseMethodDescriptor yX1_squareAbout.desc).map (fun d => d.parameters.length) = some 3) := by decide +kernel
set_option maxRecDepth 100000 in
set_option maxHeartbeats 4000000 in
theorem c_X1_squareAbout (l : Launch) (D : va_G) (aa : Nat → Nat) (cI cZ cJ : ClassId) (tR tU : Nat) (a1 : Int) (a2 : Int) (σ : xSt) (Post : Int → Prop) (h : wp_X1_squareAbout a1 a2 σ Post) : MI l D (tyL cI cZ cJ) (cX aa cI cZ cJ) tR tU yX1_squareAbout wsX1_squareAbout rmX1_squareAbout [.ref (aa 7), .int (xI a1), .int (xI a2)] σ (fun r9 σ9 => σ9 = σ ∧ Post r9) := by
  refine mi_of (cc := cX1_squareAbout) (maxL := 9) (ret := (some .int)) (by decide) rfl (Nat.le_of_ble_eq_true rfl) ?_
  intro p e s m args below meth c A hF
  obtain ⟨hx, hb, hr, hml, hown, hts, hlk, hK, hZ, hA⟩ := hF
  have hown : s.vm.findClass RX1 = some m.cls := hown
  delta wp_X1_squareAbout at h
  refine gg_lv (lv' := [(0, .ref (aa 7)), (1, .int (xI a1)), (2, .int (xI a2))]) [0, 1, 2] rfl ?_
  refine gg_iconst hx hb dX1_squareAbout_0 ?_
  refine gg_istore_n (lv' := [(3, .int (xI 0)), (0, .ref (aa 7)), (1, .int (xI a1)), (2, .int (xI a2))]) hx hb rfl (by decide) rfl dX1_squareAbout_1 ?_
  refine gg_sipush hx hb dX1_squareAbout_2 rfl ?_
  refine gg_istore (lv' := [(4, .int (xI 1152)), (3, .int (xI 0)), (0, .ref (aa 7)), (1, .int (xI a1)), (2, .int (xI a2))]) hx hb (by decide) rfl dX1_squareAbout_5 ?_
  refine gg_iconst hx hb dX1_squareAbout_7 ?_
  refine gg_istore (lv' := [(5, .int (xI 0)), (4, .int (xI 1152)), (3, .int (xI 0)), (0, .ref (aa 7)), (1, .int (xI a1)), (2, .int (xI a2))]) hx hb (by decide) rfl dX1_squareAbout_8 ?_
  have h := h (fun (x3_10 x4_10 x5_10 : Int) => GG p l e rmX1_squareAbout s m args below meth c (QI below D (cX aa cI cZ cJ) A args s (fun r9 σ9 => σ9 = σ ∧ Post r9)) A D (cX aa cI cZ cJ) 9 σ 10 [(0, .ref (aa 7)), (1, .int (xI a1)), (2, .int (xI a2)), (3, .int (xI x3_10)), (4, .int (xI x4_10)), (5, .int (xI x5_10))] [])
  have h := h (by
    intro x3_10 x4_10 x5_10 h
    refine gg_iload hx hb 5 rfl dX1_squareAbout_10 ?_
    refine gg_aload_n hx hb 0 rfl rfl dX1_squareAbout_12 ?_
    refine gg_callVip (As := []) (rest := [.int (xI x5_10)]) hx hb hml hown hts hK hZ hA (c_X2_fields l D aa cI cZ cJ tR tU σ _ h) (cwV 0 hts gX1_squareAbout_X2_fields rfl rfl rfl hd_X2_fields ⟨Nat.le_of_ble_eq_true rfl, Nat.le_of_ble_eq_true rfl⟩) 7 rfl rfl rfl rfl (Nat.le_of_ble_eq_true rfl) dX1_squareAbout_13 (fun r13 h => ?_)
    refine gg_icmp_ge (tgt := 100) hx hb h.1 h.2.1 dX1_squareAbout_16 rfl (fun c16 => ?_) (fun c16 => ?_)
    · have h := h.2.2.1 c16
      refine gg_iload_n hx hb 3 rfl rfl dX1_squareAbout_100 ?_
      exact gg_iret hx hb hr hlk ⟨rfl, h⟩ dX1_squareAbout_101
    · have h := h.2.2.2 c16
      refine gg_iconst hx hb dX1_squareAbout_19 ?_
      refine gg_aload_n hx hb 0 rfl rfl dX1_squareAbout_20 ?_
      refine gg_iload hx hb 5 rfl dX1_squareAbout_21 ?_
      refine gg_callVip (As := [.int (xI x5_10)]) (rest := [.int (xI 2)]) hx hb hml hown hts hK hZ hA (c_X2_columnOf l D aa cI cZ cJ tR tU x5_10 σ _ h) (cwV 1 hts gX1_squareAbout_X2_columnOf rfl rfl rfl hd_X2_columnOf ⟨Nat.le_of_ble_eq_true rfl, Nat.le_of_ble_eq_true rfl⟩) 7 rfl rfl rfl rfl (Nat.le_of_ble_eq_true rfl) dX1_squareAbout_23 (fun r23 h => ?_)
      refine gg_imul hx hb dX1_squareAbout_26 ?_
      refine gg_iload_n hx hb 1 rfl rfl dX1_squareAbout_27 ?_
      refine gg_isub hx hb dX1_squareAbout_28 ?_
      refine gg_istore (lv' := [(6, .int (xI ((2 * r23) - a1))), (0, .ref (aa 7)), (1, .int (xI a1)), (2, .int (xI a2)), (3, .int (xI x3_10)), (4, .int (xI x4_10)), (5, .int (xI x5_10))]) hx hb (by decide) rfl dX1_squareAbout_29 ?_
      refine gg_iconst hx hb dX1_squareAbout_31 ?_
      refine gg_aload_n hx hb 1 rfl rfl dX1_squareAbout_32 ?_
      refine gg_iload hx hb 6 rfl dX1_squareAbout_33 ?_
      refine gg_callVip (As := [.int (xI x5_10)]) (rest := [.int (xI 2)]) hx hb hml hown hts hK hZ hA (c_X2_lineOf l D aa cI cZ cJ tR tU x5_10 σ _ h) (cwV 1 hts gX1_squareAbout_X2_lineOf rfl rfl rfl hd_X2_lineOf ⟨Nat.le_of_ble_eq_true rfl, Nat.le_of_ble_eq_true rfl⟩) 7 rfl rfl rfl rfl (Nat.le_of_ble_eq_true rfl) dX1_squareAbout_35 (fun r35 h => ?_)
      refine gg_imul hx hb dX1_squareAbout_38 ?_
      refine gg_iload_n hx hb 3 rfl rfl dX1_squareAbout_39 ?_
      refine gg_isub hx hb dX1_squareAbout_40 ?_
      refine gg_istore (lv' := [(7, .int (xI ((2 * r35) - a2))), (6, .int (xI ((2 * r23) - a1))), (0, .ref (aa 7)), (1, .int (xI a1)), (2, .int (xI a2)), (3, .int (xI x3_10)), (4, .int (xI x4_10)), (5, .int (xI x5_10))]) hx hb (by decide) rfl dX1_squareAbout_41 ?_
      refine gg_iload hx hb 1 rfl dX1_squareAbout_43 ?_
      refine gg_iload hx hb 1 rfl dX1_squareAbout_45 ?_
      refine gg_imul hx hb dX1_squareAbout_47 ?_
      refine gg_iload hx hb 0 rfl dX1_squareAbout_48 ?_
      refine gg_iload hx hb 0 rfl dX1_squareAbout_50 ?_
      refine gg_imul hx hb dX1_squareAbout_52 ?_
      refine gg_iadd hx hb dX1_squareAbout_53 ?_
      refine gg_nm (fun z8_54 e54 => ?_)
      have h := h z8_54 e54
      refine gg_istore (lv' := [(8, .int (xI z8_54)), (7, .int (xI ((2 * r35) - a2))), (6, .int (xI ((2 * r23) - a1))), (0, .ref (aa 7)), (1, .int (xI a1)), (2, .int (xI a2)), (3, .int (xI x3_10)), (4, .int (xI x4_10)), (5, .int (xI x5_10))]) hx hb (by decide) rfl dX1_squareAbout_54 ?_
      refine gg_aload_n hx hb 3 rfl rfl dX1_squareAbout_56 ?_
      refine gg_iload hx hb 8 rfl dX1_squareAbout_57 ?_
      refine gg_callVip (As := [.int (xI x5_10)]) (rest := []) hx hb hml hown hts hK hZ hA (c_X2_holds l D aa cI cZ cJ tR tU x5_10 σ _ h) (cwV 1 hts gX1_squareAbout_X2_holds rfl rfl rfl hd_X2_holds ⟨Nat.le_of_ble_eq_true rfl, Nat.le_of_ble_eq_true rfl⟩) 7 rfl rfl rfl rfl (Nat.le_of_ble_eq_true rfl) dX1_squareAbout_59 (fun r59 h => ?_)
      have h := h (fun (x3_84 x4_84 : Int) => GG p l e rmX1_squareAbout s m args below meth c (QI below D (cX aa cI cZ cJ) A args s (fun r9 σ9 => σ9 = σ ∧ Post r9)) A D (cX aa cI cZ cJ) 9 σ 84 [(0, .ref (aa 7)), (1, .int (xI a1)), (2, .int (xI a2)), (3, .int (xI x3_84)), (4, .int (xI x4_84)), (5, .int (xI x5_10))] [])
      have h := h (by
        intro x3_84 x4_84 h
        refine gg_iload_n hx hb 3 rfl rfl dX1_squareAbout_84 ?_
        refine gg_iload hx hb 4 rfl dX1_squareAbout_85 ?_
        refine gg_icmp_lt (tgt := 94) hx hb h.1 h.2.1 dX1_squareAbout_87 rfl (fun c87 => ?_) (fun c87 => ?_)
        · have h := h.2.2.1 c87
          refine gg_iinc (lv' := [(5, .int (xI (x5_10 + 1))), (0, .ref (aa 7)), (1, .int (xI a1)), (2, .int (xI a2)), (3, .int (xI x3_84)), (4, .int (xI x4_84))]) hx hb 5 rfl (by decide) rfl dX1_squareAbout_94 ?_
          refine gg_goto (tgt := 10) hx hb dX1_squareAbout_97 rfl ?_
          refine gg_lv [1, 2, 3, 4, 5, 0] rfl ?_
          exact h
        · have h := h.2.2.2 c87
          refine gg_sipush hx hb dX1_squareAbout_90 rfl ?_
          exact gg_iret hx hb hr hlk ⟨rfl, h⟩ dX1_squareAbout_93)
      refine gg_if_eq (tgt := 75) hx hb h.1 dX1_squareAbout_62 rfl (fun c62 => ?_) (fun c62 => ?_)
      · have h := h.2.1 c62
        refine gg_iload hx hb 7 rfl dX1_squareAbout_75 ?_
        refine gg_iload hx hb 0 rfl dX1_squareAbout_77 ?_
        refine gg_mmin hx hb hml hown hts h.1 h.2.1 (List.mem_of_getElem? (i := 5) rfl) (List.mem_of_getElem? (i := 6) rfl) (List.mem_of_getElem? (i := 3) rfl) (List.mem_of_getElem? (i := 7) rfl) (Nat.le_of_ble_eq_true rfl) (Nat.le_of_ble_eq_true rfl) dX1_squareAbout_79 ?_
        have h := h.2.2
        refine gg_istore (lv' := [(4, .int (xI (xMin x4_10 z8_54))), (8, .int (xI z8_54)), (7, .int (xI ((2 * r35) - a2))), (6, .int (xI ((2 * r23) - a1))), (0, .ref (aa 7)), (1, .int (xI a1)), (2, .int (xI a2)), (3, .int (xI x3_10)), (5, .int (xI x5_10))]) hx hb (by decide) rfl dX1_squareAbout_82 ?_
        refine gg_lv [4, 5, 6, 7, 0, 8] rfl ?_
        exact h
      · have h := h.2.2 c62
        refine gg_iload_n hx hb 6 rfl rfl dX1_squareAbout_65 ?_
        refine gg_iload hx hb 0 rfl dX1_squareAbout_66 ?_
        refine gg_mmax hx hb hml hown hts h.1 h.2.1 (List.mem_of_getElem? (i := 1) rfl) (List.mem_of_getElem? (i := 2) rfl) (List.mem_of_getElem? (i := 3) rfl) (List.mem_of_getElem? (i := 4) rfl) (Nat.le_of_ble_eq_true rfl) (Nat.le_of_ble_eq_true rfl) dX1_squareAbout_68 ?_
        have h := h.2.2
        refine gg_istore_n (lv' := [(3, .int (xI (xMax x3_10 z8_54))), (8, .int (xI z8_54)), (7, .int (xI ((2 * r35) - a2))), (6, .int (xI ((2 * r23) - a1))), (0, .ref (aa 7)), (1, .int (xI a1)), (2, .int (xI a2)), (4, .int (xI x4_10)), (5, .int (xI x5_10))]) hx hb rfl (by decide) rfl dX1_squareAbout_71 ?_
        refine gg_goto (tgt := 84) hx hb dX1_squareAbout_72 rfl ?_
        refine gg_lv [4, 5, 6, 0, 7, 8] rfl ?_
        exact h)
  refine gg_lv [3, 4, 5, 2, 1, 0] rfl ?_
  exact h
abbrev rmX1_find : Room := { frames := 4, cells := 0, slots := 0, locals := 90 }
theorem iX1_find_X1 : ∀ w ∈ u_ws RX1 TX1 3, w ∈ wsX1_find := (fun _ h => List.mem_cons_of_mem _ (List.mem_append_left _ (List.mem_append_right _ h)))
theorem hd_X1_find : (yX1_find.cls = RX1 ∧ yX1_find.cls ≠ "java/lang/invoke/MethodHandle" ∧ yX1_find.cls ≠ "java/lang/invoke/VarHandle" ∧ (parseMethodDescriptor yX1_find.desc).map (fun d => d.parameters.length) = some 1) := by decide +kernel
set_option maxRecDepth 100000 in
set_option maxHeartbeats 4000000 in
theorem c_X1_find (l : Launch) (D : va_G) (aa : Nat → Nat) (cI cZ cJ : ClassId) (tR tU : Nat) (σ : xSt) (Post : Int → xSt → Prop) (h : wp_X1_find σ Post) : MI l D (tyL cI cZ cJ) (cX aa cI cZ cJ) tR tU yX1_find wsX1_find rmX1_find [.ref (aa 20), .ref (aa 7)] σ Post := by
  refine mi_of (cc := cX1_find) (maxL := 5) (ret := (some .boolean)) (by decide) rfl (Nat.le_of_ble_eq_true rfl) ?_
  intro p e s m args below meth c A hF
  obtain ⟨hx, hb, hr, hml, hown, hts, hlk, hK, hZ, hA⟩ := hF
  have hown : s.vm.findClass RX1 = some m.cls := hown
  delta wp_X1_find at h
  refine gg_lv (lv' := [(0, .ref (aa 20)), (1, .ref (aa 7))]) [0, 1] rfl ?_
  refine gg_aload_n hx hb 1 rfl rfl dX1_find_0 ?_
  refine gg_callVip (As := []) (rest := []) hx hb hml hown hts hK hZ hA (c_X2_heapSize l D aa cI cZ cJ tR tU σ _ h) (cwV 0 hts gX1_find_X2_heapSize rfl rfl rfl hd_X2_heapSize ⟨Nat.le_of_ble_eq_true rfl, Nat.le_of_ble_eq_true rfl⟩) 7 rfl rfl rfl rfl (Nat.le_of_ble_eq_true rfl) dX1_find_1 (fun r1 h => ?_)
  refine gg_if_ne (tgt := 9) hx hb h.1 dX1_find_4 rfl (fun c4 => ?_) (fun c4 => ?_)
  · have h := h.2.1 c4
    refine gg_iconst hx hb dX1_find_9 ?_
    refine gg_istore_n (lv' := [(2, .int (xI 0)), (0, .ref (aa 20)), (1, .ref (aa 7))]) hx hb rfl (by decide) rfl dX1_find_10 ?_
    have h := h (fun (x2_11 : Int) => GG p l e rmX1_find s m args below meth c (QI below D (cX aa cI cZ cJ) A args s Post) A D (cX aa cI cZ cJ) 5 σ 11 [(0, .ref (aa 20)), (1, .ref (aa 7)), (2, .int (xI x2_11))] [])
    have h := h (by
      intro x2_11 h
      refine gg_iload_n hx hb 2 rfl rfl dX1_find_11 ?_
      refine gg_iconst hx hb dX1_find_12 ?_
      refine gg_aload_n hx hb 1 rfl rfl dX1_find_13 ?_
      refine gg_callVip (As := []) (rest := [.int (xI 2), .int (xI x2_11)]) hx hb hml hown hts hK hZ hA (c_X2_height l D aa cI cZ cJ tR tU σ _ h) (cwV 0 hts gX1_find_X2_height rfl rfl rfl hd_X2_height ⟨Nat.le_of_ble_eq_true rfl, Nat.le_of_ble_eq_true rfl⟩) 7 rfl rfl rfl rfl (Nat.le_of_ble_eq_true rfl) dX1_find_14 (fun r14 h => ?_)
      refine gg_imul hx hb dX1_find_17 ?_
      refine gg_iconst hx hb dX1_find_18 ?_
      refine gg_isub hx hb dX1_find_19 ?_
      refine gg_icmp_gt (tgt := 83) hx hb h.1 h.2.1 dX1_find_20 rfl (fun c20 => ?_) (fun c20 => ?_)
      · have h := h.2.2.1 c20
        refine gg_iconst hx hb dX1_find_83 ?_
        exact gg_zret hx hb hr hlk (Or.inl rfl) h dX1_find_84
      · have h := h.2.2.2 c20
        refine gg_iconst hx hb dX1_find_23 ?_
        refine gg_istore_n (lv' := [(3, .int (xI 0)), (0, .ref (aa 20)), (1, .ref (aa 7)), (2, .int (xI x2_11))]) hx hb rfl (by decide) rfl dX1_find_24 ?_
        have h := h (fun (x3_25 : Int) => GG p l e rmX1_find s m args below meth c (QI below D (cX aa cI cZ cJ) A args s Post) A D (cX aa cI cZ cJ) 5 σ 25 [(0, .ref (aa 20)), (1, .ref (aa 7)), (2, .int (xI x2_11)), (3, .int (xI x3_25))] [])
        have h := h (by
          intro x3_25 h
          refine gg_iload_n hx hb 3 rfl rfl dX1_find_25 ?_
          refine gg_iconst hx hb dX1_find_26 ?_
          refine gg_aload_n hx hb 1 rfl rfl dX1_find_27 ?_
          refine gg_callVip (As := []) (rest := [.int (xI 2), .int (xI x3_25)]) hx hb hml hown hts hK hZ hA (c_X2_width l D aa cI cZ cJ tR tU σ _ h) (cwV 0 hts gX1_find_X2_width rfl rfl rfl hd_X2_width ⟨Nat.le_of_ble_eq_true rfl, Nat.le_of_ble_eq_true rfl⟩) 7 rfl rfl rfl rfl (Nat.le_of_ble_eq_true rfl) dX1_find_28 (fun r28 h => ?_)
          refine gg_imul hx hb dX1_find_31 ?_
          refine gg_iconst hx hb dX1_find_32 ?_
          refine gg_isub hx hb dX1_find_33 ?_
          refine gg_icmp_gt (tgt := 77) hx hb h.1 h.2.1 dX1_find_34 rfl (fun c34 => ?_) (fun c34 => ?_)
          · have h := h.2.2.1 c34
            refine gg_iinc (lv' := [(2, .int (xI (x2_11 + 1))), (0, .ref (aa 20)), (1, .ref (aa 7)), (3, .int (xI x3_25))]) hx hb 2 rfl (by decide) rfl dX1_find_77 ?_
            refine gg_goto (tgt := 11) hx hb dX1_find_80 rfl ?_
            refine gg_lv [1, 2, 0] rfl ?_
            exact h
          · have h := h.2.2.2 c34
            refine gg_aload_n hx hb 1 rfl rfl dX1_find_37 ?_
            refine gg_iload_n hx hb 3 rfl rfl dX1_find_38 ?_
            refine gg_iload_n hx hb 2 rfl rfl dX1_find_39 ?_
            refine gg_callSip (As := [.ref (aa 7), .int (xI x3_25), .int (xI x2_11)]) (rest := []) hx hb hml hown hts hK hZ hA (c_X1_squareAbout l D aa cI cZ cJ tR tU x3_25 x2_11 σ _ h) (va_cwS 3 hts gX1_find_X1_squareAbout rfl rfl rfl hd_X1_squareAbout ⟨Nat.le_of_ble_eq_true rfl, Nat.le_of_ble_eq_true rfl⟩) rfl rfl (Nat.le_of_ble_eq_true rfl) dX1_find_40 (fun r40 h => ?_)
            refine gg_istore (lv' := [(4, .int (xI r40)), (0, .ref (aa 20)), (1, .ref (aa 7)), (2, .int (xI x2_11)), (3, .int (xI x3_25))]) hx hb (by decide) rfl dX1_find_43 ?_
            refine gg_iload hx hb 0 rfl dX1_find_45 ?_
            refine gg_sipush hx hb dX1_find_47 rfl ?_
            refine gg_icmp_eq (tgt := 71) hx hb h.1 (by decide) dX1_find_50 rfl (fun c50 => ?_) (fun c50 => ?_)
            · have h := h.2.1 c50
              refine gg_iinc (lv' := [(3, .int (xI (x3_25 + 1))), (4, .int (xI r40)), (0, .ref (aa 20)), (1, .ref (aa 7)), (2, .int (xI x2_11))]) hx hb 4 rfl (by decide) rfl dX1_find_71 ?_
              refine gg_goto (tgt := 25) hx hb dX1_find_74 rfl ?_
              refine gg_lv [2, 3, 4, 0] rfl ?_
              exact h
            · have h := h.2.2 c50
              refine gg_aload_n hx hb 1 rfl rfl dX1_find_53 ?_
              refine gg_iload_n hx hb 4 rfl rfl dX1_find_54 ?_
              refine gg_put (C := RX1) (T := TX1) (N := 3) hx hb hts hown hK iX1_find_X1 tyX1 tyX1_ok nmX1 20 rfl rfl 0 (by decide) (List.mem_of_getElem? (i := 1) rfl) rfl rfl (Nat.le_of_ble_eq_true rfl) (cX_set_20_0 aa cI cZ cJ _ _) dX1_find_55 (fun σ_55 e55 => ?_)
              have h := h σ_55 e55
              refine gg_aload_n hx hb 1 rfl rfl dX1_find_58 ?_
              refine gg_iload_n hx hb 3 rfl rfl dX1_find_59 ?_
              refine gg_put (C := RX1) (T := TX1) (N := 3) hx hb hts hown hK iX1_find_X1 tyX1 tyX1_ok nmX1 20 rfl rfl 1 (by decide) (List.mem_of_getElem? (i := 2) rfl) rfl rfl (Nat.le_of_ble_eq_true rfl) (cX_set_20_1 aa cI cZ cJ _ _) dX1_find_60 (fun σ_60 e60 => ?_)
              have h := h σ_60 e60
              refine gg_aload_n hx hb 1 rfl rfl dX1_find_63 ?_
              refine gg_iload hx hb 0 rfl dX1_find_64 ?_
              refine gg_put (C := RX1) (T := TX1) (N := 3) hx hb hts hown hK iX1_find_X1 tyX1 tyX1_ok nmX1 20 rfl rfl 2 (by decide) (List.mem_of_getElem? (i := 3) rfl) rfl rfl (Nat.le_of_ble_eq_true rfl) (cX_set_20_2 aa cI cZ cJ _ _) dX1_find_66 (fun σ_66 e66 => ?_)
              have h := h σ_66 e66
              refine gg_iconst hx hb dX1_find_69 ?_
              exact gg_zret hx hb hr hlk (Or.inr rfl) h dX1_find_70)
        refine gg_lv [1, 2, 3, 0] rfl ?_
        exact h)
    refine gg_lv [1, 2, 0] rfl ?_
    exact h
  · have h := h.2.2 c4
    refine gg_iconst hx hb dX1_find_7 ?_
    exact gg_zret hx hb hr hlk (Or.inl rfl) h dX1_find_8
abbrev rmX9_is : Room := { frames := 6, cells := 0, slots := 0, locals := 132 }
theorem iX9_is_X9 : ∀ w ∈ u_ws RX9 TX9 9, w ∈ wsX9_is := (fun _ h => List.mem_cons_of_mem _ (List.mem_append_left _ (List.mem_append_left _ (List.mem_append_left _ (List.mem_append_right _ h)))))
theorem tbo_X9_is (a : Int) (c0 : ¬ a = 0) (c1 : ¬ a = 1) (c2 : ¬ a = 2) : a < 0 ∨ 2 < a := by omega
theorem hd_X9_is : (yX9_is.cls = RX9 ∧ yX9_is.cls ≠ "java/lang/invoke/MethodHandle" ∧ yX9_is.cls ≠ "java/lang/invoke/VarHandle" ∧ (parseMethodDescriptor yX9_is.desc).map (fun d => d.parameters.length) = some 1) := by decide +kernel
set_option maxRecDepth 100000 in
set_option maxHeartbeats 4000000 in
theorem c_X9_is (l : Launch) (D : va_G) (aa : Nat → Nat) (cI cZ cJ : ClassId) (tR tU : Nat) (a1 : Int) (σ : xSt) (Post : Int → xSt → Prop) (h : wp_X9_is a1 σ Post) : MI l D (tyL cI cZ cJ) (cX aa cI cZ cJ) tR tU yX9_is wsX9_is rmX9_is [.ref (aa 0), .int (xI a1)] σ Post := by
  refine mi_of (cc := cX9_is) (maxL := 3) (ret := (some .int)) (by decide) rfl (Nat.le_of_ble_eq_true rfl) ?_
  intro p e s m args below meth c A hF
  obtain ⟨hx, hb, hr, hml, hown, hts, hlk, hK, hZ, hA⟩ := hF
  have hown : s.vm.findClass RX9 = some m.cls := hown
  delta wp_X9_is at h
  refine gg_lv (lv' := [(0, .ref (aa 0)), (1, .int (xI a1))]) [0, 1] rfl ?_
  refine gg_iload_n hx hb 1 rfl rfl dX9_is_0 ?_
  have h := h (fun (x2_92 : Int) (s92 : xSt) => GG p l e rmX9_is s m args below meth c (QI below D (cX aa cI cZ cJ) A args s Post) A D (cX aa cI cZ cJ) 3 s92 92 [(2, .int (xI x2_92))] [])
  have h := h (by
    intro x2_92 s92 h
    refine gg_iload_n hx hb 0 rfl rfl dX9_is_92 ?_
    refine gg_if_eq (tgt := 100) hx hb h.1 dX9_is_93 rfl (fun c93 => ?_) (fun c93 => ?_)
    · have h := h.2.1 c93
      refine gg_iconst hx hb dX9_is_100 ?_
      exact gg_iret hx hb hr hlk h dX9_is_101
    · have h := h.2.2 c93
      refine gg_iconst hx hb dX9_is_96 ?_
      refine gg_goto (tgt := 101) hx hb dX9_is_97 rfl ?_
      exact gg_iret hx hb hr hlk h dX9_is_101)
  have hq := h.1
  have h := h.2
  by_cases c1_0 : a1 = 0
  · have h := h.1 c1_0
    refine gg_tableIn (k := 0) (tgt := 28) hx hb hq c1_0 dX9_is_1 (by decide) (by decide) rfl rfl ?_
    refine gg_aload_n hx hb 0 rfl rfl dX9_is_28 ?_
    refine gg_get (C := RX9) (T := TX9) (N := 9) hx hb hts hown hK iX9_is_X9 0 rfl rfl 5 (by decide) (List.mem_of_getElem? (i := 1) rfl) rfl dX9_is_29 ?_
    refine gg_aload_n hx hb 0 rfl rfl dX9_is_32 ?_
    refine gg_get (C := RX9) (T := TX9) (N := 9) hx hb hts hown hK iX9_is_X9 0 rfl rfl 2 (by decide) (List.mem_of_getElem? (i := 2) rfl) rfl dX9_is_33 ?_
    refine gg_callVv (As := [.ref (aa 7)]) (rest := []) hx hb hml hown hts hK hZ hA (c_X3_wrap l D aa cI cZ cJ tR tU σ _ h) (cwV 1 hts gX9_is_X3_wrap rfl rfl rfl hd_X3_wrap ⟨Nat.le_of_ble_eq_true rfl, Nat.le_of_ble_eq_true rfl⟩) 15 rfl rfl rfl rfl (Nat.le_of_ble_eq_true rfl) dX9_is_36 (fun t36 h => ?_)
    refine gg_aload_n hx hb 0 rfl rfl dX9_is_39 ?_
    refine gg_get (C := RX9) (T := TX9) (N := 9) hx hb hts hown hK iX9_is_X9 0 rfl rfl 5 (by decide) (List.mem_of_getElem? (i := 1) rfl) rfl dX9_is_40 ?_
    refine gg_aload_n hx hb 0 rfl rfl dX9_is_43 ?_
    refine gg_get (C := RX9) (T := TX9) (N := 9) hx hb hts hown hK iX9_is_X9 0 rfl rfl 2 (by decide) (List.mem_of_getElem? (i := 2) rfl) rfl dX9_is_44 ?_
    refine gg_callVip (As := [.ref (aa 7)]) (rest := []) hx hb hml hown hts hK hZ hA (c_X3_lacks l D aa cI cZ cJ tR tU t36 _ h) (cwV 1 hts gX9_is_X3_lacks rfl rfl rfl hd_X3_lacks ⟨Nat.le_of_ble_eq_true rfl, Nat.le_of_ble_eq_true rfl⟩) 15 rfl rfl rfl rfl (Nat.le_of_ble_eq_true rfl) dX9_is_47 (fun r47 h => ?_)
    refine gg_if_ne (tgt := 57) hx hb h.1 dX9_is_50 rfl (fun c50 => ?_) (fun c50 => ?_)
    · have h := h.2.1 c50
      refine gg_iconst hx hb dX9_is_57 ?_
      refine gg_istore_n (lv' := [(2, .int (xI 0)), (0, .ref (aa 0)), (1, .int (xI a1))]) hx hb rfl (by decide) rfl dX9_is_58 ?_
      refine gg_goto (tgt := 92) hx hb dX9_is_59 rfl ?_
      refine gg_lv [0] rfl ?_
      exact h
    · have h := h.2.2 c50
      refine gg_iconst hx hb dX9_is_53 ?_
      refine gg_goto (tgt := 58) hx hb dX9_is_54 rfl ?_
      refine gg_istore_n (lv' := [(2, .int (xI 1)), (0, .ref (aa 0)), (1, .int (xI a1))]) hx hb rfl (by decide) rfl dX9_is_58 ?_
      refine gg_goto (tgt := 92) hx hb dX9_is_59 rfl ?_
      refine gg_lv [0] rfl ?_
      exact h
  have h := h.2
  by_cases c1_1 : a1 = 1
  · have h := h.1 c1_1
    refine gg_tableIn (k := 1) (tgt := 62) hx hb hq c1_1 dX9_is_1 (by decide) (by decide) rfl rfl ?_
    refine gg_aload_n hx hb 0 rfl rfl dX9_is_62 ?_
    refine gg_get (C := RX9) (T := TX9) (N := 9) hx hb hts hown hK iX9_is_X9 0 rfl rfl 2 (by decide) (List.mem_of_getElem? (i := 2) rfl) rfl dX9_is_63 ?_
    refine gg_callVip (As := []) (rest := []) hx hb hml hown hts hK hZ hA (c_X2_hasStairs l D aa cI cZ cJ tR tU σ _ h) (cwV 0 hts gX9_is_X2_hasStairs rfl rfl rfl hd_X2_hasStairs ⟨Nat.le_of_ble_eq_true rfl, Nat.le_of_ble_eq_true rfl⟩) 7 rfl rfl rfl rfl (Nat.le_of_ble_eq_true rfl) dX9_is_66 (fun r66 h => ?_)
    refine gg_istore_n (lv' := [(2, .int (xI r66)), (0, .ref (aa 0)), (1, .int (xI a1))]) hx hb rfl (by decide) rfl dX9_is_69 ?_
    refine gg_goto (tgt := 92) hx hb dX9_is_70 rfl ?_
    refine gg_lv [0] rfl ?_
    exact h
  have h := h.2
  by_cases c1_2 : a1 = 2
  · have h := h.1 c1_2
    refine gg_tableIn (k := 2) (tgt := 73) hx hb hq c1_2 dX9_is_1 (by decide) (by decide) rfl rfl ?_
    refine gg_aload_n hx hb 0 rfl rfl dX9_is_73 ?_
    refine gg_get (C := RX9) (T := TX9) (N := 9) hx hb hts hown hK iX9_is_X9 0 rfl rfl 7 (by decide) (List.mem_of_getElem? (i := 3) rfl) rfl dX9_is_74 ?_
    refine gg_aload_n hx hb 0 rfl rfl dX9_is_77 ?_
    refine gg_get (C := RX9) (T := TX9) (N := 9) hx hb hts hown hK iX9_is_X9 0 rfl rfl 2 (by decide) (List.mem_of_getElem? (i := 2) rfl) rfl dX9_is_78 ?_
    refine gg_callVi (As := [.ref (aa 7)]) (rest := []) hx hb hml hown hts hK hZ hA (c_X1_find l D aa cI cZ cJ tR tU σ _ h) (cwV 1 hts gX9_is_X1_find rfl rfl rfl hd_X1_find ⟨Nat.le_of_ble_eq_true rfl, Nat.le_of_ble_eq_true rfl⟩) 20 rfl rfl rfl rfl (Nat.le_of_ble_eq_true rfl) dX9_is_81 (fun r81 t81 h => ?_)
    refine gg_istore_n (lv' := [(2, .int (xI r81)), (0, .ref (aa 0)), (1, .int (xI a1))]) hx hb rfl (by decide) rfl dX9_is_84 ?_
    refine gg_goto (tgt := 92) hx hb dX9_is_85 rfl ?_
    refine gg_lv [0] rfl ?_
    exact h
  have h := h.2
  have cD := tbo_X9_is a1 c1_0 c1_1 c1_2
  have h := h cD
  refine gg_tableOut (tgt := 88) hx hb hq cD dX9_is_1 rfl ?_
  refine gg_sipush hx hb dX9_is_88 rfl ?_
  exact gg_iret hx hb hr hlk h dX9_is_91
abbrev rmX1_greatestSquare : Room := { frames := 0, cells := 0, slots := 0, locals := 0 }
theorem iX1_greatestSquare_X1 : ∀ w ∈ u_ws RX1 TX1 3, w ∈ wsX1_greatestSquare := (fun _ h => List.mem_cons_of_mem _ (List.mem_append_right _ h))
theorem hd_X1_greatestSquare : (yX1_greatestSquare.cls = RX1 ∧ yX1_greatestSquare.cls ≠ "java/lang/invoke/MethodHandle" ∧ yX1_greatestSquare.cls ≠ "java/lang/invoke/VarHandle" ∧ (parseMethodDescriptor yX1_greatestSquare.desc).map (fun d => d.parameters.length) = some 0) := by decide +kernel
set_option maxRecDepth 100000 in
set_option maxHeartbeats 4000000 in
theorem c_X1_greatestSquare (l : Launch) (D : va_G) (aa : Nat → Nat) (cI cZ cJ : ClassId) (tR tU : Nat) (σ : xSt) (Post : Int → Prop) (h : wp_X1_greatestSquare σ Post) : MI l D (tyL cI cZ cJ) (cX aa cI cZ cJ) tR tU yX1_greatestSquare wsX1_greatestSquare rmX1_greatestSquare [.ref (aa 20)] σ (fun r9 σ9 => σ9 = σ ∧ Post r9) := by
  refine mi_of (cc := cX1_greatestSquare) (maxL := 1) (ret := (some .int)) (by decide) rfl (Nat.le_of_ble_eq_true rfl) ?_
  intro p e s m args below meth c A hF
  obtain ⟨hx, hb, hr, hml, hown, hts, hlk, hK, hZ, hA⟩ := hF
  have hown : s.vm.findClass RX1 = some m.cls := hown
  delta wp_X1_greatestSquare at h
  refine gg_lv (lv' := [(0, .ref (aa 20))]) [0] rfl ?_
  refine gg_aload_n hx hb 0 rfl rfl dX1_greatestSquare_0 ?_
  refine gg_get (C := RX1) (T := TX1) (N := 3) hx hb hts hown hK iX1_greatestSquare_X1 20 rfl rfl 2 (by decide) (List.mem_of_getElem? (i := 1) rfl) rfl dX1_greatestSquare_1 ?_
  exact gg_iret hx hb hr hlk ⟨rfl, h⟩ dX1_greatestSquare_4
abbrev rmX1_middleX : Room := { frames := 0, cells := 0, slots := 0, locals := 0 }
theorem iX1_middleX_X1 : ∀ w ∈ u_ws RX1 TX1 3, w ∈ wsX1_middleX := (fun _ h => List.mem_cons_of_mem _ (List.mem_append_right _ h))
theorem hd_X1_middleX : (yX1_middleX.cls = RX1 ∧ yX1_middleX.cls ≠ "java/lang/invoke/MethodHandle" ∧ yX1_middleX.cls ≠ "java/lang/invoke/VarHandle" ∧ (parseMethodDescriptor yX1_middleX.desc).map (fun d => d.parameters.length) = some 0) := by decide +kernel
set_option maxRecDepth 100000 in
set_option maxHeartbeats 4000000 in
theorem c_X1_middleX (l : Launch) (D : va_G) (aa : Nat → Nat) (cI cZ cJ : ClassId) (tR tU : Nat) (σ : xSt) (Post : Int → Prop) (h : wp_X1_middleX σ Post) : MI l D (tyL cI cZ cJ) (cX aa cI cZ cJ) tR tU yX1_middleX wsX1_middleX rmX1_middleX [.ref (aa 20)] σ (fun r9 σ9 => σ9 = σ ∧ Post r9) := by
  refine mi_of (cc := cX1_middleX) (maxL := 1) (ret := (some .int)) (by decide) rfl (Nat.le_of_ble_eq_true rfl) ?_
  intro p e s m args below meth c A hF
  obtain ⟨hx, hb, hr, hml, hown, hts, hlk, hK, hZ, hA⟩ := hF
  have hown : s.vm.findClass RX1 = some m.cls := hown
  delta wp_X1_middleX at h
  refine gg_lv (lv' := [(0, .ref (aa 20))]) [0] rfl ?_
  refine gg_aload_n hx hb 0 rfl rfl dX1_middleX_0 ?_
  refine gg_get (C := RX1) (T := TX1) (N := 3) hx hb hts hown hK iX1_middleX_X1 20 rfl rfl 0 (by decide) (List.mem_of_getElem? (i := 1) rfl) rfl dX1_middleX_1 ?_
  exact gg_iret hx hb hr hlk ⟨rfl, h⟩ dX1_middleX_4
abbrev rmX1_middleY : Room := { frames := 0, cells := 0, slots := 0, locals := 0 }
theorem iX1_middleY_X1 : ∀ w ∈ u_ws RX1 TX1 3, w ∈ wsX1_middleY := (fun _ h => List.mem_cons_of_mem _ (List.mem_append_right _ h))
theorem hd_X1_middleY : (yX1_middleY.cls = RX1 ∧ yX1_middleY.cls ≠ "java/lang/invoke/MethodHandle" ∧ yX1_middleY.cls ≠ "java/lang/invoke/VarHandle" ∧ (parseMethodDescriptor yX1_middleY.desc).map (fun d => d.parameters.length) = some 0) := by decide +kernel
set_option maxRecDepth 100000 in
set_option maxHeartbeats 4000000 in
theorem c_X1_middleY (l : Launch) (D : va_G) (aa : Nat → Nat) (cI cZ cJ : ClassId) (tR tU : Nat) (σ : xSt) (Post : Int → Prop) (h : wp_X1_middleY σ Post) : MI l D (tyL cI cZ cJ) (cX aa cI cZ cJ) tR tU yX1_middleY wsX1_middleY rmX1_middleY [.ref (aa 20)] σ (fun r9 σ9 => σ9 = σ ∧ Post r9) := by
  refine mi_of (cc := cX1_middleY) (maxL := 1) (ret := (some .int)) (by decide) rfl (Nat.le_of_ble_eq_true rfl) ?_
  intro p e s m args below meth c A hF
  obtain ⟨hx, hb, hr, hml, hown, hts, hlk, hK, hZ, hA⟩ := hF
  have hown : s.vm.findClass RX1 = some m.cls := hown
  delta wp_X1_middleY at h
  refine gg_lv (lv' := [(0, .ref (aa 20))]) [0] rfl ?_
  refine gg_aload_n hx hb 0 rfl rfl dX1_middleY_0 ?_
  refine gg_get (C := RX1) (T := TX1) (N := 3) hx hb hts hown hK iX1_middleY_X1 20 rfl rfl 1 (by decide) (List.mem_of_getElem? (i := 1) rfl) rfl dX1_middleY_1 ?_
  exact gg_iret hx hb hr hlk ⟨rfl, h⟩ dX1_middleY_4
abbrev rmX9_disc : Room := { frames := 5, cells := 0, slots := 0, locals := 114 }
theorem iX9_disc_X9 : ∀ w ∈ u_ws RX9 TX9 9, w ∈ wsX9_disc := (fun _ h => List.mem_cons_of_mem _ (List.mem_append_left _ (List.mem_append_left _ (List.mem_append_right _ h))))
theorem hd_X9_disc : (yX9_disc.cls = RX9 ∧ yX9_disc.cls ≠ "java/lang/invoke/MethodHandle" ∧ yX9_disc.cls ≠ "java/lang/invoke/VarHandle" ∧ (parseMethodDescriptor yX9_disc.desc).map (fun d => d.parameters.length) = some 1) := by decide +kernel
set_option maxRecDepth 100000 in
set_option maxHeartbeats 4000000 in
theorem c_X9_disc (l : Launch) (D : va_G) (aa : Nat → Nat) (cI cZ cJ : ClassId) (tR tU : Nat) (a1 : Int) (σ : xSt) (Post : Int → xSt → Prop) (h : wp_X9_disc a1 σ Post) : MI l D (tyL cI cZ cJ) (cX aa cI cZ cJ) tR tU yX9_disc wsX9_disc rmX9_disc [.ref (aa 0), .int (xI a1)] σ Post := by
  refine mi_of (cc := cX9_disc) (maxL := 2) (ret := (some .int)) (by decide) rfl (Nat.le_of_ble_eq_true rfl) ?_
  intro p e s m args below meth c A hF
  obtain ⟨hx, hb, hr, hml, hown, hts, hlk, hK, hZ, hA⟩ := hF
  have hown : s.vm.findClass RX9 = some m.cls := hown
  delta wp_X9_disc at h
  refine gg_lv (lv' := [(0, .ref (aa 0)), (1, .int (xI a1))]) [0, 1] rfl ?_
  refine gg_iload_n hx hb 1 rfl rfl dX9_disc_0 ?_
  refine gg_if_lt (tgt := 9) hx hb h.1 dX9_disc_1 rfl (fun c1 => ?_) (fun c1 => ?_)
  · have h := h.2.1 c1
    refine gg_sipush hx hb dX9_disc_9 rfl ?_
    exact gg_iret hx hb hr hlk h dX9_disc_12
  · have h := h.2.2 c1
    refine gg_iload_n hx hb 1 rfl rfl dX9_disc_4 ?_
    refine gg_iconst hx hb dX9_disc_5 ?_
    refine gg_icmp_le (tgt := 13) hx hb h.1 (by decide) dX9_disc_6 rfl (fun c6 => ?_) (fun c6 => ?_)
    · have h := h.2.1 c6
      refine gg_aload_n hx hb 0 rfl rfl dX9_disc_13 ?_
      refine gg_get (C := RX9) (T := TX9) (N := 9) hx hb hts hown hK iX9_disc_X9 0 rfl rfl 7 (by decide) (List.mem_of_getElem? (i := 1) rfl) rfl dX9_disc_14 ?_
      refine gg_aload_n hx hb 0 rfl rfl dX9_disc_17 ?_
      refine gg_get (C := RX9) (T := TX9) (N := 9) hx hb hts hown hK iX9_disc_X9 0 rfl rfl 2 (by decide) (List.mem_of_getElem? (i := 2) rfl) rfl dX9_disc_18 ?_
      refine gg_callVi (As := [.ref (aa 7)]) (rest := []) hx hb hml hown hts hK hZ hA (c_X1_find l D aa cI cZ cJ tR tU σ _ h) (cwV 1 hts gX9_disc_X1_find rfl rfl rfl hd_X1_find ⟨Nat.le_of_ble_eq_true rfl, Nat.le_of_ble_eq_true rfl⟩) 20 rfl rfl rfl rfl (Nat.le_of_ble_eq_true rfl) dX9_disc_21 (fun r21 t21 h => ?_)
      refine gg_if_ne (tgt := 31) hx hb h.1 dX9_disc_24 rfl (fun c24 => ?_) (fun c24 => ?_)
      · have h := h.2.1 c24
        refine gg_iload_n hx hb 1 rfl rfl dX9_disc_31 ?_
        refine gg_iconst hx hb dX9_disc_32 ?_
        refine gg_icmp_ne (tgt := 44) hx hb h.1 (by decide) dX9_disc_33 rfl (fun c33 => ?_) (fun c33 => ?_)
        · have h := h.2.1 c33
          refine gg_iload_n hx hb 1 rfl rfl dX9_disc_44 ?_
          refine gg_if_ne (tgt := 58) hx hb h.1 dX9_disc_45 rfl (fun c45 => ?_) (fun c45 => ?_)
          · have h := h.2.1 c45
            refine gg_aload_n hx hb 0 rfl rfl dX9_disc_58 ?_
            refine gg_get (C := RX9) (T := TX9) (N := 9) hx hb hts hown hK iX9_disc_X9 0 rfl rfl 7 (by decide) (List.mem_of_getElem? (i := 1) rfl) rfl dX9_disc_59 ?_
            refine gg_callVip (As := []) (rest := []) hx hb hml hown hts hK hZ hA (c_X1_middleY l D aa cI cZ cJ tR tU t21 _ h) (cwV 0 hts gX9_disc_X1_middleY rfl rfl rfl hd_X1_middleY ⟨Nat.le_of_ble_eq_true rfl, Nat.le_of_ble_eq_true rfl⟩) 20 rfl rfl rfl rfl (Nat.le_of_ble_eq_true rfl) dX9_disc_62 (fun r62 h => ?_)
            exact gg_iret hx hb hr hlk h dX9_disc_65
          · have h := h.2.2 c45
            refine gg_aload_n hx hb 0 rfl rfl dX9_disc_48 ?_
            refine gg_get (C := RX9) (T := TX9) (N := 9) hx hb hts hown hK iX9_disc_X9 0 rfl rfl 7 (by decide) (List.mem_of_getElem? (i := 1) rfl) rfl dX9_disc_49 ?_
            refine gg_callVip (As := []) (rest := []) hx hb hml hown hts hK hZ hA (c_X1_middleX l D aa cI cZ cJ tR tU t21 _ h) (cwV 0 hts gX9_disc_X1_middleX rfl rfl rfl hd_X1_middleX ⟨Nat.le_of_ble_eq_true rfl, Nat.le_of_ble_eq_true rfl⟩) 20 rfl rfl rfl rfl (Nat.le_of_ble_eq_true rfl) dX9_disc_52 (fun r52 h => ?_)
            refine gg_goto (tgt := 65) hx hb dX9_disc_55 rfl ?_
            exact gg_iret hx hb hr hlk h dX9_disc_65
        · have h := h.2.2 c33
          refine gg_aload_n hx hb 0 rfl rfl dX9_disc_36 ?_
          refine gg_get (C := RX9) (T := TX9) (N := 9) hx hb hts hown hK iX9_disc_X9 0 rfl rfl 7 (by decide) (List.mem_of_getElem? (i := 1) rfl) rfl dX9_disc_37 ?_
          refine gg_callVip (As := []) (rest := []) hx hb hml hown hts hK hZ hA (c_X1_greatestSquare l D aa cI cZ cJ tR tU t21 _ h) (cwV 0 hts gX9_disc_X1_greatestSquare rfl rfl rfl hd_X1_greatestSquare ⟨Nat.le_of_ble_eq_true rfl, Nat.le_of_ble_eq_true rfl⟩) 20 rfl rfl rfl rfl (Nat.le_of_ble_eq_true rfl) dX9_disc_40 (fun r40 h => ?_)
          exact gg_iret hx hb hr hlk h dX9_disc_43
      · have h := h.2.2 c24
        refine gg_sipush hx hb dX9_disc_27 rfl ?_
        exact gg_iret hx hb hr hlk h dX9_disc_30
    · have h := h.2.2 c6
      refine gg_sipush hx hb dX9_disc_9 rfl ?_
      exact gg_iret hx hb hr hlk h dX9_disc_12
abbrev rmX9_part : Room := { frames := 4, cells := 0, slots := 0, locals := 99 }
theorem iX9_part_X9 : ∀ w ∈ u_ws RX9 TX9 9, w ∈ wsX9_part := (fun _ h => List.mem_cons_of_mem _ (List.mem_append_left _ (List.mem_append_left _ (List.mem_append_right _ h))))
theorem hd_X9_part : (yX9_part.cls = RX9 ∧ yX9_part.cls ≠ "java/lang/invoke/MethodHandle" ∧ yX9_part.cls ≠ "java/lang/invoke/VarHandle" ∧ (parseMethodDescriptor yX9_part.desc).map (fun d => d.parameters.length) = some 1) := by decide +kernel
set_option maxRecDepth 100000 in
set_option maxHeartbeats 4000000 in
theorem c_X9_part (l : Launch) (D : va_G) (aa : Nat → Nat) (cI cZ cJ : ClassId) (tR tU : Nat) (a1 : Int) (σ : xSt) (Post : Int → xSt → Prop) (h : wp_X9_part a1 σ Post) : MI l D (tyL cI cZ cJ) (cX aa cI cZ cJ) tR tU yX9_part wsX9_part rmX9_part [.ref (aa 0), .int (xI a1)] σ Post := by
  refine mi_of (cc := cX9_part) (maxL := 2) (ret := (some .int)) (by decide) rfl (Nat.le_of_ble_eq_true rfl) ?_
  intro p e s m args below meth c A hF
  obtain ⟨hx, hb, hr, hml, hown, hts, hlk, hK, hZ, hA⟩ := hF
  have hown : s.vm.findClass RX9 = some m.cls := hown
  delta wp_X9_part at h
  refine gg_lv (lv' := [(0, .ref (aa 0)), (1, .int (xI a1))]) [0, 1] rfl ?_
  refine gg_aload_n hx hb 0 rfl rfl dX9_part_0 ?_
  refine gg_get (C := RX9) (T := TX9) (N := 9) hx hb hts hown hK iX9_part_X9 0 rfl rfl 2 (by decide) (List.mem_of_getElem? (i := 1) rfl) rfl dX9_part_1 ?_
  refine gg_iload_n hx hb 1 rfl rfl dX9_part_4 ?_
  refine gg_callVip (As := [.int (xI a1)]) (rest := []) hx hb hml hown hts hK hZ hA (c_X2_knows l D aa cI cZ cJ tR tU a1 σ _ h) (cwV 1 hts gX9_part_X2_knows rfl rfl rfl hd_X2_knows ⟨Nat.le_of_ble_eq_true rfl, Nat.le_of_ble_eq_true rfl⟩) 7 rfl rfl rfl rfl (Nat.le_of_ble_eq_true rfl) dX9_part_5 (fun r5 h => ?_)
  refine gg_if_ne (tgt := 15) hx hb h.1 dX9_part_8 rfl (fun c8 => ?_) (fun c8 => ?_)
  · have h := h.2.1 c8
    refine gg_aload_n hx hb 0 rfl rfl dX9_part_15 ?_
    refine gg_get (C := RX9) (T := TX9) (N := 9) hx hb hts hown hK iX9_part_X9 0 rfl rfl 2 (by decide) (List.mem_of_getElem? (i := 1) rfl) rfl dX9_part_16 ?_
    refine gg_iload_n hx hb 1 rfl rfl dX9_part_19 ?_
    refine gg_callVip (As := [.int (xI a1)]) (rest := []) hx hb hml hown hts hK hZ hA (c_X2_holds l D aa cI cZ cJ tR tU a1 σ _ h) (cwV 1 hts gX9_part_X2_holds rfl rfl rfl hd_X2_holds ⟨Nat.le_of_ble_eq_true rfl, Nat.le_of_ble_eq_true rfl⟩) 7 rfl rfl rfl rfl (Nat.le_of_ble_eq_true rfl) dX9_part_20 (fun r20 h => ?_)
    refine gg_if_ne (tgt := 30) hx hb h.1 dX9_part_23 rfl (fun c23 => ?_) (fun c23 => ?_)
    · have h := h.2.1 c23
      refine gg_aload_n hx hb 0 rfl rfl dX9_part_30 ?_
      refine gg_get (C := RX9) (T := TX9) (N := 9) hx hb hts hown hK iX9_part_X9 0 rfl rfl 3 (by decide) (List.mem_of_getElem? (i := 2) rfl) rfl dX9_part_31 ?_
      refine gg_aload_n hx hb 0 rfl rfl dX9_part_34 ?_
      refine gg_get (C := RX9) (T := TX9) (N := 9) hx hb hts hown hK iX9_part_X9 0 rfl rfl 2 (by decide) (List.mem_of_getElem? (i := 1) rfl) rfl dX9_part_35 ?_
      refine gg_aload_n hx hb 0 rfl rfl dX9_part_38 ?_
      refine gg_get (C := RX9) (T := TX9) (N := 9) hx hb hts hown hK iX9_part_X9 0 rfl rfl 2 (by decide) (List.mem_of_getElem? (i := 1) rfl) rfl dX9_part_39 ?_
      refine gg_callVrp (As := []) (rest := [.ref (aa 7), .ref (aa 9)]) hx hb hml hown hts hK hZ hA (c_X2_members l D aa cI cZ cJ tR tU σ _ h) (cwV 0 hts gX9_part_X2_members rfl rfl rfl hd_X2_members ⟨Nat.le_of_ble_eq_true rfl, Nat.le_of_ble_eq_true rfl⟩) 7 rfl rfl rfl rfl (Nat.le_of_ble_eq_true rfl) dX9_part_42 (fun h => ?_)
      refine gg_iconst hx hb dX9_part_45 ?_
      refine gg_iconst hx hb dX9_part_46 ?_
      refine gg_callVi (As := [.ref (aa 7), .ref (aa 8), .int (xI 1), .int (xI 1)]) (rest := []) hx hb hml hown hts hK hZ hA (c_X4_split_8 l D aa cI cZ cJ tR tU 1 1 σ _ h) (cwV 4 hts gX9_part_X4_split rfl rfl rfl hd_X4_split ⟨Nat.le_of_ble_eq_true rfl, Nat.le_of_ble_eq_true rfl⟩) 9 rfl rfl rfl rfl (Nat.le_of_ble_eq_true rfl) dX9_part_47 (fun r47 t47 h => ?_)
      refine gg_pop hx hb rfl dX9_part_50 ?_
      refine gg_aload_n hx hb 0 rfl rfl dX9_part_51 ?_
      refine gg_get (C := RX9) (T := TX9) (N := 9) hx hb hts hown hK iX9_part_X9 0 rfl rfl 3 (by decide) (List.mem_of_getElem? (i := 2) rfl) rfl dX9_part_52 ?_
      refine gg_iload_n hx hb 1 rfl rfl dX9_part_55 ?_
      refine gg_callVip (As := [.int (xI a1)]) (rest := []) hx hb hml hown hts hK hZ hA (c_X4_leastOf l D aa cI cZ cJ tR tU a1 t47 _ h) (cwV 1 hts gX9_part_X4_leastOf rfl rfl rfl hd_X4_leastOf ⟨Nat.le_of_ble_eq_true rfl, Nat.le_of_ble_eq_true rfl⟩) 9 rfl rfl rfl rfl (Nat.le_of_ble_eq_true rfl) dX9_part_56 (fun r56 h => ?_)
      exact gg_iret hx hb hr hlk h dX9_part_59
    · have h := h.2.2 c23
      refine gg_sipush hx hb dX9_part_26 rfl ?_
      exact gg_iret hx hb hr hlk h dX9_part_29
  · have h := h.2.2 c8
    refine gg_sipush hx hb dX9_part_11 rfl ?_
    exact gg_iret hx hb hr hlk h dX9_part_14
abbrev rmX3_size : Room := { frames := 0, cells := 0, slots := 0, locals := 0 }
theorem iX3_size_X3 : ∀ w ∈ u_ws RX3 TX3 3, w ∈ wsX3_size := (fun _ h => List.mem_cons_of_mem _ (List.mem_append_right _ h))
theorem hd_X3_size : (yX3_size.cls = RX3 ∧ yX3_size.cls ≠ "java/lang/invoke/MethodHandle" ∧ yX3_size.cls ≠ "java/lang/invoke/VarHandle" ∧ (parseMethodDescriptor yX3_size.desc).map (fun d => d.parameters.length) = some 0) := by decide +kernel
set_option maxRecDepth 100000 in
set_option maxHeartbeats 4000000 in
theorem c_X3_size (l : Launch) (D : va_G) (aa : Nat → Nat) (cI cZ cJ : ClassId) (tR tU : Nat) (σ : xSt) (Post : Int → Prop) (h : wp_X3_size σ Post) : MI l D (tyL cI cZ cJ) (cX aa cI cZ cJ) tR tU yX3_size wsX3_size rmX3_size [.ref (aa 15)] σ (fun r9 σ9 => σ9 = σ ∧ Post r9) := by
  refine mi_of (cc := cX3_size) (maxL := 1) (ret := (some .int)) (by decide) rfl (Nat.le_of_ble_eq_true rfl) ?_
  intro p e s m args below meth c A hF
  obtain ⟨hx, hb, hr, hml, hown, hts, hlk, hK, hZ, hA⟩ := hF
  have hown : s.vm.findClass RX3 = some m.cls := hown
  delta wp_X3_size at h
  refine gg_lv (lv' := [(0, .ref (aa 15))]) [0] rfl ?_
  refine gg_aload_n hx hb 0 rfl rfl dX3_size_0 ?_
  refine gg_get (C := RX3) (T := TX3) (N := 3) hx hb hts hown hK iX3_size_X3 15 rfl rfl 2 (by decide) (List.mem_of_getElem? (i := 1) rfl) rfl dX3_size_1 ?_
  exact gg_iret hx hb hr hlk ⟨rfl, h⟩ dX3_size_4
abbrev rmX9_hull : Room := { frames := 6, cells := 0, slots := 0, locals := 131 }
theorem iX9_hull_X9 : ∀ w ∈ u_ws RX9 TX9 9, w ∈ wsX9_hull := (fun _ h => List.mem_cons_of_mem _ (List.mem_append_left _ (List.mem_append_left _ (List.mem_append_right _ h))))
theorem hd_X9_hull : (yX9_hull.cls = RX9 ∧ yX9_hull.cls ≠ "java/lang/invoke/MethodHandle" ∧ yX9_hull.cls ≠ "java/lang/invoke/VarHandle" ∧ (parseMethodDescriptor yX9_hull.desc).map (fun d => d.parameters.length) = some 0) := by decide +kernel
set_option maxRecDepth 100000 in
set_option maxHeartbeats 4000000 in
theorem c_X9_hull (l : Launch) (D : va_G) (aa : Nat → Nat) (cI cZ cJ : ClassId) (tR tU : Nat) (σ : xSt) (Post : Int → xSt → Prop) (h : wp_X9_hull σ Post) : MI l D (tyL cI cZ cJ) (cX aa cI cZ cJ) tR tU yX9_hull wsX9_hull rmX9_hull [.ref (aa 0)] σ Post := by
  refine mi_of (cc := cX9_hull) (maxL := 1) (ret := (some .int)) (by decide) rfl (Nat.le_of_ble_eq_true rfl) ?_
  intro p e s m args below meth c A hF
  obtain ⟨hx, hb, hr, hml, hown, hts, hlk, hK, hZ, hA⟩ := hF
  have hown : s.vm.findClass RX9 = some m.cls := hown
  delta wp_X9_hull at h
  refine gg_lv (lv' := [(0, .ref (aa 0))]) [0] rfl ?_
  refine gg_aload_n hx hb 0 rfl rfl dX9_hull_0 ?_
  refine gg_get (C := RX9) (T := TX9) (N := 9) hx hb hts hown hK iX9_hull_X9 0 rfl rfl 5 (by decide) (List.mem_of_getElem? (i := 1) rfl) rfl dX9_hull_1 ?_
  refine gg_aload_n hx hb 0 rfl rfl dX9_hull_4 ?_
  refine gg_get (C := RX9) (T := TX9) (N := 9) hx hb hts hown hK iX9_hull_X9 0 rfl rfl 2 (by decide) (List.mem_of_getElem? (i := 2) rfl) rfl dX9_hull_5 ?_
  refine gg_callVv (As := [.ref (aa 7)]) (rest := []) hx hb hml hown hts hK hZ hA (c_X3_wrap l D aa cI cZ cJ tR tU σ _ h) (cwV 1 hts gX9_hull_X3_wrap rfl rfl rfl hd_X3_wrap ⟨Nat.le_of_ble_eq_true rfl, Nat.le_of_ble_eq_true rfl⟩) 15 rfl rfl rfl rfl (Nat.le_of_ble_eq_true rfl) dX9_hull_8 (fun t8 h => ?_)
  refine gg_aload_n hx hb 0 rfl rfl dX9_hull_11 ?_
  refine gg_get (C := RX9) (T := TX9) (N := 9) hx hb hts hown hK iX9_hull_X9 0 rfl rfl 5 (by decide) (List.mem_of_getElem? (i := 1) rfl) rfl dX9_hull_12 ?_
  refine gg_callVip (As := []) (rest := []) hx hb hml hown hts hK hZ hA (c_X3_size l D aa cI cZ cJ tR tU t8 _ h) (cwV 0 hts gX9_hull_X3_size rfl rfl rfl hd_X3_size ⟨Nat.le_of_ble_eq_true rfl, Nat.le_of_ble_eq_true rfl⟩) 15 rfl rfl rfl rfl (Nat.le_of_ble_eq_true rfl) dX9_hull_15 (fun r15 h => ?_)
  exact gg_iret hx hb hr hlk h dX9_hull_18
abbrev rmX3_fieldOf : Room := { frames := 1, cells := 0, slots := 0, locals := 22 }
theorem iX3_fieldOf_X3 : ∀ w ∈ u_ws RX3 TX3 3, w ∈ wsX3_fieldOf := (fun _ h => List.mem_cons_of_mem _ (List.mem_append_left _ (List.mem_append_right _ h)))
theorem hd_X3_fieldOf : (yX3_fieldOf.cls = RX3 ∧ yX3_fieldOf.cls ≠ "java/lang/invoke/MethodHandle" ∧ yX3_fieldOf.cls ≠ "java/lang/invoke/VarHandle" ∧ (parseMethodDescriptor yX3_fieldOf.desc).map (fun d => d.parameters.length) = some 2) := by decide +kernel
set_option maxRecDepth 100000 in
set_option maxHeartbeats 4000000 in
theorem c_X3_fieldOf (l : Launch) (D : va_G) (aa : Nat → Nat) (cI cZ cJ : ClassId) (tR tU : Nat) (a2 : Int) (σ : xSt) (Post : Int → Prop) (h : wp_X3_fieldOf a2 σ Post) : MI l D (tyL cI cZ cJ) (cX aa cI cZ cJ) tR tU yX3_fieldOf wsX3_fieldOf rmX3_fieldOf [.ref (aa 15), .ref (aa 7), .int (xI a2)] σ (fun r9 σ9 => σ9 = σ ∧ Post r9) := by
  refine mi_of (cc := cX3_fieldOf) (maxL := 3) (ret := (some .int)) (by decide) rfl (Nat.le_of_ble_eq_true rfl) ?_
  intro p e s m args below meth c A hF
  obtain ⟨hx, hb, hr, hml, hown, hts, hlk, hK, hZ, hA⟩ := hF
  have hown : s.vm.findClass RX3 = some m.cls := hown
  delta wp_X3_fieldOf at h
  refine gg_lv (lv' := [(0, .ref (aa 15)), (1, .ref (aa 7)), (2, .int (xI a2))]) [0, 1, 2] rfl ?_
  refine gg_iload_n hx hb 2 rfl rfl dX3_fieldOf_0 ?_
  refine gg_if_lt (tgt := 31) hx hb h.1 dX3_fieldOf_1 rfl (fun c1 => ?_) (fun c1 => ?_)
  · have h := h.2.1 c1
    refine gg_sipush hx hb dX3_fieldOf_31 rfl ?_
    exact gg_iret hx hb hr hlk ⟨rfl, h⟩ dX3_fieldOf_34
  · have h := h.2.2 c1
    refine gg_iload_n hx hb 2 rfl rfl dX3_fieldOf_4 ?_
    refine gg_aload_n hx hb 0 rfl rfl dX3_fieldOf_5 ?_
    refine gg_get (C := RX3) (T := TX3) (N := 3) hx hb hts hown hK iX3_fieldOf_X3 15 rfl rfl 2 (by decide) (List.mem_of_getElem? (i := 1) rfl) rfl dX3_fieldOf_6 ?_
    refine gg_icmp_ge (tgt := 31) hx hb h.1 h.2.1 dX3_fieldOf_9 rfl (fun c9 => ?_) (fun c9 => ?_)
    · have h := h.2.2.1 c9
      refine gg_sipush hx hb dX3_fieldOf_31 rfl ?_
      exact gg_iret hx hb hr hlk ⟨rfl, h⟩ dX3_fieldOf_34
    · have h := h.2.2.2 c9
      refine gg_aload_n hx hb 1 rfl rfl dX3_fieldOf_12 ?_
      refine gg_aload_n hx hb 0 rfl rfl dX3_fieldOf_13 ?_
      refine gg_get (C := RX3) (T := TX3) (N := 3) hx hb hts hown hK iX3_fieldOf_X3 15 rfl rfl 0 (by decide) (List.mem_of_getElem? (i := 2) rfl) rfl dX3_fieldOf_14 ?_
      refine gg_iload_n hx hb 2 rfl rfl dX3_fieldOf_17 ?_
      refine gg_iald hx hb hK 16 0 rfl rfl (by decide) h.1 dX3_fieldOf_18 ?_
      have h := h.2
      refine gg_aload_n hx hb 0 rfl rfl dX3_fieldOf_19 ?_
      refine gg_get (C := RX3) (T := TX3) (N := 3) hx hb hts hown hK iX3_fieldOf_X3 15 rfl rfl 1 (by decide) (List.mem_of_getElem? (i := 3) rfl) rfl dX3_fieldOf_20 ?_
      refine gg_iload_n hx hb 2 rfl rfl dX3_fieldOf_23 ?_
      refine gg_iald hx hb hK 17 0 rfl rfl (by decide) h.1 dX3_fieldOf_24 ?_
      have h := h.2
      refine gg_callVip (As := [.int (xI (σ 16 (a2).toNat)), .int (xI (σ 17 (a2).toNat))]) (rest := []) hx hb hml hown hts hK hZ hA (c_X2_fieldAt l D aa cI cZ cJ tR tU (σ 16 (a2).toNat) (σ 17 (a2).toNat) σ _ h) (cwV 2 hts gX3_fieldOf_X2_fieldAt rfl rfl rfl hd_X2_fieldAt ⟨Nat.le_of_ble_eq_true rfl, Nat.le_of_ble_eq_true rfl⟩) 7 rfl rfl rfl rfl (Nat.le_of_ble_eq_true rfl) dX3_fieldOf_25 (fun r25 h => ?_)
      refine gg_goto (tgt := 34) hx hb dX3_fieldOf_28 rfl ?_
      exact gg_iret hx hb hr hlk ⟨rfl, h⟩ dX3_fieldOf_34
abbrev rmX9_corner : Room := { frames := 6, cells := 0, slots := 0, locals := 131 }
theorem iX9_corner_X9 : ∀ w ∈ u_ws RX9 TX9 9, w ∈ wsX9_corner := (fun _ h => List.mem_cons_of_mem _ (List.mem_append_left _ (List.mem_append_left _ (List.mem_append_right _ h))))
theorem hd_X9_corner : (yX9_corner.cls = RX9 ∧ yX9_corner.cls ≠ "java/lang/invoke/MethodHandle" ∧ yX9_corner.cls ≠ "java/lang/invoke/VarHandle" ∧ (parseMethodDescriptor yX9_corner.desc).map (fun d => d.parameters.length) = some 1) := by decide +kernel
set_option maxRecDepth 100000 in
set_option maxHeartbeats 4000000 in
theorem c_X9_corner (l : Launch) (D : va_G) (aa : Nat → Nat) (cI cZ cJ : ClassId) (tR tU : Nat) (a1 : Int) (σ : xSt) (Post : Int → xSt → Prop) (h : wp_X9_corner a1 σ Post) : MI l D (tyL cI cZ cJ) (cX aa cI cZ cJ) tR tU yX9_corner wsX9_corner rmX9_corner [.ref (aa 0), .int (xI a1)] σ Post := by
  refine mi_of (cc := cX9_corner) (maxL := 2) (ret := (some .int)) (by decide) rfl (Nat.le_of_ble_eq_true rfl) ?_
  intro p e s m args below meth c A hF
  obtain ⟨hx, hb, hr, hml, hown, hts, hlk, hK, hZ, hA⟩ := hF
  have hown : s.vm.findClass RX9 = some m.cls := hown
  delta wp_X9_corner at h
  refine gg_lv (lv' := [(0, .ref (aa 0)), (1, .int (xI a1))]) [0, 1] rfl ?_
  refine gg_aload_n hx hb 0 rfl rfl dX9_corner_0 ?_
  refine gg_get (C := RX9) (T := TX9) (N := 9) hx hb hts hown hK iX9_corner_X9 0 rfl rfl 5 (by decide) (List.mem_of_getElem? (i := 1) rfl) rfl dX9_corner_1 ?_
  refine gg_aload_n hx hb 0 rfl rfl dX9_corner_4 ?_
  refine gg_get (C := RX9) (T := TX9) (N := 9) hx hb hts hown hK iX9_corner_X9 0 rfl rfl 2 (by decide) (List.mem_of_getElem? (i := 2) rfl) rfl dX9_corner_5 ?_
  refine gg_callVv (As := [.ref (aa 7)]) (rest := []) hx hb hml hown hts hK hZ hA (c_X3_wrap l D aa cI cZ cJ tR tU σ _ h) (cwV 1 hts gX9_corner_X3_wrap rfl rfl rfl hd_X3_wrap ⟨Nat.le_of_ble_eq_true rfl, Nat.le_of_ble_eq_true rfl⟩) 15 rfl rfl rfl rfl (Nat.le_of_ble_eq_true rfl) dX9_corner_8 (fun t8 h => ?_)
  refine gg_iload_n hx hb 1 rfl rfl dX9_corner_11 ?_
  refine gg_if_lt (tgt := 41) hx hb h.1 dX9_corner_12 rfl (fun c12 => ?_) (fun c12 => ?_)
  · have h := h.2.1 c12
    refine gg_sipush hx hb dX9_corner_41 rfl ?_
    exact gg_iret hx hb hr hlk h dX9_corner_44
  · have h := h.2.2 c12
    refine gg_iload_n hx hb 1 rfl rfl dX9_corner_15 ?_
    refine gg_aload_n hx hb 0 rfl rfl dX9_corner_16 ?_
    refine gg_get (C := RX9) (T := TX9) (N := 9) hx hb hts hown hK iX9_corner_X9 0 rfl rfl 5 (by decide) (List.mem_of_getElem? (i := 1) rfl) rfl dX9_corner_17 ?_
    refine gg_callVip (As := []) (rest := [.int (xI a1)]) hx hb hml hown hts hK hZ hA (c_X3_size l D aa cI cZ cJ tR tU t8 _ h) (cwV 0 hts gX9_corner_X3_size rfl rfl rfl hd_X3_size ⟨Nat.le_of_ble_eq_true rfl, Nat.le_of_ble_eq_true rfl⟩) 15 rfl rfl rfl rfl (Nat.le_of_ble_eq_true rfl) dX9_corner_20 (fun r20 h => ?_)
    refine gg_icmp_ge (tgt := 41) hx hb h.1 h.2.1 dX9_corner_23 rfl (fun c23 => ?_) (fun c23 => ?_)
    · have h := h.2.2.1 c23
      refine gg_sipush hx hb dX9_corner_41 rfl ?_
      exact gg_iret hx hb hr hlk h dX9_corner_44
    · have h := h.2.2.2 c23
      refine gg_aload_n hx hb 0 rfl rfl dX9_corner_26 ?_
      refine gg_get (C := RX9) (T := TX9) (N := 9) hx hb hts hown hK iX9_corner_X9 0 rfl rfl 5 (by decide) (List.mem_of_getElem? (i := 1) rfl) rfl dX9_corner_27 ?_
      refine gg_aload_n hx hb 0 rfl rfl dX9_corner_30 ?_
      refine gg_get (C := RX9) (T := TX9) (N := 9) hx hb hts hown hK iX9_corner_X9 0 rfl rfl 2 (by decide) (List.mem_of_getElem? (i := 2) rfl) rfl dX9_corner_31 ?_
      refine gg_iload_n hx hb 1 rfl rfl dX9_corner_34 ?_
      refine gg_callVip (As := [.ref (aa 7), .int (xI a1)]) (rest := []) hx hb hml hown hts hK hZ hA (c_X3_fieldOf l D aa cI cZ cJ tR tU a1 t8 _ h) (cwV 2 hts gX9_corner_X3_fieldOf rfl rfl rfl hd_X3_fieldOf ⟨Nat.le_of_ble_eq_true rfl, Nat.le_of_ble_eq_true rfl⟩) 15 rfl rfl rfl rfl (Nat.le_of_ble_eq_true rfl) dX9_corner_35 (fun r35 h => ?_)
      refine gg_goto (tgt := 44) hx hb dX9_corner_38 rfl ?_
      exact gg_iret hx hb hr hlk h dX9_corner_44
abbrev rmX0_depthOf : Room := { frames := 4, cells := 0, slots := 0, locals := 84 }
theorem hd_X0_depthOf : (yX0_depthOf.cls = RX0 ∧ yX0_depthOf.cls ≠ "java/lang/invoke/MethodHandle" ∧ yX0_depthOf.cls ≠ "java/lang/invoke/VarHandle" ∧ (parseMethodDescriptor yX0_depthOf.desc).map (fun d => d.parameters.length) = some 2) := by decide +kernel
set_option maxRecDepth 100000 in
set_option maxHeartbeats 4000000 in
theorem c_X0_depthOf (l : Launch) (D : va_G) (aa : Nat → Nat) (cI cZ cJ : ClassId) (tR tU : Nat) (a2 : Int) (σ : xSt) (Post : Int → Prop) (h : wp_X0_depthOf a2 σ Post) : MI l D (tyL cI cZ cJ) (cX aa cI cZ cJ) tR tU yX0_depthOf wsX0_depthOf rmX0_depthOf [.ref (aa 18), .ref (aa 7), .int (xI a2)] σ (fun r9 σ9 => σ9 = σ ∧ Post r9) := by
  refine mi_of (cc := cX0_depthOf) (maxL := 12) (ret := (some .int)) (by decide) rfl (Nat.le_of_ble_eq_true rfl) ?_
  intro p e s m args below meth c A hF
  obtain ⟨hx, hb, hr, hml, hown, hts, hlk, hK, hZ, hA⟩ := hF
  have hown : s.vm.findClass RX0 = some m.cls := hown
  delta wp_X0_depthOf at h
  refine gg_lv (lv' := [(0, .ref (aa 18)), (1, .ref (aa 7)), (2, .int (xI a2))]) [0, 1, 2] rfl ?_
  refine gg_aload_n hx hb 1 rfl rfl dX0_depthOf_0 ?_
  refine gg_iload_n hx hb 2 rfl rfl dX0_depthOf_1 ?_
  refine gg_callVip (As := [.int (xI a2)]) (rest := []) hx hb hml hown hts hK hZ hA (c_X2_holds l D aa cI cZ cJ tR tU a2 σ _ h) (cwV 1 hts gX0_depthOf_X2_holds rfl rfl rfl hd_X2_holds ⟨Nat.le_of_ble_eq_true rfl, Nat.le_of_ble_eq_true rfl⟩) 7 rfl rfl rfl rfl (Nat.le_of_ble_eq_true rfl) dX0_depthOf_2 (fun r2 h => ?_)
  refine gg_if_ne (tgt := 10) hx hb h.1 dX0_depthOf_5 rfl (fun c5 => ?_) (fun c5 => ?_)
  · have h := h.2.1 c5
    refine gg_aload_n hx hb 1 rfl rfl dX0_depthOf_10 ?_
    refine gg_iload_n hx hb 2 rfl rfl dX0_depthOf_11 ?_
    refine gg_callVip (As := [.int (xI a2)]) (rest := []) hx hb hml hown hts hK hZ hA (c_X2_columnOf l D aa cI cZ cJ tR tU a2 σ _ h) (cwV 1 hts gX0_depthOf_X2_columnOf rfl rfl rfl hd_X2_columnOf ⟨Nat.le_of_ble_eq_true rfl, Nat.le_of_ble_eq_true rfl⟩) 7 rfl rfl rfl rfl (Nat.le_of_ble_eq_true rfl) dX0_depthOf_12 (fun r12 h => ?_)
    refine gg_istore_n (lv' := [(3, .int (xI r12)), (0, .ref (aa 18)), (1, .ref (aa 7)), (2, .int (xI a2))]) hx hb rfl (by decide) rfl dX0_depthOf_15 ?_
    refine gg_aload_n hx hb 2 rfl rfl dX0_depthOf_16 ?_
    refine gg_iload_n hx hb 3 rfl rfl dX0_depthOf_17 ?_
    refine gg_callVip (As := [.int (xI a2)]) (rest := []) hx hb hml hown hts hK hZ hA (c_X2_lineOf l D aa cI cZ cJ tR tU a2 σ _ h) (cwV 1 hts gX0_depthOf_X2_lineOf rfl rfl rfl hd_X2_lineOf ⟨Nat.le_of_ble_eq_true rfl, Nat.le_of_ble_eq_true rfl⟩) 7 rfl rfl rfl rfl (Nat.le_of_ble_eq_true rfl) dX0_depthOf_18 (fun r18 h => ?_)
    refine gg_istore (lv' := [(4, .int (xI r18)), (3, .int (xI r12)), (0, .ref (aa 18)), (1, .ref (aa 7)), (2, .int (xI a2))]) hx hb (by decide) rfl dX0_depthOf_21 ?_
    refine gg_iload_n hx hb 1 rfl rfl dX0_depthOf_23 ?_
    refine gg_iconst hx hb dX0_depthOf_24 ?_
    refine gg_iadd hx hb dX0_depthOf_25 ?_
    refine gg_aload_n hx hb 3 rfl rfl dX0_depthOf_26 ?_
    refine gg_callVip (As := []) (rest := [.int (xI (r12 + 1))]) hx hb hml hown hts hK hZ hA (c_X2_width l D aa cI cZ cJ tR tU σ _ h) (cwV 0 hts gX0_depthOf_X2_width rfl rfl rfl hd_X2_width ⟨Nat.le_of_ble_eq_true rfl, Nat.le_of_ble_eq_true rfl⟩) 7 rfl rfl rfl rfl (Nat.le_of_ble_eq_true rfl) dX0_depthOf_27 (fun r27 h => ?_)
    refine gg_iload_n hx hb 1 rfl rfl dX0_depthOf_30 ?_
    refine gg_isub hx hb dX0_depthOf_31 ?_
    refine gg_mmin hx hb hml hown hts h.1 h.2.1 (List.mem_of_getElem? (i := 1) rfl) (List.mem_of_getElem? (i := 2) rfl) (List.mem_of_getElem? (i := 3) rfl) (List.mem_of_getElem? (i := 4) rfl) (Nat.le_of_ble_eq_true rfl) (Nat.le_of_ble_eq_true rfl) dX0_depthOf_32 ?_
    have h := h.2.2
    refine gg_nm (fun z5_35 e35 => ?_)
    have h := h z5_35 e35
    refine gg_istore (lv' := [(5, .int (xI z5_35)), (4, .int (xI r18)), (3, .int (xI r12)), (0, .ref (aa 18)), (1, .ref (aa 7)), (2, .int (xI a2))]) hx hb (by decide) rfl dX0_depthOf_35 ?_
    refine gg_iload hx hb 1 rfl dX0_depthOf_37 ?_
    refine gg_iconst hx hb dX0_depthOf_39 ?_
    refine gg_iadd hx hb dX0_depthOf_40 ?_
    refine gg_aload_n hx hb 4 rfl rfl dX0_depthOf_41 ?_
    refine gg_callVip (As := []) (rest := [.int (xI (r18 + 1))]) hx hb hml hown hts hK hZ hA (c_X2_height l D aa cI cZ cJ tR tU σ _ h) (cwV 0 hts gX0_depthOf_X2_height rfl rfl rfl hd_X2_height ⟨Nat.le_of_ble_eq_true rfl, Nat.le_of_ble_eq_true rfl⟩) 7 rfl rfl rfl rfl (Nat.le_of_ble_eq_true rfl) dX0_depthOf_42 (fun r42 h => ?_)
    refine gg_iload hx hb 1 rfl dX0_depthOf_45 ?_
    refine gg_isub hx hb dX0_depthOf_47 ?_
    refine gg_mmin hx hb hml hown hts h.1 h.2.1 (List.mem_of_getElem? (i := 1) rfl) (List.mem_of_getElem? (i := 2) rfl) (List.mem_of_getElem? (i := 3) rfl) (List.mem_of_getElem? (i := 4) rfl) (Nat.le_of_ble_eq_true rfl) (Nat.le_of_ble_eq_true rfl) dX0_depthOf_48 ?_
    have h := h.2.2
    refine gg_nm (fun z6_51 e51 => ?_)
    have h := h z6_51 e51
    refine gg_istore (lv' := [(6, .int (xI z6_51)), (5, .int (xI z5_35)), (4, .int (xI r18)), (3, .int (xI r12)), (0, .ref (aa 18)), (1, .ref (aa 7)), (2, .int (xI a2))]) hx hb (by decide) rfl dX0_depthOf_51 ?_
    refine gg_iload hx hb 1 rfl dX0_depthOf_53 ?_
    refine gg_iload hx hb 0 rfl dX0_depthOf_55 ?_
    refine gg_mmin hx hb hml hown hts h.1 h.2.1 (List.mem_of_getElem? (i := 1) rfl) (List.mem_of_getElem? (i := 2) rfl) (List.mem_of_getElem? (i := 3) rfl) (List.mem_of_getElem? (i := 4) rfl) (Nat.le_of_ble_eq_true rfl) (Nat.le_of_ble_eq_true rfl) dX0_depthOf_57 ?_
    have h := h.2.2
    refine gg_istore (lv' := [(7, .int (xI (xMin z5_35 z6_51))), (6, .int (xI z6_51)), (5, .int (xI z5_35)), (4, .int (xI r18)), (3, .int (xI r12)), (0, .ref (aa 18)), (1, .ref (aa 7)), (2, .int (xI a2))]) hx hb (by decide) rfl dX0_depthOf_60 ?_
    refine gg_iload hx hb 0 rfl dX0_depthOf_62 ?_
    refine gg_iload hx hb 0 rfl dX0_depthOf_64 ?_
    refine gg_imul hx hb dX0_depthOf_66 ?_
    refine gg_nm (fun z8_67 e67 => ?_)
    have h := h z8_67 e67
    refine gg_istore (lv' := [(8, .int (xI z8_67)), (7, .int (xI (xMin z5_35 z6_51))), (6, .int (xI z6_51)), (5, .int (xI z5_35)), (4, .int (xI r18)), (3, .int (xI r12)), (0, .ref (aa 18)), (1, .ref (aa 7)), (2, .int (xI a2))]) hx hb (by decide) rfl dX0_depthOf_67 ?_
    refine gg_iconst hx hb dX0_depthOf_69 ?_
    refine gg_iload hx hb 1 rfl dX0_depthOf_70 ?_
    refine gg_isub hx hb dX0_depthOf_72 ?_
    refine gg_istore (lv' := [(9, .int (xI (1 - (xMin z5_35 z6_51)))), (8, .int (xI z8_67)), (7, .int (xI (xMin z5_35 z6_51))), (6, .int (xI z6_51)), (5, .int (xI z5_35)), (4, .int (xI r18)), (3, .int (xI r12)), (0, .ref (aa 18)), (1, .ref (aa 7)), (2, .int (xI a2))]) hx hb (by decide) rfl dX0_depthOf_73 ?_
    have h := h (fun (x8_75 x9_75 : Int) => GG p l e rmX0_depthOf s m args below meth c (QI below D (cX aa cI cZ cJ) A args s (fun r9 σ9 => σ9 = σ ∧ Post r9)) A D (cX aa cI cZ cJ) 12 σ 75 [(1, .ref (aa 7)), (3, .int (xI r12)), (4, .int (xI r18)), (7, .int (xI (xMin z5_35 z6_51))), (8, .int (xI x8_75)), (9, .int (xI x9_75))] [])
    have h := h (by
      intro x8_75 x9_75 h
      refine gg_iload hx hb 5 rfl dX0_depthOf_75 ?_
      refine gg_iload hx hb 3 rfl dX0_depthOf_77 ?_
      refine gg_icmp_ge (tgt := 147) hx hb h.1 h.2.1 dX0_depthOf_79 rfl (fun c79 => ?_) (fun c79 => ?_)
      · have h := h.2.2.1 c79
        refine gg_iload hx hb 4 rfl dX0_depthOf_147 ?_
        exact gg_iret hx hb hr hlk ⟨rfl, h⟩ dX0_depthOf_149
      · have h := h.2.2.2 c79
        refine gg_iconst hx hb dX0_depthOf_82 ?_
        refine gg_iload hx hb 3 rfl dX0_depthOf_83 ?_
        refine gg_isub hx hb dX0_depthOf_85 ?_
        refine gg_istore (lv' := [(10, .int (xI (1 - (xMin z5_35 z6_51)))), (1, .ref (aa 7)), (3, .int (xI r12)), (4, .int (xI r18)), (7, .int (xI (xMin z5_35 z6_51))), (8, .int (xI x8_75)), (9, .int (xI x9_75))]) hx hb (by decide) rfl dX0_depthOf_86 ?_
        have h := h (fun (x8_88 x10_88 : Int) => GG p l e rmX0_depthOf s m args below meth c (QI below D (cX aa cI cZ cJ) A args s (fun r9 σ9 => σ9 = σ ∧ Post r9)) A D (cX aa cI cZ cJ) 12 σ 88 [(1, .ref (aa 7)), (3, .int (xI r12)), (4, .int (xI r18)), (7, .int (xI (xMin z5_35 z6_51))), (8, .int (xI x8_88)), (9, .int (xI x9_75)), (10, .int (xI x10_88))] [])
        have h := h (by
          intro x8_88 x10_88 h
          refine gg_iload hx hb 6 rfl dX0_depthOf_88 ?_
          refine gg_iload hx hb 3 rfl dX0_depthOf_90 ?_
          refine gg_icmp_ge (tgt := 141) hx hb h.1 h.2.1 dX0_depthOf_92 rfl (fun c92 => ?_) (fun c92 => ?_)
          · have h := h.2.2.1 c92
            refine gg_iinc (lv' := [(9, .int (xI (x9_75 + 1))), (1, .ref (aa 7)), (3, .int (xI r12)), (4, .int (xI r18)), (7, .int (xI (xMin z5_35 z6_51))), (8, .int (xI x8_88)), (10, .int (xI x10_88))]) hx hb 5 rfl (by decide) rfl dX0_depthOf_141 ?_
            refine gg_goto (tgt := 75) hx hb dX0_depthOf_144 rfl ?_
            refine gg_lv [1, 2, 3, 4, 5, 0] rfl ?_
            exact h
          · have h := h.2.2.2 c92
            refine gg_iload hx hb 6 rfl dX0_depthOf_95 ?_
            refine gg_iload hx hb 6 rfl dX0_depthOf_97 ?_
            refine gg_imul hx hb dX0_depthOf_99 ?_
            refine gg_iload hx hb 5 rfl dX0_depthOf_100 ?_
            refine gg_iload hx hb 5 rfl dX0_depthOf_102 ?_
            refine gg_imul hx hb dX0_depthOf_104 ?_
            refine gg_iadd hx hb dX0_depthOf_105 ?_
            refine gg_nm (fun z11_106 e106 => ?_)
            have h := h z11_106 e106
            refine gg_istore (lv' := [(11, .int (xI z11_106)), (1, .ref (aa 7)), (3, .int (xI r12)), (4, .int (xI r18)), (7, .int (xI (xMin z5_35 z6_51))), (8, .int (xI x8_88)), (9, .int (xI x9_75)), (10, .int (xI x10_88))]) hx hb (by decide) rfl dX0_depthOf_106 ?_
            refine gg_iload hx hb 0 rfl dX0_depthOf_108 ?_
            refine gg_iload hx hb 5 rfl dX0_depthOf_110 ?_
            refine gg_icmp_ge (tgt := 135) hx hb h.1 h.2.1 dX0_depthOf_112 rfl (fun c112 => ?_) (fun c112 => ?_)
            · have h := h.2.2.1 c112
              refine gg_iinc (lv' := [(10, .int (xI (x10_88 + 1))), (11, .int (xI z11_106)), (1, .ref (aa 7)), (3, .int (xI r12)), (4, .int (xI r18)), (7, .int (xI (xMin z5_35 z6_51))), (8, .int (xI x8_88)), (9, .int (xI x9_75))]) hx hb 7 rfl (by decide) rfl dX0_depthOf_135 ?_
              refine gg_goto (tgt := 88) hx hb dX0_depthOf_138 rfl ?_
              refine gg_lv [2, 3, 4, 5, 6, 7, 0] rfl ?_
              exact h
            · have h := h.2.2.2 c112
              refine gg_aload_n hx hb 1 rfl rfl dX0_depthOf_115 ?_
              refine gg_iload_n hx hb 2 rfl rfl dX0_depthOf_116 ?_
              refine gg_iload hx hb 7 rfl dX0_depthOf_117 ?_
              refine gg_iadd hx hb dX0_depthOf_119 ?_
              refine gg_iload hx hb 3 rfl dX0_depthOf_120 ?_
              refine gg_iload hx hb 6 rfl dX0_depthOf_122 ?_
              refine gg_iadd hx hb dX0_depthOf_124 ?_
              refine gg_callVip (As := [.int (xI (r12 + x10_88)), .int (xI (r18 + x9_75))]) (rest := []) hx hb hml hown hts hK hZ hA (c_X2_holdsAt l D aa cI cZ cJ tR tU (r12 + x10_88) (r18 + x9_75) σ _ h) (cwV 2 hts gX0_depthOf_X2_holdsAt rfl rfl rfl hd_X2_holdsAt ⟨Nat.le_of_ble_eq_true rfl, Nat.le_of_ble_eq_true rfl⟩) 7 rfl rfl rfl rfl (Nat.le_of_ble_eq_true rfl) dX0_depthOf_125 (fun r125 h => ?_)
              refine gg_if_ne (tgt := 135) hx hb h.1 dX0_depthOf_128 rfl (fun c128 => ?_) (fun c128 => ?_)
              · have h := h.2.1 c128
                refine gg_iinc (lv' := [(10, .int (xI (x10_88 + 1))), (11, .int (xI z11_106)), (1, .ref (aa 7)), (3, .int (xI r12)), (4, .int (xI r18)), (7, .int (xI (xMin z5_35 z6_51))), (8, .int (xI x8_88)), (9, .int (xI x9_75))]) hx hb 7 rfl (by decide) rfl dX0_depthOf_135 ?_
                refine gg_goto (tgt := 88) hx hb dX0_depthOf_138 rfl ?_
                refine gg_lv [2, 3, 4, 5, 6, 7, 0] rfl ?_
                exact h
              · have h := h.2.2 c128
                refine gg_iload hx hb 0 rfl dX0_depthOf_131 ?_
                refine gg_istore (lv' := [(8, .int (xI z11_106)), (11, .int (xI z11_106)), (1, .ref (aa 7)), (3, .int (xI r12)), (4, .int (xI r18)), (7, .int (xI (xMin z5_35 z6_51))), (9, .int (xI x9_75)), (10, .int (xI x10_88))]) hx hb (by decide) rfl dX0_depthOf_133 ?_
                refine gg_iinc (lv' := [(10, .int (xI (x10_88 + 1))), (8, .int (xI z11_106)), (11, .int (xI z11_106)), (1, .ref (aa 7)), (3, .int (xI r12)), (4, .int (xI r18)), (7, .int (xI (xMin z5_35 z6_51))), (9, .int (xI x9_75))]) hx hb 7 rfl (by decide) rfl dX0_depthOf_135 ?_
                refine gg_goto (tgt := 88) hx hb dX0_depthOf_138 rfl ?_
                refine gg_lv [3, 4, 5, 6, 1, 7, 0] rfl ?_
                exact h)
        refine gg_lv [1, 2, 3, 4, 5, 6, 0] rfl ?_
        exact h)
    refine gg_lv [8, 6, 5, 2, 1, 0] rfl ?_
    exact h
  · have h := h.2.2 c5
    refine gg_iconst hx hb dX0_depthOf_8 ?_
    exact gg_iret hx hb hr hlk ⟨rfl, h⟩ dX0_depthOf_9
abbrev rmX9_deep : Room := { frames := 5, cells := 0, slots := 0, locals := 115 }
theorem iX9_deep_X9 : ∀ w ∈ u_ws RX9 TX9 9, w ∈ wsX9_deep := (fun _ h => List.mem_cons_of_mem _ (List.mem_append_left _ (List.mem_append_right _ h)))
theorem hd_X9_deep : (yX9_deep.cls = RX9 ∧ yX9_deep.cls ≠ "java/lang/invoke/MethodHandle" ∧ yX9_deep.cls ≠ "java/lang/invoke/VarHandle" ∧ (parseMethodDescriptor yX9_deep.desc).map (fun d => d.parameters.length) = some 1) := by decide +kernel
set_option maxRecDepth 100000 in
set_option maxHeartbeats 4000000 in
theorem c_X9_deep (l : Launch) (D : va_G) (aa : Nat → Nat) (cI cZ cJ : ClassId) (tR tU : Nat) (a1 : Int) (σ : xSt) (Post : Int → Prop) (h : wp_X9_deep a1 σ Post) : MI l D (tyL cI cZ cJ) (cX aa cI cZ cJ) tR tU yX9_deep wsX9_deep rmX9_deep [.ref (aa 0), .int (xI a1)] σ (fun r9 σ9 => σ9 = σ ∧ Post r9) := by
  refine mi_of (cc := cX9_deep) (maxL := 2) (ret := (some .int)) (by decide) rfl (Nat.le_of_ble_eq_true rfl) ?_
  intro p e s m args below meth c A hF
  obtain ⟨hx, hb, hr, hml, hown, hts, hlk, hK, hZ, hA⟩ := hF
  have hown : s.vm.findClass RX9 = some m.cls := hown
  delta wp_X9_deep at h
  refine gg_lv (lv' := [(0, .ref (aa 0)), (1, .int (xI a1))]) [0, 1] rfl ?_
  refine gg_aload_n hx hb 0 rfl rfl dX9_deep_0 ?_
  refine gg_get (C := RX9) (T := TX9) (N := 9) hx hb hts hown hK iX9_deep_X9 0 rfl rfl 2 (by decide) (List.mem_of_getElem? (i := 1) rfl) rfl dX9_deep_1 ?_
  refine gg_iload_n hx hb 1 rfl rfl dX9_deep_4 ?_
  refine gg_callVip (As := [.int (xI a1)]) (rest := []) hx hb hml hown hts hK hZ hA (c_X2_knows l D aa cI cZ cJ tR tU a1 σ _ h) (cwV 1 hts gX9_deep_X2_knows rfl rfl rfl hd_X2_knows ⟨Nat.le_of_ble_eq_true rfl, Nat.le_of_ble_eq_true rfl⟩) 7 rfl rfl rfl rfl (Nat.le_of_ble_eq_true rfl) dX9_deep_5 (fun r5 h => ?_)
  refine gg_if_eq (tgt := 26) hx hb h.1 dX9_deep_8 rfl (fun c8 => ?_) (fun c8 => ?_)
  · have h := h.2.1 c8
    refine gg_sipush hx hb dX9_deep_26 rfl ?_
    exact gg_iret hx hb hr hlk ⟨rfl, h⟩ dX9_deep_29
  · have h := h.2.2 c8
    refine gg_aload_n hx hb 0 rfl rfl dX9_deep_11 ?_
    refine gg_get (C := RX9) (T := TX9) (N := 9) hx hb hts hown hK iX9_deep_X9 0 rfl rfl 6 (by decide) (List.mem_of_getElem? (i := 2) rfl) rfl dX9_deep_12 ?_
    refine gg_aload_n hx hb 0 rfl rfl dX9_deep_15 ?_
    refine gg_get (C := RX9) (T := TX9) (N := 9) hx hb hts hown hK iX9_deep_X9 0 rfl rfl 2 (by decide) (List.mem_of_getElem? (i := 1) rfl) rfl dX9_deep_16 ?_
    refine gg_iload_n hx hb 1 rfl rfl dX9_deep_19 ?_
    refine gg_callVip (As := [.ref (aa 7), .int (xI a1)]) (rest := []) hx hb hml hown hts hK hZ hA (c_X0_depthOf l D aa cI cZ cJ tR tU a1 σ _ h) (cwV 2 hts gX9_deep_X0_depthOf rfl rfl rfl hd_X0_depthOf ⟨Nat.le_of_ble_eq_true rfl, Nat.le_of_ble_eq_true rfl⟩) 18 rfl rfl rfl rfl (Nat.le_of_ble_eq_true rfl) dX9_deep_20 (fun r20 h => ?_)
    refine gg_goto (tgt := 29) hx hb dX9_deep_23 rfl ?_
    exact gg_iret hx hb hr hlk ⟨rfl, h⟩ dX9_deep_29
abbrev rmX9_deepest : Room := { frames := 5, cells := 0, slots := 0, locals := 115 }
theorem iX9_deepest_X9 : ∀ w ∈ u_ws RX9 TX9 9, w ∈ wsX9_deepest := (fun _ h => List.mem_cons_of_mem _ (List.mem_append_left _ (List.mem_append_right _ h)))
theorem hd_X9_deepest : (yX9_deepest.cls = RX9 ∧ yX9_deepest.cls ≠ "java/lang/invoke/MethodHandle" ∧ yX9_deepest.cls ≠ "java/lang/invoke/VarHandle" ∧ (parseMethodDescriptor yX9_deepest.desc).map (fun d => d.parameters.length) = some 1) := by decide +kernel
set_option maxRecDepth 100000 in
set_option maxHeartbeats 4000000 in
theorem c_X9_deepest (l : Launch) (D : va_G) (aa : Nat → Nat) (cI cZ cJ : ClassId) (tR tU : Nat) (a1 : Int) (σ : xSt) (Post : Int → Prop) (h : wp_X9_deepest a1 σ Post) : MI l D (tyL cI cZ cJ) (cX aa cI cZ cJ) tR tU yX9_deepest wsX9_deepest rmX9_deepest [.ref (aa 0), .int (xI a1)] σ (fun r9 σ9 => σ9 = σ ∧ Post r9) := by
  refine mi_of (cc := cX9_deepest) (maxL := 6) (ret := (some .int)) (by decide) rfl (Nat.le_of_ble_eq_true rfl) ?_
  intro p e s m args below meth c A hF
  obtain ⟨hx, hb, hr, hml, hown, hts, hlk, hK, hZ, hA⟩ := hF
  have hown : s.vm.findClass RX9 = some m.cls := hown
  delta wp_X9_deepest at h
  refine gg_lv (lv' := [(0, .ref (aa 0)), (1, .int (xI a1))]) [0, 1] rfl ?_
  refine gg_iconst hx hb dX9_deepest_0 ?_
  refine gg_istore_n (lv' := [(2, .int (xI 0)), (0, .ref (aa 0)), (1, .int (xI a1))]) hx hb rfl (by decide) rfl dX9_deepest_1 ?_
  refine gg_sipush hx hb dX9_deepest_2 rfl ?_
  refine gg_istore_n (lv' := [(3, .int (xI (-999))), (2, .int (xI 0)), (0, .ref (aa 0)), (1, .int (xI a1))]) hx hb rfl (by decide) rfl dX9_deepest_5 ?_
  refine gg_iconst hx hb dX9_deepest_6 ?_
  refine gg_istore (lv' := [(4, .int (xI 0)), (3, .int (xI (-999))), (2, .int (xI 0)), (0, .ref (aa 0)), (1, .int (xI a1))]) hx hb (by decide) rfl dX9_deepest_7 ?_
  have h := h (fun (x2_9 x3_9 x4_9 : Int) => GG p l e rmX9_deepest s m args below meth c (QI below D (cX aa cI cZ cJ) A args s (fun r9 σ9 => σ9 = σ ∧ Post r9)) A D (cX aa cI cZ cJ) 6 σ 9 [(0, .ref (aa 0)), (1, .int (xI a1)), (2, .int (xI x2_9)), (3, .int (xI x3_9)), (4, .int (xI x4_9))] [])
  have h := h (by
    intro x2_9 x3_9 x4_9 h
    refine gg_iload hx hb 4 rfl dX9_deepest_9 ?_
    refine gg_aload_n hx hb 0 rfl rfl dX9_deepest_11 ?_
    refine gg_get (C := RX9) (T := TX9) (N := 9) hx hb hts hown hK iX9_deepest_X9 0 rfl rfl 2 (by decide) (List.mem_of_getElem? (i := 1) rfl) rfl dX9_deepest_12 ?_
    refine gg_callVip (As := []) (rest := [.int (xI x4_9)]) hx hb hml hown hts hK hZ hA (c_X2_fields l D aa cI cZ cJ tR tU σ _ h) (cwV 0 hts gX9_deepest_X2_fields rfl rfl rfl hd_X2_fields ⟨Nat.le_of_ble_eq_true rfl, Nat.le_of_ble_eq_true rfl⟩) 7 rfl rfl rfl rfl (Nat.le_of_ble_eq_true rfl) dX9_deepest_15 (fun r15 h => ?_)
    refine gg_icmp_ge (tgt := 54) hx hb h.1 h.2.1 dX9_deepest_18 rfl (fun c18 => ?_) (fun c18 => ?_)
    · have h := h.2.2.1 c18
      refine gg_iload_n hx hb 1 rfl rfl dX9_deepest_54 ?_
      refine gg_if_eq (tgt := 62) hx hb h.1 dX9_deepest_55 rfl (fun c55 => ?_) (fun c55 => ?_)
      · have h := h.2.1 c55
        refine gg_iload_n hx hb 2 rfl rfl dX9_deepest_62 ?_
        exact gg_iret hx hb hr hlk ⟨rfl, h⟩ dX9_deepest_63
      · have h := h.2.2 c55
        refine gg_iload_n hx hb 3 rfl rfl dX9_deepest_58 ?_
        refine gg_goto (tgt := 63) hx hb dX9_deepest_59 rfl ?_
        exact gg_iret hx hb hr hlk ⟨rfl, h⟩ dX9_deepest_63
    · have h := h.2.2.2 c18
      refine gg_aload_n hx hb 0 rfl rfl dX9_deepest_21 ?_
      refine gg_get (C := RX9) (T := TX9) (N := 9) hx hb hts hown hK iX9_deepest_X9 0 rfl rfl 6 (by decide) (List.mem_of_getElem? (i := 2) rfl) rfl dX9_deepest_22 ?_
      refine gg_aload_n hx hb 0 rfl rfl dX9_deepest_25 ?_
      refine gg_get (C := RX9) (T := TX9) (N := 9) hx hb hts hown hK iX9_deepest_X9 0 rfl rfl 2 (by decide) (List.mem_of_getElem? (i := 1) rfl) rfl dX9_deepest_26 ?_
      refine gg_iload hx hb 4 rfl dX9_deepest_29 ?_
      refine gg_callVip (As := [.ref (aa 7), .int (xI x4_9)]) (rest := []) hx hb hml hown hts hK hZ hA (c_X0_depthOf l D aa cI cZ cJ tR tU x4_9 σ _ h) (cwV 2 hts gX9_deepest_X0_depthOf rfl rfl rfl hd_X0_depthOf ⟨Nat.le_of_ble_eq_true rfl, Nat.le_of_ble_eq_true rfl⟩) 18 rfl rfl rfl rfl (Nat.le_of_ble_eq_true rfl) dX9_deepest_31 (fun r31 h => ?_)
      refine gg_istore (lv' := [(5, .int (xI r31)), (0, .ref (aa 0)), (1, .int (xI a1)), (2, .int (xI x2_9)), (3, .int (xI x3_9)), (4, .int (xI x4_9))]) hx hb (by decide) rfl dX9_deepest_34 ?_
      refine gg_iload hx hb 0 rfl dX9_deepest_36 ?_
      refine gg_iload_n hx hb 3 rfl rfl dX9_deepest_38 ?_
      refine gg_icmp_le (tgt := 48) hx hb h.1 h.2.1 dX9_deepest_39 rfl (fun c39 => ?_) (fun c39 => ?_)
      · have h := h.2.2.1 c39
        refine gg_iinc (lv' := [(4, .int (xI (x4_9 + 1))), (5, .int (xI r31)), (0, .ref (aa 0)), (1, .int (xI a1)), (2, .int (xI x2_9)), (3, .int (xI x3_9))]) hx hb 5 rfl (by decide) rfl dX9_deepest_48 ?_
        refine gg_goto (tgt := 9) hx hb dX9_deepest_51 rfl ?_
        refine gg_lv [2, 3, 4, 5, 0] rfl ?_
        exact h
      · have h := h.2.2.2 c39
        refine gg_iload hx hb 0 rfl dX9_deepest_42 ?_
        refine gg_istore_n (lv' := [(2, .int (xI r31)), (5, .int (xI r31)), (0, .ref (aa 0)), (1, .int (xI a1)), (3, .int (xI x3_9)), (4, .int (xI x4_9))]) hx hb rfl (by decide) rfl dX9_deepest_44 ?_
        refine gg_iload hx hb 5 rfl dX9_deepest_45 ?_
        refine gg_istore_n (lv' := [(3, .int (xI x4_9)), (2, .int (xI r31)), (5, .int (xI r31)), (0, .ref (aa 0)), (1, .int (xI a1)), (4, .int (xI x4_9))]) hx hb rfl (by decide) rfl dX9_deepest_47 ?_
        refine gg_iinc (lv' := [(4, .int (xI (x4_9 + 1))), (3, .int (xI x4_9)), (2, .int (xI r31)), (5, .int (xI r31)), (0, .ref (aa 0)), (1, .int (xI a1))]) hx hb 5 rfl (by decide) rfl dX9_deepest_48 ?_
        refine gg_goto (tgt := 9) hx hb dX9_deepest_51 rfl ?_
        refine gg_lv [4, 5, 2, 1, 0] rfl ?_
        exact h)
  refine gg_lv [3, 4, 2, 1, 0] rfl ?_
  exact h
abbrev rmX0_measure : Room := { frames := 5, cells := 0, slots := 0, locals := 115 }
theorem iX0_measure_X0 : ∀ w ∈ u_ws RX0 TX0 1, w ∈ wsX0_measure := (fun _ h => List.mem_cons_of_mem _ (List.mem_append_left _ (List.mem_append_right _ h)))
theorem hd_X0_measure : (yX0_measure.cls = RX0 ∧ yX0_measure.cls ≠ "java/lang/invoke/MethodHandle" ∧ yX0_measure.cls ≠ "java/lang/invoke/VarHandle" ∧ (parseMethodDescriptor yX0_measure.desc).map (fun d => d.parameters.length) = some 1) := by decide +kernel
set_option maxRecDepth 100000 in
set_option maxHeartbeats 4000000 in
theorem c_X0_measure (l : Launch) (D : va_G) (aa : Nat → Nat) (cI cZ cJ : ClassId) (tR tU : Nat) (σ : xSt) (Post : xSt → Prop) (h : wp_X0_measure σ Post) : MV l D (tyL cI cZ cJ) (cX aa cI cZ cJ) tR tU yX0_measure wsX0_measure rmX0_measure [.ref (aa 18), .ref (aa 7)] σ Post := by
  refine mv_of (cc := cX0_measure) (maxL := 3) (ret := none) (by decide) rfl (Nat.le_of_ble_eq_true rfl) ?_
  intro p e s m args below meth c A hF
  obtain ⟨hx, hb, hr, hml, hown, hts, hlk, hK, hZ, hA⟩ := hF
  have hown : s.vm.findClass RX0 = some m.cls := hown
  delta wp_X0_measure at h
  refine gg_lv (lv' := [(0, .ref (aa 18)), (1, .ref (aa 7))]) [0, 1] rfl ?_
  refine gg_iconst hx hb dX0_measure_0 ?_
  refine gg_istore_n (lv' := [(2, .int (xI 0)), (0, .ref (aa 18)), (1, .ref (aa 7))]) hx hb rfl (by decide) rfl dX0_measure_1 ?_
  have h := h (fun (x2_2 : Int) (s2 : xSt) => GG p l e rmX0_measure s m args below meth c (QV below D (cX aa cI cZ cJ) A args s Post) A D (cX aa cI cZ cJ) 3 s2 2 [(0, .ref (aa 18)), (1, .ref (aa 7)), (2, .int (xI x2_2))] [])
  have h := h (by
    intro x2_2 s2 h
    refine gg_iload_n hx hb 2 rfl rfl dX0_measure_2 ?_
    refine gg_aload_n hx hb 1 rfl rfl dX0_measure_3 ?_
    refine gg_callVip (As := []) (rest := [.int (xI x2_2)]) hx hb hml hown hts hK hZ hA (c_X2_fields l D aa cI cZ cJ tR tU s2 _ h) (cwV 0 hts gX0_measure_X2_fields rfl rfl rfl hd_X2_fields ⟨Nat.le_of_ble_eq_true rfl, Nat.le_of_ble_eq_true rfl⟩) 7 rfl rfl rfl rfl (Nat.le_of_ble_eq_true rfl) dX0_measure_4 (fun r4 h => ?_)
    refine gg_icmp_ge (tgt := 28) hx hb h.1 h.2.1 dX0_measure_7 rfl (fun c7 => ?_) (fun c7 => ?_)
    · have h := h.2.2.1 c7
      exact gg_vret hx hb hr hlk h dX0_measure_28
    · have h := h.2.2.2 c7
      refine gg_aload_n hx hb 0 rfl rfl dX0_measure_10 ?_
      refine gg_get (C := RX0) (T := TX0) (N := 1) hx hb hts hown hK iX0_measure_X0 18 rfl rfl 0 (by decide) (List.mem_of_getElem? (i := 1) rfl) rfl dX0_measure_11 ?_
      refine gg_iload_n hx hb 2 rfl rfl dX0_measure_14 ?_
      refine gg_aload_n hx hb 0 rfl rfl dX0_measure_15 ?_
      refine gg_aload_n hx hb 1 rfl rfl dX0_measure_16 ?_
      refine gg_iload_n hx hb 2 rfl rfl dX0_measure_17 ?_
      refine gg_callVip (As := [.ref (aa 7), .int (xI x2_2)]) (rest := [.int (xI x2_2), .ref (aa 19)]) hx hb hml hown hts hK hZ hA (c_X0_depthOf l D aa cI cZ cJ tR tU x2_2 s2 _ h) (cwV 2 hts gX0_measure_X0_depthOf rfl rfl rfl hd_X0_depthOf ⟨Nat.le_of_ble_eq_true rfl, Nat.le_of_ble_eq_true rfl⟩) 18 rfl rfl rfl rfl (Nat.le_of_ble_eq_true rfl) dX0_measure_18 (fun r18 h => ?_)
      refine gg_iast hx hb hK 19 0 rfl rfl (cX_st_19 aa cI cZ cJ _ _) (by decide) h.1 dX0_measure_21 (fun σ_21 e21 => ?_)
      have h := h.2 σ_21 e21
      refine gg_iinc (lv' := [(2, .int (xI (x2_2 + 1))), (0, .ref (aa 18)), (1, .ref (aa 7))]) hx hb 2 rfl (by decide) rfl dX0_measure_22 ?_
      refine gg_goto (tgt := 2) hx hb dX0_measure_25 rfl ?_
      refine gg_lv [1, 2, 0] rfl ?_
      exact h)
  refine gg_lv [1, 2, 0] rfl ?_
  exact h
abbrev rmX0_ballHolds : Room := { frames := 1, cells := 0, slots := 0, locals := 21 }
theorem iX0_ballHolds_X0 : ∀ w ∈ u_ws RX0 TX0 1, w ∈ wsX0_ballHolds := (fun _ h => List.mem_cons_of_mem _ (List.mem_append_left _ (List.mem_append_right _ h)))
theorem hd_X0_ballHolds : (yX0_ballHolds.cls = RX0 ∧ yX0_ballHolds.cls ≠ "java/lang/invoke/MethodHandle" ∧ yX0_ballHolds.cls ≠ "java/lang/invoke/VarHandle" ∧ (parseMethodDescriptor yX0_ballHolds.desc).map (fun d => d.parameters.length) = some 3) := by decide +kernel
set_option maxRecDepth 100000 in
set_option maxHeartbeats 4000000 in
theorem c_X0_ballHolds (l : Launch) (D : va_G) (aa : Nat → Nat) (cI cZ cJ : ClassId) (tR tU : Nat) (a2 : Int) (a3 : Int) (σ : xSt) (Post : Int → Prop) (h : wp_X0_ballHolds a2 a3 σ Post) : MI l D (tyL cI cZ cJ) (cX aa cI cZ cJ) tR tU yX0_ballHolds wsX0_ballHolds rmX0_ballHolds [.ref (aa 18), .ref (aa 7), .int (xI a2), .int (xI a3)] σ (fun r9 σ9 => σ9 = σ ∧ Post r9) := by
  refine mi_of (cc := cX0_ballHolds) (maxL := 8) (ret := (some .boolean)) (by decide) rfl (Nat.le_of_ble_eq_true rfl) ?_
  intro p e s m args below meth c A hF
  obtain ⟨hx, hb, hr, hml, hown, hts, hlk, hK, hZ, hA⟩ := hF
  have hown : s.vm.findClass RX0 = some m.cls := hown
  delta wp_X0_ballHolds at h
  refine gg_lv (lv' := [(0, .ref (aa 18)), (1, .ref (aa 7)), (2, .int (xI a2)), (3, .int (xI a3))]) [0, 1, 2, 3] rfl ?_
  refine gg_aload_n hx hb 1 rfl rfl dX0_ballHolds_0 ?_
  refine gg_iload_n hx hb 2 rfl rfl dX0_ballHolds_1 ?_
  refine gg_callVip (As := [.int (xI a2)]) (rest := []) hx hb hml hown hts hK hZ hA (c_X2_columnOf l D aa cI cZ cJ tR tU a2 σ _ h) (cwV 1 hts gX0_ballHolds_X2_columnOf rfl rfl rfl hd_X2_columnOf ⟨Nat.le_of_ble_eq_true rfl, Nat.le_of_ble_eq_true rfl⟩) 7 rfl rfl rfl rfl (Nat.le_of_ble_eq_true rfl) dX0_ballHolds_2 (fun r2 h => ?_)
  refine gg_aload_n hx hb 1 rfl rfl dX0_ballHolds_5 ?_
  refine gg_iload_n hx hb 3 rfl rfl dX0_ballHolds_6 ?_
  refine gg_callVip (As := [.int (xI a3)]) (rest := [.int (xI r2)]) hx hb hml hown hts hK hZ hA (c_X2_columnOf l D aa cI cZ cJ tR tU a3 σ _ h) (cwV 1 hts gX0_ballHolds_X2_columnOf rfl rfl rfl hd_X2_columnOf ⟨Nat.le_of_ble_eq_true rfl, Nat.le_of_ble_eq_true rfl⟩) 7 rfl rfl rfl rfl (Nat.le_of_ble_eq_true rfl) dX0_ballHolds_7 (fun r7 h => ?_)
  refine gg_isub hx hb dX0_ballHolds_10 ?_
  refine gg_istore (lv' := [(4, .int (xI (r2 - r7))), (0, .ref (aa 18)), (1, .ref (aa 7)), (2, .int (xI a2)), (3, .int (xI a3))]) hx hb (by decide) rfl dX0_ballHolds_11 ?_
  refine gg_aload_n hx hb 2 rfl rfl dX0_ballHolds_13 ?_
  refine gg_iload_n hx hb 3 rfl rfl dX0_ballHolds_14 ?_
  refine gg_callVip (As := [.int (xI a2)]) (rest := []) hx hb hml hown hts hK hZ hA (c_X2_lineOf l D aa cI cZ cJ tR tU a2 σ _ h) (cwV 1 hts gX0_ballHolds_X2_lineOf rfl rfl rfl hd_X2_lineOf ⟨Nat.le_of_ble_eq_true rfl, Nat.le_of_ble_eq_true rfl⟩) 7 rfl rfl rfl rfl (Nat.le_of_ble_eq_true rfl) dX0_ballHolds_15 (fun r15 h => ?_)
  refine gg_aload_n hx hb 2 rfl rfl dX0_ballHolds_18 ?_
  refine gg_iload_n hx hb 4 rfl rfl dX0_ballHolds_19 ?_
  refine gg_callVip (As := [.int (xI a3)]) (rest := [.int (xI r15)]) hx hb hml hown hts hK hZ hA (c_X2_lineOf l D aa cI cZ cJ tR tU a3 σ _ h) (cwV 1 hts gX0_ballHolds_X2_lineOf rfl rfl rfl hd_X2_lineOf ⟨Nat.le_of_ble_eq_true rfl, Nat.le_of_ble_eq_true rfl⟩) 7 rfl rfl rfl rfl (Nat.le_of_ble_eq_true rfl) dX0_ballHolds_20 (fun r20 h => ?_)
  refine gg_isub hx hb dX0_ballHolds_23 ?_
  refine gg_istore (lv' := [(5, .int (xI (r15 - r20))), (4, .int (xI (r2 - r7))), (0, .ref (aa 18)), (1, .ref (aa 7)), (2, .int (xI a2)), (3, .int (xI a3))]) hx hb (by decide) rfl dX0_ballHolds_24 ?_
  refine gg_iload hx hb 1 rfl dX0_ballHolds_26 ?_
  refine gg_iload hx hb 1 rfl dX0_ballHolds_28 ?_
  refine gg_imul hx hb dX0_ballHolds_30 ?_
  refine gg_iload hx hb 0 rfl dX0_ballHolds_31 ?_
  refine gg_iload hx hb 0 rfl dX0_ballHolds_33 ?_
  refine gg_imul hx hb dX0_ballHolds_35 ?_
  refine gg_iadd hx hb dX0_ballHolds_36 ?_
  refine gg_nm (fun z6_37 e37 => ?_)
  have h := h z6_37 e37
  refine gg_istore (lv' := [(6, .int (xI z6_37)), (5, .int (xI (r15 - r20))), (4, .int (xI (r2 - r7))), (0, .ref (aa 18)), (1, .ref (aa 7)), (2, .int (xI a2)), (3, .int (xI a3))]) hx hb (by decide) rfl dX0_ballHolds_37 ?_
  refine gg_aload_n hx hb 3 rfl rfl dX0_ballHolds_39 ?_
  refine gg_get (C := RX0) (T := TX0) (N := 1) hx hb hts hown hK iX0_ballHolds_X0 18 rfl rfl 0 (by decide) (List.mem_of_getElem? (i := 1) rfl) rfl dX0_ballHolds_40 ?_
  refine gg_iload_n hx hb 5 rfl rfl dX0_ballHolds_43 ?_
  refine gg_iald hx hb hK 19 0 rfl rfl (by decide) h.1 dX0_ballHolds_44 ?_
  have h := h.2
  refine gg_iload hx hb 0 rfl dX0_ballHolds_45 ?_
  refine gg_isub hx hb dX0_ballHolds_47 ?_
  refine gg_aload_n hx hb 3 rfl rfl dX0_ballHolds_48 ?_
  refine gg_get (C := RX0) (T := TX0) (N := 1) hx hb hts hown hK iX0_ballHolds_X0 18 rfl rfl 0 (by decide) (List.mem_of_getElem? (i := 1) rfl) rfl dX0_ballHolds_49 ?_
  refine gg_iload_n hx hb 6 rfl rfl dX0_ballHolds_52 ?_
  refine gg_iald hx hb hK 19 0 rfl rfl (by decide) h.1 dX0_ballHolds_53 ?_
  have h := h.2
  refine gg_isub hx hb dX0_ballHolds_54 ?_
  refine gg_nm (fun z7_55 e55 => ?_)
  have h := h z7_55 e55
  refine gg_istore (lv' := [(7, .int (xI z7_55)), (6, .int (xI z6_37)), (5, .int (xI (r15 - r20))), (4, .int (xI (r2 - r7))), (0, .ref (aa 18)), (1, .ref (aa 7)), (2, .int (xI a2)), (3, .int (xI a3))]) hx hb (by decide) rfl dX0_ballHolds_55 ?_
  refine gg_iload hx hb 0 rfl dX0_ballHolds_57 ?_
  refine gg_if_lt (tgt := 85) hx hb h.1 dX0_ballHolds_59 rfl (fun c59 => ?_) (fun c59 => ?_)
  · have h := h.2.1 c59
    refine gg_iconst hx hb dX0_ballHolds_85 ?_
    exact gg_zret hx hb hr hlk (Or.inl rfl) ⟨rfl, h⟩ dX0_ballHolds_86
  · have h := h.2.2 c59
    refine gg_iload hx hb 0 rfl dX0_ballHolds_62 ?_
    refine gg_iload hx hb 0 rfl dX0_ballHolds_64 ?_
    refine gg_imul hx hb dX0_ballHolds_66 ?_
    refine gg_iconst hx hb dX0_ballHolds_67 ?_
    refine gg_iload hx hb 1 rfl dX0_ballHolds_68 ?_
    refine gg_imul hx hb dX0_ballHolds_70 ?_
    refine gg_aload_n hx hb 4 rfl rfl dX0_ballHolds_71 ?_
    refine gg_get (C := RX0) (T := TX0) (N := 1) hx hb hts hown hK iX0_ballHolds_X0 18 rfl rfl 0 (by decide) (List.mem_of_getElem? (i := 1) rfl) rfl dX0_ballHolds_72 ?_
    refine gg_iload_n hx hb 7 rfl rfl dX0_ballHolds_75 ?_
    refine gg_iald hx hb hK 19 0 rfl rfl (by decide) h.1 dX0_ballHolds_76 ?_
    have h := h.2
    refine gg_imul hx hb dX0_ballHolds_77 ?_
    refine gg_icmp_lt (tgt := 85) hx hb h.1 h.2.1 dX0_ballHolds_78 rfl (fun c78 => ?_) (fun c78 => ?_)
    · have h := h.2.2.1 c78
      refine gg_iconst hx hb dX0_ballHolds_85 ?_
      exact gg_zret hx hb hr hlk (Or.inl rfl) ⟨rfl, h⟩ dX0_ballHolds_86
    · have h := h.2.2.2 c78
      refine gg_iconst hx hb dX0_ballHolds_81 ?_
      refine gg_goto (tgt := 86) hx hb dX0_ballHolds_82 rfl ?_
      exact gg_zret hx hb hr hlk (Or.inr rfl) ⟨rfl, h⟩ dX0_ballHolds_86
abbrev rmX0_isNeeded : Room := { frames := 3, cells := 0, slots := 0, locals := 62 }
theorem iX0_isNeeded_X0 : ∀ w ∈ u_ws RX0 TX0 1, w ∈ wsX0_isNeeded := (fun _ h => List.mem_cons_of_mem _ (List.mem_append_left _ (List.mem_append_right _ h)))
theorem hd_X0_isNeeded : (yX0_isNeeded.cls = RX0 ∧ yX0_isNeeded.cls ≠ "java/lang/invoke/MethodHandle" ∧ yX0_isNeeded.cls ≠ "java/lang/invoke/VarHandle" ∧ (parseMethodDescriptor yX0_isNeeded.desc).map (fun d => d.parameters.length) = some 2) := by decide +kernel
set_option maxRecDepth 100000 in
set_option maxHeartbeats 4000000 in
theorem c_X0_isNeeded (l : Launch) (D : va_G) (aa : Nat → Nat) (cI cZ cJ : ClassId) (tR tU : Nat) (a2 : Int) (σ : xSt) (Post : Int → Prop) (h : wp_X0_isNeeded a2 σ Post) : MI l D (tyL cI cZ cJ) (cX aa cI cZ cJ) tR tU yX0_isNeeded wsX0_isNeeded rmX0_isNeeded [.ref (aa 18), .ref (aa 7), .int (xI a2)] σ (fun r9 σ9 => σ9 = σ ∧ Post r9) := by
  refine mi_of (cc := cX0_isNeeded) (maxL := 4) (ret := (some .boolean)) (by decide) rfl (Nat.le_of_ble_eq_true rfl) ?_
  intro p e s m args below meth c A hF
  obtain ⟨hx, hb, hr, hml, hown, hts, hlk, hK, hZ, hA⟩ := hF
  have hown : s.vm.findClass RX0 = some m.cls := hown
  delta wp_X0_isNeeded at h
  refine gg_lv (lv' := [(0, .ref (aa 18)), (1, .ref (aa 7)), (2, .int (xI a2))]) [0, 1, 2] rfl ?_
  refine gg_aload_n hx hb 1 rfl rfl dX0_isNeeded_0 ?_
  refine gg_iload_n hx hb 2 rfl rfl dX0_isNeeded_1 ?_
  refine gg_callVip (As := [.int (xI a2)]) (rest := []) hx hb hml hown hts hK hZ hA (c_X2_holds l D aa cI cZ cJ tR tU a2 σ _ h) (cwV 1 hts gX0_isNeeded_X2_holds rfl rfl rfl hd_X2_holds ⟨Nat.le_of_ble_eq_true rfl, Nat.le_of_ble_eq_true rfl⟩) 7 rfl rfl rfl rfl (Nat.le_of_ble_eq_true rfl) dX0_isNeeded_2 (fun r2 h => ?_)
  refine gg_if_ne (tgt := 10) hx hb h.1 dX0_isNeeded_5 rfl (fun c5 => ?_) (fun c5 => ?_)
  · have h := h.2.1 c5
    refine gg_iconst hx hb dX0_isNeeded_10 ?_
    refine gg_istore_n (lv' := [(3, .int (xI 0)), (0, .ref (aa 18)), (1, .ref (aa 7)), (2, .int (xI a2))]) hx hb rfl (by decide) rfl dX0_isNeeded_11 ?_
    have h := h (fun (x3_12 : Int) => GG p l e rmX0_isNeeded s m args below meth c (QI below D (cX aa cI cZ cJ) A args s (fun r9 σ9 => σ9 = σ ∧ Post r9)) A D (cX aa cI cZ cJ) 4 σ 12 [(0, .ref (aa 18)), (1, .ref (aa 7)), (2, .int (xI a2)), (3, .int (xI x3_12))] [])
    have h := h (by
      intro x3_12 h
      refine gg_iload_n hx hb 3 rfl rfl dX0_isNeeded_12 ?_
      refine gg_aload_n hx hb 1 rfl rfl dX0_isNeeded_13 ?_
      refine gg_callVip (As := []) (rest := [.int (xI x3_12)]) hx hb hml hown hts hK hZ hA (c_X2_fields l D aa cI cZ cJ tR tU σ _ h) (cwV 0 hts gX0_isNeeded_X2_fields rfl rfl rfl hd_X2_fields ⟨Nat.le_of_ble_eq_true rfl, Nat.le_of_ble_eq_true rfl⟩) 7 rfl rfl rfl rfl (Nat.le_of_ble_eq_true rfl) dX0_isNeeded_14 (fun r14 h => ?_)
      refine gg_icmp_ge (tgt := 53) hx hb h.1 h.2.1 dX0_isNeeded_17 rfl (fun c17 => ?_) (fun c17 => ?_)
      · have h := h.2.2.1 c17
        refine gg_iconst hx hb dX0_isNeeded_53 ?_
        exact gg_zret hx hb hr hlk (Or.inr rfl) ⟨rfl, h⟩ dX0_isNeeded_54
      · have h := h.2.2.2 c17
        refine gg_aload_n hx hb 0 rfl rfl dX0_isNeeded_20 ?_
        refine gg_get (C := RX0) (T := TX0) (N := 1) hx hb hts hown hK iX0_isNeeded_X0 18 rfl rfl 0 (by decide) (List.mem_of_getElem? (i := 1) rfl) rfl dX0_isNeeded_21 ?_
        refine gg_iload_n hx hb 3 rfl rfl dX0_isNeeded_24 ?_
        refine gg_iald hx hb hK 19 0 rfl rfl (by decide) h.1 dX0_isNeeded_25 ?_
        have h := h.2
        refine gg_aload_n hx hb 0 rfl rfl dX0_isNeeded_26 ?_
        refine gg_get (C := RX0) (T := TX0) (N := 1) hx hb hts hown hK iX0_isNeeded_X0 18 rfl rfl 0 (by decide) (List.mem_of_getElem? (i := 1) rfl) rfl dX0_isNeeded_27 ?_
        refine gg_iload_n hx hb 2 rfl rfl dX0_isNeeded_30 ?_
        refine gg_iald hx hb hK 19 0 rfl rfl (by decide) h.1 dX0_isNeeded_31 ?_
        have h := h.2
        refine gg_icmp_le (tgt := 47) hx hb h.1 h.2.1 dX0_isNeeded_32 rfl (fun c32 => ?_) (fun c32 => ?_)
        · have h := h.2.2.1 c32
          refine gg_iinc (lv' := [(3, .int (xI (x3_12 + 1))), (0, .ref (aa 18)), (1, .ref (aa 7)), (2, .int (xI a2))]) hx hb 3 rfl (by decide) rfl dX0_isNeeded_47 ?_
          refine gg_goto (tgt := 12) hx hb dX0_isNeeded_50 rfl ?_
          refine gg_lv [1, 2, 3, 0] rfl ?_
          exact h
        · have h := h.2.2.2 c32
          refine gg_aload_n hx hb 0 rfl rfl dX0_isNeeded_35 ?_
          refine gg_aload_n hx hb 1 rfl rfl dX0_isNeeded_36 ?_
          refine gg_iload_n hx hb 3 rfl rfl dX0_isNeeded_37 ?_
          refine gg_iload_n hx hb 2 rfl rfl dX0_isNeeded_38 ?_
          refine gg_callVip (As := [.ref (aa 7), .int (xI x3_12), .int (xI a2)]) (rest := []) hx hb hml hown hts hK hZ hA (c_X0_ballHolds l D aa cI cZ cJ tR tU x3_12 a2 σ _ h) (cwV 3 hts gX0_isNeeded_X0_ballHolds rfl rfl rfl hd_X0_ballHolds ⟨Nat.le_of_ble_eq_true rfl, Nat.le_of_ble_eq_true rfl⟩) 18 rfl rfl rfl rfl (Nat.le_of_ble_eq_true rfl) dX0_isNeeded_39 (fun r39 h => ?_)
          refine gg_if_eq (tgt := 47) hx hb h.1 dX0_isNeeded_42 rfl (fun c42 => ?_) (fun c42 => ?_)
          · have h := h.2.1 c42
            refine gg_iinc (lv' := [(3, .int (xI (x3_12 + 1))), (0, .ref (aa 18)), (1, .ref (aa 7)), (2, .int (xI a2))]) hx hb 3 rfl (by decide) rfl dX0_isNeeded_47 ?_
            refine gg_goto (tgt := 12) hx hb dX0_isNeeded_50 rfl ?_
            refine gg_lv [1, 2, 3, 0] rfl ?_
            exact h
          · have h := h.2.2 c42
            refine gg_iconst hx hb dX0_isNeeded_45 ?_
            exact gg_zret hx hb hr hlk (Or.inl rfl) ⟨rfl, h⟩ dX0_isNeeded_46)
    refine gg_lv [1, 2, 3, 0] rfl ?_
    exact h
  · have h := h.2.2 c5
    refine gg_iconst hx hb dX0_isNeeded_8 ?_
    exact gg_zret hx hb hr hlk (Or.inl rfl) ⟨rfl, h⟩ dX0_isNeeded_9
abbrev rmX9_needed : Room := { frames := 6, cells := 0, slots := 0, locals := 137 }
theorem iX9_needed_X9 : ∀ w ∈ u_ws RX9 TX9 9, w ∈ wsX9_needed := (fun _ h => List.mem_cons_of_mem _ (List.mem_append_left _ (List.mem_append_left _ (List.mem_append_right _ h))))
theorem hd_X9_needed : (yX9_needed.cls = RX9 ∧ yX9_needed.cls ≠ "java/lang/invoke/MethodHandle" ∧ yX9_needed.cls ≠ "java/lang/invoke/VarHandle" ∧ (parseMethodDescriptor yX9_needed.desc).map (fun d => d.parameters.length) = some 1) := by decide +kernel
set_option maxRecDepth 100000 in
set_option maxHeartbeats 4000000 in
theorem c_X9_needed (l : Launch) (D : va_G) (aa : Nat → Nat) (cI cZ cJ : ClassId) (tR tU : Nat) (a1 : Int) (σ : xSt) (Post : Int → xSt → Prop) (h : wp_X9_needed a1 σ Post) : MI l D (tyL cI cZ cJ) (cX aa cI cZ cJ) tR tU yX9_needed wsX9_needed rmX9_needed [.ref (aa 0), .int (xI a1)] σ Post := by
  refine mi_of (cc := cX9_needed) (maxL := 2) (ret := (some .int)) (by decide) rfl (Nat.le_of_ble_eq_true rfl) ?_
  intro p e s m args below meth c A hF
  obtain ⟨hx, hb, hr, hml, hown, hts, hlk, hK, hZ, hA⟩ := hF
  have hown : s.vm.findClass RX9 = some m.cls := hown
  delta wp_X9_needed at h
  refine gg_lv (lv' := [(0, .ref (aa 0)), (1, .int (xI a1))]) [0, 1] rfl ?_
  refine gg_aload_n hx hb 0 rfl rfl dX9_needed_0 ?_
  refine gg_get (C := RX9) (T := TX9) (N := 9) hx hb hts hown hK iX9_needed_X9 0 rfl rfl 2 (by decide) (List.mem_of_getElem? (i := 1) rfl) rfl dX9_needed_1 ?_
  refine gg_iload_n hx hb 1 rfl rfl dX9_needed_4 ?_
  refine gg_callVip (As := [.int (xI a1)]) (rest := []) hx hb hml hown hts hK hZ hA (c_X2_knows l D aa cI cZ cJ tR tU a1 σ _ h) (cwV 1 hts gX9_needed_X2_knows rfl rfl rfl hd_X2_knows ⟨Nat.le_of_ble_eq_true rfl, Nat.le_of_ble_eq_true rfl⟩) 7 rfl rfl rfl rfl (Nat.le_of_ble_eq_true rfl) dX9_needed_5 (fun r5 h => ?_)
  refine gg_if_ne (tgt := 15) hx hb h.1 dX9_needed_8 rfl (fun c8 => ?_) (fun c8 => ?_)
  · have h := h.2.1 c8
    refine gg_aload_n hx hb 0 rfl rfl dX9_needed_15 ?_
    refine gg_get (C := RX9) (T := TX9) (N := 9) hx hb hts hown hK iX9_needed_X9 0 rfl rfl 6 (by decide) (List.mem_of_getElem? (i := 2) rfl) rfl dX9_needed_16 ?_
    refine gg_aload_n hx hb 0 rfl rfl dX9_needed_19 ?_
    refine gg_get (C := RX9) (T := TX9) (N := 9) hx hb hts hown hK iX9_needed_X9 0 rfl rfl 2 (by decide) (List.mem_of_getElem? (i := 1) rfl) rfl dX9_needed_20 ?_
    refine gg_callVv (As := [.ref (aa 7)]) (rest := []) hx hb hml hown hts hK hZ hA (c_X0_measure l D aa cI cZ cJ tR tU σ _ h) (cwV 1 hts gX9_needed_X0_measure rfl rfl rfl hd_X0_measure ⟨Nat.le_of_ble_eq_true rfl, Nat.le_of_ble_eq_true rfl⟩) 18 rfl rfl rfl rfl (Nat.le_of_ble_eq_true rfl) dX9_needed_23 (fun t23 h => ?_)
    refine gg_aload_n hx hb 0 rfl rfl dX9_needed_26 ?_
    refine gg_get (C := RX9) (T := TX9) (N := 9) hx hb hts hown hK iX9_needed_X9 0 rfl rfl 6 (by decide) (List.mem_of_getElem? (i := 2) rfl) rfl dX9_needed_27 ?_
    refine gg_aload_n hx hb 0 rfl rfl dX9_needed_30 ?_
    refine gg_get (C := RX9) (T := TX9) (N := 9) hx hb hts hown hK iX9_needed_X9 0 rfl rfl 2 (by decide) (List.mem_of_getElem? (i := 1) rfl) rfl dX9_needed_31 ?_
    refine gg_iload_n hx hb 1 rfl rfl dX9_needed_34 ?_
    refine gg_callVip (As := [.ref (aa 7), .int (xI a1)]) (rest := []) hx hb hml hown hts hK hZ hA (c_X0_isNeeded l D aa cI cZ cJ tR tU a1 t23 _ h) (cwV 2 hts gX9_needed_X0_isNeeded rfl rfl rfl hd_X0_isNeeded ⟨Nat.le_of_ble_eq_true rfl, Nat.le_of_ble_eq_true rfl⟩) 18 rfl rfl rfl rfl (Nat.le_of_ble_eq_true rfl) dX9_needed_35 (fun r35 h => ?_)
    refine gg_if_eq (tgt := 45) hx hb h.1 dX9_needed_38 rfl (fun c38 => ?_) (fun c38 => ?_)
    · have h := h.2.1 c38
      refine gg_iconst hx hb dX9_needed_45 ?_
      exact gg_iret hx hb hr hlk h dX9_needed_46
    · have h := h.2.2 c38
      refine gg_iconst hx hb dX9_needed_41 ?_
      refine gg_goto (tgt := 46) hx hb dX9_needed_42 rfl ?_
      exact gg_iret hx hb hr hlk h dX9_needed_46
  · have h := h.2.2 c8
    refine gg_sipush hx hb dX9_needed_11 rfl ?_
    exact gg_iret hx hb hr hlk h dX9_needed_14
abbrev rmX9_balls : Room := { frames := 6, cells := 0, slots := 0, locals := 137 }
theorem iX9_balls_X9 : ∀ w ∈ u_ws RX9 TX9 9, w ∈ wsX9_balls := (fun _ h => List.mem_cons_of_mem _ (List.mem_append_left _ (List.mem_append_left _ (List.mem_append_right _ h))))
theorem hd_X9_balls : (yX9_balls.cls = RX9 ∧ yX9_balls.cls ≠ "java/lang/invoke/MethodHandle" ∧ yX9_balls.cls ≠ "java/lang/invoke/VarHandle" ∧ (parseMethodDescriptor yX9_balls.desc).map (fun d => d.parameters.length) = some 0) := by decide +kernel
set_option maxRecDepth 100000 in
set_option maxHeartbeats 4000000 in
theorem c_X9_balls (l : Launch) (D : va_G) (aa : Nat → Nat) (cI cZ cJ : ClassId) (tR tU : Nat) (σ : xSt) (Post : Int → xSt → Prop) (h : wp_X9_balls σ Post) : MI l D (tyL cI cZ cJ) (cX aa cI cZ cJ) tR tU yX9_balls wsX9_balls rmX9_balls [.ref (aa 0)] σ Post := by
  refine mi_of (cc := cX9_balls) (maxL := 3) (ret := (some .int)) (by decide) rfl (Nat.le_of_ble_eq_true rfl) ?_
  intro p e s m args below meth c A hF
  obtain ⟨hx, hb, hr, hml, hown, hts, hlk, hK, hZ, hA⟩ := hF
  have hown : s.vm.findClass RX9 = some m.cls := hown
  delta wp_X9_balls at h
  refine gg_lv (lv' := [(0, .ref (aa 0))]) [0] rfl ?_
  refine gg_aload_n hx hb 0 rfl rfl dX9_balls_0 ?_
  refine gg_get (C := RX9) (T := TX9) (N := 9) hx hb hts hown hK iX9_balls_X9 0 rfl rfl 6 (by decide) (List.mem_of_getElem? (i := 1) rfl) rfl dX9_balls_1 ?_
  refine gg_aload_n hx hb 0 rfl rfl dX9_balls_4 ?_
  refine gg_get (C := RX9) (T := TX9) (N := 9) hx hb hts hown hK iX9_balls_X9 0 rfl rfl 2 (by decide) (List.mem_of_getElem? (i := 2) rfl) rfl dX9_balls_5 ?_
  refine gg_callVv (As := [.ref (aa 7)]) (rest := []) hx hb hml hown hts hK hZ hA (c_X0_measure l D aa cI cZ cJ tR tU σ _ h) (cwV 1 hts gX9_balls_X0_measure rfl rfl rfl hd_X0_measure ⟨Nat.le_of_ble_eq_true rfl, Nat.le_of_ble_eq_true rfl⟩) 18 rfl rfl rfl rfl (Nat.le_of_ble_eq_true rfl) dX9_balls_8 (fun t8 h => ?_)
  refine gg_iconst hx hb dX9_balls_11 ?_
  refine gg_istore_n (lv' := [(1, .int (xI 0)), (0, .ref (aa 0))]) hx hb rfl (by decide) rfl dX9_balls_12 ?_
  refine gg_iconst hx hb dX9_balls_13 ?_
  refine gg_istore_n (lv' := [(2, .int (xI 0)), (1, .int (xI 0)), (0, .ref (aa 0))]) hx hb rfl (by decide) rfl dX9_balls_14 ?_
  have h := h (fun (x1_15 x2_15 : Int) => GG p l e rmX9_balls s m args below meth c (QI below D (cX aa cI cZ cJ) A args s Post) A D (cX aa cI cZ cJ) 3 t8 15 [(0, .ref (aa 0)), (1, .int (xI x1_15)), (2, .int (xI x2_15))] [])
  have h := h (by
    intro x1_15 x2_15 h
    refine gg_iload_n hx hb 2 rfl rfl dX9_balls_15 ?_
    refine gg_aload_n hx hb 0 rfl rfl dX9_balls_16 ?_
    refine gg_get (C := RX9) (T := TX9) (N := 9) hx hb hts hown hK iX9_balls_X9 0 rfl rfl 2 (by decide) (List.mem_of_getElem? (i := 2) rfl) rfl dX9_balls_17 ?_
    refine gg_callVip (As := []) (rest := [.int (xI x2_15)]) hx hb hml hown hts hK hZ hA (c_X2_fields l D aa cI cZ cJ tR tU t8 _ h) (cwV 0 hts gX9_balls_X2_fields rfl rfl rfl hd_X2_fields ⟨Nat.le_of_ble_eq_true rfl, Nat.le_of_ble_eq_true rfl⟩) 7 rfl rfl rfl rfl (Nat.le_of_ble_eq_true rfl) dX9_balls_20 (fun r20 h => ?_)
    refine gg_icmp_ge (tgt := 50) hx hb h.1 h.2.1 dX9_balls_23 rfl (fun c23 => ?_) (fun c23 => ?_)
    · have h := h.2.2.1 c23
      refine gg_iload_n hx hb 1 rfl rfl dX9_balls_50 ?_
      exact gg_iret hx hb hr hlk h dX9_balls_51
    · have h := h.2.2.2 c23
      refine gg_aload_n hx hb 0 rfl rfl dX9_balls_26 ?_
      refine gg_get (C := RX9) (T := TX9) (N := 9) hx hb hts hown hK iX9_balls_X9 0 rfl rfl 6 (by decide) (List.mem_of_getElem? (i := 1) rfl) rfl dX9_balls_27 ?_
      refine gg_aload_n hx hb 0 rfl rfl dX9_balls_30 ?_
      refine gg_get (C := RX9) (T := TX9) (N := 9) hx hb hts hown hK iX9_balls_X9 0 rfl rfl 2 (by decide) (List.mem_of_getElem? (i := 2) rfl) rfl dX9_balls_31 ?_
      refine gg_iload_n hx hb 2 rfl rfl dX9_balls_34 ?_
      refine gg_callVip (As := [.ref (aa 7), .int (xI x2_15)]) (rest := []) hx hb hml hown hts hK hZ hA (c_X0_isNeeded l D aa cI cZ cJ tR tU x2_15 t8 _ h) (cwV 2 hts gX9_balls_X0_isNeeded rfl rfl rfl hd_X0_isNeeded ⟨Nat.le_of_ble_eq_true rfl, Nat.le_of_ble_eq_true rfl⟩) 18 rfl rfl rfl rfl (Nat.le_of_ble_eq_true rfl) dX9_balls_35 (fun r35 h => ?_)
      refine gg_if_eq (tgt := 44) hx hb h.1 dX9_balls_38 rfl (fun c38 => ?_) (fun c38 => ?_)
      · have h := h.2.1 c38
        refine gg_iinc (lv' := [(2, .int (xI (x2_15 + 1))), (0, .ref (aa 0)), (1, .int (xI x1_15))]) hx hb 2 rfl (by decide) rfl dX9_balls_44 ?_
        refine gg_goto (tgt := 15) hx hb dX9_balls_47 rfl ?_
        refine gg_lv [1, 2, 0] rfl ?_
        exact h
      · have h := h.2.2 c38
        refine gg_iinc (lv' := [(1, .int (xI (x1_15 + 1))), (0, .ref (aa 0)), (2, .int (xI x2_15))]) hx hb 1 rfl (by decide) rfl dX9_balls_41 ?_
        refine gg_iinc (lv' := [(2, .int (xI (x2_15 + 1))), (1, .int (xI (x1_15 + 1))), (0, .ref (aa 0))]) hx hb 2 rfl (by decide) rfl dX9_balls_44 ?_
        refine gg_goto (tgt := 15) hx hb dX9_balls_47 rfl ?_
        refine gg_lv [2, 1, 0] rfl ?_
        exact h)
  refine gg_lv [2, 1, 0] rfl ?_
  exact h
abbrev rmX7_turned : Room := { frames := 0, cells := 0, slots := 0, locals := 0 }
theorem hd_X7_turned : (yX7_turned.cls ≠ "java/lang/invoke/MethodHandle" ∧ yX7_turned.cls ≠ "java/lang/invoke/VarHandle" ∧ (parseMethodDescriptor yX7_turned.desc).map (fun d => d.parameters.length) = some 2) := by decide +kernel
set_option maxRecDepth 100000 in
set_option maxHeartbeats 4000000 in
theorem c_X7_turned (l : Launch) (D : va_G) (aa : Nat → Nat) (cI cZ cJ : ClassId) (tR tU : Nat) (a0 : Int) (a1 : Int) (σ : xSt) (Post : Int → Prop) (h : wp_X7_turned a0 a1 σ Post) : MI l D (tyL cI cZ cJ) (cX aa cI cZ cJ) tR tU yX7_turned wsX7_turned rmX7_turned [.int (xI a0), .int (xI a1)] σ (fun r9 σ9 => σ9 = σ ∧ Post r9) := by
  refine mi_of (cc := cX7_turned) (maxL := 2) (ret := (some .int)) (by decide) rfl (Nat.le_of_ble_eq_true rfl) ?_
  intro p e s m args below meth c A hF
  obtain ⟨hx, hb, hr, hml, hown, hts, hlk, hK, hZ, hA⟩ := hF
  have hown : s.vm.findClass RX7 = some m.cls := hown
  delta wp_X7_turned at h
  refine gg_lv (lv' := [(0, .int (xI a0)), (1, .int (xI a1))]) [0, 1] rfl ?_
  refine gg_iload_n hx hb 0 rfl rfl dX7_turned_0 ?_
  refine gg_iload_n hx hb 1 rfl rfl dX7_turned_1 ?_
  refine gg_ishl hx hb dX7_turned_2 ?_
  refine gg_iload_n hx hb 0 rfl rfl dX7_turned_3 ?_
  refine gg_bipush hx hb dX7_turned_4 rfl ?_
  refine gg_iload_n hx hb 1 rfl rfl dX7_turned_6 ?_
  refine gg_isub hx hb dX7_turned_7 ?_
  refine gg_ishr hx hb dX7_turned_8 ?_
  refine gg_ior hx hb dX7_turned_9 ?_
  refine gg_sipush hx hb dX7_turned_10 rfl ?_
  refine gg_iand hx hb dX7_turned_13 ?_
  exact gg_iret hx hb hr hlk ⟨rfl, h⟩ dX7_turned_14
abbrev rmX7_partWith : Room := { frames := 1, cells := 0, slots := 0, locals := 21 }
theorem hd_X7_partWith : (yX7_partWith.cls ≠ "java/lang/invoke/MethodHandle" ∧ yX7_partWith.cls ≠ "java/lang/invoke/VarHandle" ∧ (parseMethodDescriptor yX7_partWith.desc).map (fun d => d.parameters.length) = some 3) := by decide +kernel
set_option maxRecDepth 100000 in
set_option maxHeartbeats 4000000 in
theorem c_X7_partWith (l : Launch) (D : va_G) (aa : Nat → Nat) (cI cZ cJ : ClassId) (tR tU : Nat) (a0 : Int) (a1 : Int) (a2 : Int) (σ : xSt) (Post : Int → Prop) (h : wp_X7_partWith a0 a1 a2 σ Post) : MI l D (tyL cI cZ cJ) (cX aa cI cZ cJ) tR tU yX7_partWith wsX7_partWith rmX7_partWith [.int (xI a0), .int (xI a1), .int (xI a2)] σ (fun r9 σ9 => σ9 = σ ∧ Post r9) := by
  refine mi_of (cc := cX7_partWith) (maxL := 6) (ret := (some .int)) (by decide) rfl (Nat.le_of_ble_eq_true rfl) ?_
  intro p e s m args below meth c A hF
  obtain ⟨hx, hb, hr, hml, hown, hts, hlk, hK, hZ, hA⟩ := hF
  have hown : s.vm.findClass RX7 = some m.cls := hown
  delta wp_X7_partWith at h
  refine gg_lv (lv' := [(0, .int (xI a0)), (1, .int (xI a1)), (2, .int (xI a2))]) [0, 1, 2] rfl ?_
  refine gg_iload_n hx hb 0 rfl rfl dX7_partWith_0 ?_
  refine gg_istore_n (lv' := [(3, .int (xI a0)), (0, .int (xI a0)), (1, .int (xI a1)), (2, .int (xI a2))]) hx hb rfl (by decide) rfl dX7_partWith_1 ?_
  refine gg_iconst hx hb dX7_partWith_2 ?_
  refine gg_istore (lv' := [(4, .int (xI 0)), (3, .int (xI a0)), (0, .int (xI a0)), (1, .int (xI a1)), (2, .int (xI a2))]) hx hb (by decide) rfl dX7_partWith_3 ?_
  have h := h (fun (x3_5 x4_5 : Int) => GG p l e rmX7_partWith s m args below meth c (QI below D (cX aa cI cZ cJ) A args s (fun r9 σ9 => σ9 = σ ∧ Post r9)) A D (cX aa cI cZ cJ) 6 σ 5 [(1, .int (xI a1)), (2, .int (xI a2)), (3, .int (xI x3_5)), (4, .int (xI x4_5))] [])
  have h := h (by
    intro x3_5 x4_5 h
    refine gg_iload hx hb 3 rfl dX7_partWith_5 ?_
    refine gg_bipush hx hb dX7_partWith_7 rfl ?_
    refine gg_icmp_ge (tgt := 66) hx hb h.1 (by decide) dX7_partWith_9 rfl (fun c9 => ?_) (fun c9 => ?_)
    · have h := h.2.1 c9
      refine gg_iload_n hx hb 2 rfl rfl dX7_partWith_66 ?_
      exact gg_iret hx hb hr hlk ⟨rfl, h⟩ dX7_partWith_67
    · have h := h.2.2 c9
      refine gg_iload_n hx hb 2 rfl rfl dX7_partWith_12 ?_
      refine gg_iconst hx hb dX7_partWith_13 ?_
      refine gg_callSip (As := [.int (xI x3_5), .int (xI 1)]) (rest := []) hx hb hml hown hts hK hZ hA (c_X7_turned l D aa cI cZ cJ tR tU x3_5 1 σ _ h) (va_cwS 2 hts gX7_partWith_X7_turned rfl rfl rfl hd_X7_turned ⟨Nat.le_of_ble_eq_true rfl, Nat.le_of_ble_eq_true rfl⟩) rfl rfl (Nat.le_of_ble_eq_true rfl) dX7_partWith_14 (fun r14 h => ?_)
      refine gg_iload_n hx hb 2 rfl rfl dX7_partWith_17 ?_
      refine gg_bipush hx hb dX7_partWith_18 rfl ?_
      refine gg_callSip (As := [.int (xI x3_5), .int (xI 7)]) (rest := [.int (xI r14)]) hx hb hml hown hts hK hZ hA (c_X7_turned l D aa cI cZ cJ tR tU x3_5 7 σ _ h) (va_cwS 2 hts gX7_partWith_X7_turned rfl rfl rfl hd_X7_turned ⟨Nat.le_of_ble_eq_true rfl, Nat.le_of_ble_eq_true rfl⟩) rfl rfl (Nat.le_of_ble_eq_true rfl) dX7_partWith_20 (fun r20 h => ?_)
      refine gg_ior hx hb dX7_partWith_23 ?_
      refine gg_istore (lv' := [(5, .int (xI (xOr r14 r20))), (1, .int (xI a1)), (2, .int (xI a2)), (3, .int (xI x3_5)), (4, .int (xI x4_5))]) hx hb (by decide) rfl dX7_partWith_24 ?_
      refine gg_iload_n hx hb 2 rfl rfl dX7_partWith_26 ?_
      have h := h (fun (x5_53 : Int) => GG p l e rmX7_partWith s m args below meth c (QI below D (cX aa cI cZ cJ) A args s (fun r9 σ9 => σ9 = σ ∧ Post r9)) A D (cX aa cI cZ cJ) 6 σ 53 [(1, .int (xI a1)), (2, .int (xI a2)), (3, .int (xI x3_5)), (4, .int (xI x4_5)), (5, .int (xI x5_53))] [])
      have h := h (by
        intro x5_53 h
        refine gg_iload_n hx hb 2 rfl rfl dX7_partWith_53 ?_
        refine gg_iload hx hb 4 rfl dX7_partWith_54 ?_
        refine gg_iload_n hx hb 0 rfl rfl dX7_partWith_56 ?_
        refine gg_iand hx hb dX7_partWith_57 ?_
        refine gg_ior hx hb dX7_partWith_58 ?_
        refine gg_nm (fun z3_59 e59 => ?_)
        have h := h z3_59 e59
        refine gg_istore_n (lv' := [(3, .int (xI z3_59)), (1, .int (xI a1)), (2, .int (xI a2)), (4, .int (xI x4_5)), (5, .int (xI x5_53))]) hx hb rfl (by decide) rfl dX7_partWith_59 ?_
        refine gg_iinc (lv' := [(4, .int (xI (x4_5 + 1))), (3, .int (xI z3_59)), (1, .int (xI a1)), (2, .int (xI a2)), (5, .int (xI x5_53))]) hx hb 3 rfl (by decide) rfl dX7_partWith_60 ?_
        refine gg_goto (tgt := 5) hx hb dX7_partWith_63 rfl ?_
        refine gg_lv [2, 3, 1, 0] rfl ?_
        exact h)
      refine gg_if_eq (tgt := 53) hx hb h.1 dX7_partWith_27 rfl (fun c27 => ?_) (fun c27 => ?_)
      · have h := h.2.1 c27
        refine gg_lv [1, 2, 3, 4, 0] rfl ?_
        exact h
      · have h := h.2.2 c27
        refine gg_iload hx hb 0 rfl dX7_partWith_30 ?_
        refine gg_iload_n hx hb 3 rfl rfl dX7_partWith_32 ?_
        refine gg_bipush hx hb dX7_partWith_33 rfl ?_
        refine gg_iand hx hb dX7_partWith_35 ?_
        refine gg_iconst hx hb dX7_partWith_36 ?_
        refine gg_callSip (As := [.int (xI (xAnd x3_5 85)), .int (xI 2)]) (rest := [.int (xI (xOr r14 r20))]) hx hb hml hown hts hK hZ hA (c_X7_turned l D aa cI cZ cJ tR tU (xAnd x3_5 85) 2 σ _ h) (va_cwS 2 hts gX7_partWith_X7_turned rfl rfl rfl hd_X7_turned ⟨Nat.le_of_ble_eq_true rfl, Nat.le_of_ble_eq_true rfl⟩) rfl rfl (Nat.le_of_ble_eq_true rfl) dX7_partWith_37 (fun r37 h => ?_)
        refine gg_iload_n hx hb 3 rfl rfl dX7_partWith_40 ?_
        refine gg_bipush hx hb dX7_partWith_41 rfl ?_
        refine gg_iand hx hb dX7_partWith_43 ?_
        refine gg_bipush hx hb dX7_partWith_44 rfl ?_
        refine gg_callSip (As := [.int (xI (xAnd x3_5 85)), .int (xI 6)]) (rest := [.int (xI r37), .int (xI (xOr r14 r20))]) hx hb hml hown hts hK hZ hA (c_X7_turned l D aa cI cZ cJ tR tU (xAnd x3_5 85) 6 σ _ h) (va_cwS 2 hts gX7_partWith_X7_turned rfl rfl rfl hd_X7_turned ⟨Nat.le_of_ble_eq_true rfl, Nat.le_of_ble_eq_true rfl⟩) rfl rfl (Nat.le_of_ble_eq_true rfl) dX7_partWith_46 (fun r46 h => ?_)
        refine gg_ior hx hb dX7_partWith_49 ?_
        refine gg_ior hx hb dX7_partWith_50 ?_
        refine gg_nm (fun z5_51 e51 => ?_)
        have h := h z5_51 e51
        refine gg_istore (lv' := [(5, .int (xI z5_51)), (1, .int (xI a1)), (2, .int (xI a2)), (3, .int (xI x3_5)), (4, .int (xI x4_5))]) hx hb (by decide) rfl dX7_partWith_51 ?_
        refine gg_lv [1, 2, 3, 4, 0] rfl ?_
        exact h)
  refine gg_lv [3, 4, 1, 0] rfl ?_
  exact h
abbrev rmX7_eightLetGo : Room := { frames := 2, cells := 0, slots := 0, locals := 46 }
theorem hd_X7_eightLetGo : (yX7_eightLetGo.cls ≠ "java/lang/invoke/MethodHandle" ∧ yX7_eightLetGo.cls ≠ "java/lang/invoke/VarHandle" ∧ (parseMethodDescriptor yX7_eightLetGo.desc).map (fun d => d.parameters.length) = some 1) := by decide +kernel
set_option maxRecDepth 100000 in
set_option maxHeartbeats 4000000 in
theorem c_X7_eightLetGo (l : Launch) (D : va_G) (aa : Nat → Nat) (cI cZ cJ : ClassId) (tR tU : Nat) (a0 : Int) (σ : xSt) (Post : Int → Prop) (h : wp_X7_eightLetGo a0 σ Post) : MI l D (tyL cI cZ cJ) (cX aa cI cZ cJ) tR tU yX7_eightLetGo wsX7_eightLetGo rmX7_eightLetGo [.int (xI a0)] σ (fun r9 σ9 => σ9 = σ ∧ Post r9) := by
  refine mi_of (cc := cX7_eightLetGo) (maxL := 5) (ret := (some .boolean)) (by decide) rfl (Nat.le_of_ble_eq_true rfl) ?_
  intro p e s m args below meth c A hF
  obtain ⟨hx, hb, hr, hml, hown, hts, hlk, hK, hZ, hA⟩ := hF
  have hown : s.vm.findClass RX7 = some m.cls := hown
  delta wp_X7_eightLetGo at h
  refine gg_lv (lv' := [(0, .int (xI a0))]) [0] rfl ?_
  refine gg_sipush hx hb dX7_eightLetGo_0 rfl ?_
  refine gg_iload_n hx hb 0 rfl rfl dX7_eightLetGo_3 ?_
  refine gg_iconst hx hb dX7_eightLetGo_4 ?_
  refine gg_ixor hx hb dX7_eightLetGo_5 ?_
  refine gg_iand hx hb dX7_eightLetGo_6 ?_
  refine gg_nm (fun z1_7 e7 => ?_)
  have h := h z1_7 e7
  refine gg_istore_n (lv' := [(1, .int (xI z1_7)), (0, .int (xI a0))]) hx hb rfl (by decide) rfl dX7_eightLetGo_7 ?_
  refine gg_iload_n hx hb 0 rfl rfl dX7_eightLetGo_8 ?_
  refine gg_bipush hx hb dX7_eightLetGo_9 rfl ?_
  refine gg_iand hx hb dX7_eightLetGo_11 ?_
  refine gg_istore_n (lv' := [(2, .int (xI (xAnd z1_7 85))), (1, .int (xI z1_7)), (0, .int (xI a0))]) hx hb rfl (by decide) rfl dX7_eightLetGo_12 ?_
  refine gg_iload_n hx hb 2 rfl rfl dX7_eightLetGo_13 ?_
  refine gg_if_eq (tgt := 21) hx hb h.1 dX7_eightLetGo_14 rfl (fun c14 => ?_) (fun c14 => ?_)
  · have h := h.2.1 c14
    refine gg_iconst hx hb dX7_eightLetGo_21 ?_
    exact gg_zret hx hb hr hlk (Or.inl rfl) ⟨rfl, h⟩ dX7_eightLetGo_22
  · have h := h.2.2 c14
    refine gg_iload_n hx hb 0 rfl rfl dX7_eightLetGo_17 ?_
    refine gg_if_ne (tgt := 23) hx hb h.1 dX7_eightLetGo_18 rfl (fun c18 => ?_) (fun c18 => ?_)
    · have h := h.2.1 c18
      refine gg_iload_n hx hb 2 rfl rfl dX7_eightLetGo_23 ?_
      refine gg_iload_n hx hb 2 rfl rfl dX7_eightLetGo_24 ?_
      refine gg_ineg hx hb dX7_eightLetGo_25 ?_
      refine gg_iand hx hb dX7_eightLetGo_26 ?_
      refine gg_iload_n hx hb 2 rfl rfl dX7_eightLetGo_27 ?_
      refine gg_iconst hx hb dX7_eightLetGo_28 ?_
      refine gg_callSip (As := [.int (xI (xAnd a0 (-a0))), .int (xI a0), .int (xI 1)]) (rest := []) hx hb hml hown hts hK hZ hA (c_X7_partWith l D aa cI cZ cJ tR tU (xAnd a0 (-a0)) a0 1 σ _ h) (va_cwS 3 hts gX7_eightLetGo_X7_partWith rfl rfl rfl hd_X7_partWith ⟨Nat.le_of_ble_eq_true rfl, Nat.le_of_ble_eq_true rfl⟩) rfl rfl (Nat.le_of_ble_eq_true rfl) dX7_eightLetGo_29 (fun r29 h => ?_)
      refine gg_iload_n hx hb 2 rfl rfl dX7_eightLetGo_32 ?_
      have h := h (fun (y0_41 : Int) => GG p l e rmX7_eightLetGo s m args below meth c (QI below D (cX aa cI cZ cJ) A args s (fun r9 σ9 => σ9 = σ ∧ Post r9)) A D (cX aa cI cZ cJ) 5 σ 41 [(1, .int (xI z1_7)), (2, .int (xI (xAnd z1_7 85)))] [.int (xI y0_41)])
      have h := h (by
        intro y0_41 h
        refine gg_istore_n (lv' := [(3, .int (xI y0_41)), (1, .int (xI z1_7)), (2, .int (xI (xAnd z1_7 85)))]) hx hb rfl (by decide) rfl dX7_eightLetGo_41 ?_
        refine gg_iload_n hx hb 2 rfl rfl dX7_eightLetGo_42 ?_
        refine gg_iload_n hx hb 2 rfl rfl dX7_eightLetGo_43 ?_
        refine gg_ineg hx hb dX7_eightLetGo_44 ?_
        refine gg_iand hx hb dX7_eightLetGo_45 ?_
        refine gg_iload_n hx hb 1 rfl rfl dX7_eightLetGo_46 ?_
        refine gg_iconst hx hb dX7_eightLetGo_47 ?_
        refine gg_callSip (As := [.int (xI (xAnd (xAnd z1_7 85) (-(xAnd z1_7 85)))), .int (xI z1_7), .int (xI 0)]) (rest := []) hx hb hml hown hts hK hZ hA (c_X7_partWith l D aa cI cZ cJ tR tU (xAnd (xAnd z1_7 85) (-(xAnd z1_7 85))) z1_7 0 σ _ h) (va_cwS 3 hts gX7_eightLetGo_X7_partWith rfl rfl rfl hd_X7_partWith ⟨Nat.le_of_ble_eq_true rfl, Nat.le_of_ble_eq_true rfl⟩) rfl rfl (Nat.le_of_ble_eq_true rfl) dX7_eightLetGo_48 (fun r48 h => ?_)
        refine gg_istore (lv' := [(4, .int (xI r48)), (3, .int (xI y0_41)), (1, .int (xI z1_7)), (2, .int (xI (xAnd z1_7 85)))]) hx hb (by decide) rfl dX7_eightLetGo_51 ?_
        refine gg_iload_n hx hb 1 rfl rfl dX7_eightLetGo_53 ?_
        refine gg_if_eq (tgt := 70) hx hb h.1 dX7_eightLetGo_54 rfl (fun c54 => ?_) (fun c54 => ?_)
        · have h := h.2.1 c54
          refine gg_iconst hx hb dX7_eightLetGo_70 ?_
          exact gg_zret hx hb hr hlk (Or.inl rfl) ⟨rfl, h⟩ dX7_eightLetGo_71
        · have h := h.2.2 c54
          refine gg_iload_n hx hb 3 rfl rfl dX7_eightLetGo_57 ?_
          refine gg_iload hx hb 0 rfl dX7_eightLetGo_58 ?_
          refine gg_iconst hx hb dX7_eightLetGo_60 ?_
          refine gg_ixor hx hb dX7_eightLetGo_61 ?_
          refine gg_iand hx hb dX7_eightLetGo_62 ?_
          refine gg_if_ne (tgt := 70) hx hb h.1 dX7_eightLetGo_63 rfl (fun c63 => ?_) (fun c63 => ?_)
          · have h := h.2.1 c63
            refine gg_iconst hx hb dX7_eightLetGo_70 ?_
            exact gg_zret hx hb hr hlk (Or.inl rfl) ⟨rfl, h⟩ dX7_eightLetGo_71
          · have h := h.2.2 c63
            refine gg_iconst hx hb dX7_eightLetGo_66 ?_
            refine gg_goto (tgt := 71) hx hb dX7_eightLetGo_67 rfl ?_
            exact gg_zret hx hb hr hlk (Or.inr rfl) ⟨rfl, h⟩ dX7_eightLetGo_71)
      refine gg_icmp_ne (tgt := 40) hx hb h.1 h.2.1 dX7_eightLetGo_33 rfl (fun c33 => ?_) (fun c33 => ?_)
      · have h := h.2.2.1 c33
        refine gg_iconst hx hb dX7_eightLetGo_40 ?_
        refine gg_lv [1, 0] rfl ?_
        exact h
      · have h := h.2.2.2 c33
        refine gg_iconst hx hb dX7_eightLetGo_36 ?_
        refine gg_goto (tgt := 41) hx hb dX7_eightLetGo_37 rfl ?_
        refine gg_lv [1, 0] rfl ?_
        exact h
    · have h := h.2.2 c18
      refine gg_iconst hx hb dX7_eightLetGo_21 ?_
      exact gg_zret hx hb hr hlk (Or.inl rfl) ⟨rfl, h⟩ dX7_eightLetGo_22
abbrev rmX7_isLoose : Room := { frames := 5, cells := 0, slots := 0, locals := 109 }
theorem hd_X7_isLoose : (yX7_isLoose.cls = RX7 ∧ yX7_isLoose.cls ≠ "java/lang/invoke/MethodHandle" ∧ yX7_isLoose.cls ≠ "java/lang/invoke/VarHandle" ∧ (parseMethodDescriptor yX7_isLoose.desc).map (fun d => d.parameters.length) = some 2) := by decide +kernel
set_option maxRecDepth 100000 in
set_option maxHeartbeats 4000000 in
theorem c_X7_isLoose (l : Launch) (D : va_G) (aa : Nat → Nat) (cI cZ cJ : ClassId) (tR tU : Nat) (a2 : Int) (σ : xSt) (Post : Int → Prop) (h : wp_X7_isLoose a2 σ Post) : MI l D (tyL cI cZ cJ) (cX aa cI cZ cJ) tR tU yX7_isLoose wsX7_isLoose rmX7_isLoose [.ref (aa 21), .ref (aa 7), .int (xI a2)] σ (fun r9 σ9 => σ9 = σ ∧ Post r9) := by
  refine mi_of (cc := cX7_isLoose) (maxL := 3) (ret := (some .boolean)) (by decide) rfl (Nat.le_of_ble_eq_true rfl) ?_
  intro p e s m args below meth c A hF
  obtain ⟨hx, hb, hr, hml, hown, hts, hlk, hK, hZ, hA⟩ := hF
  have hown : s.vm.findClass RX7 = some m.cls := hown
  delta wp_X7_isLoose at h
  refine gg_lv (lv' := [(0, .ref (aa 21)), (1, .ref (aa 7)), (2, .int (xI a2))]) [0, 1, 2] rfl ?_
  refine gg_aload_n hx hb 1 rfl rfl dX7_isLoose_0 ?_
  refine gg_iload_n hx hb 2 rfl rfl dX7_isLoose_1 ?_
  refine gg_callVip (As := [.int (xI a2)]) (rest := []) hx hb hml hown hts hK hZ hA (c_X2_holds l D aa cI cZ cJ tR tU a2 σ _ h) (cwV 1 hts gX7_isLoose_X2_holds rfl rfl rfl hd_X2_holds ⟨Nat.le_of_ble_eq_true rfl, Nat.le_of_ble_eq_true rfl⟩) 7 rfl rfl rfl rfl (Nat.le_of_ble_eq_true rfl) dX7_isLoose_2 (fun r2 h => ?_)
  refine gg_if_eq (tgt := 23) hx hb h.1 dX7_isLoose_5 rfl (fun c5 => ?_) (fun c5 => ?_)
  · have h := h.2.1 c5
    refine gg_iconst hx hb dX7_isLoose_23 ?_
    exact gg_zret hx hb hr hlk (Or.inl rfl) ⟨rfl, h⟩ dX7_isLoose_24
  · have h := h.2.2 c5
    refine gg_aload_n hx hb 1 rfl rfl dX7_isLoose_8 ?_
    refine gg_iload_n hx hb 2 rfl rfl dX7_isLoose_9 ?_
    refine gg_callVip (As := [.int (xI a2)]) (rest := []) hx hb hml hown hts hK hZ hA (c_X2_eightAbout l D aa cI cZ cJ tR tU a2 σ _ h) (cwV 1 hts gX7_isLoose_X2_eightAbout rfl rfl rfl hd_X2_eightAbout ⟨Nat.le_of_ble_eq_true rfl, Nat.le_of_ble_eq_true rfl⟩) 7 rfl rfl rfl rfl (Nat.le_of_ble_eq_true rfl) dX7_isLoose_10 (fun r10 h => ?_)
    refine gg_callSip (As := [.int (xI r10)]) (rest := []) hx hb hml hown hts hK hZ hA (c_X7_eightLetGo l D aa cI cZ cJ tR tU r10 σ _ h) (va_cwS 1 hts gX7_isLoose_X7_eightLetGo rfl rfl rfl hd_X7_eightLetGo ⟨Nat.le_of_ble_eq_true rfl, Nat.le_of_ble_eq_true rfl⟩) rfl rfl (Nat.le_of_ble_eq_true rfl) dX7_isLoose_13 (fun r13 h => ?_)
    refine gg_if_eq (tgt := 23) hx hb h.1 dX7_isLoose_16 rfl (fun c16 => ?_) (fun c16 => ?_)
    · have h := h.2.1 c16
      refine gg_iconst hx hb dX7_isLoose_23 ?_
      exact gg_zret hx hb hr hlk (Or.inl rfl) ⟨rfl, h⟩ dX7_isLoose_24
    · have h := h.2.2 c16
      refine gg_iconst hx hb dX7_isLoose_19 ?_
      refine gg_goto (tgt := 24) hx hb dX7_isLoose_20 rfl ?_
      exact gg_zret hx hb hr hlk (Or.inr rfl) ⟨rfl, h⟩ dX7_isLoose_24
abbrev rmX9_loose : Room := { frames := 6, cells := 0, slots := 0, locals := 131 }
theorem iX9_loose_X9 : ∀ w ∈ u_ws RX9 TX9 9, w ∈ wsX9_loose := (fun _ h => List.mem_cons_of_mem _ (List.mem_append_left _ (List.mem_append_right _ h)))
theorem hd_X9_loose : (yX9_loose.cls = RX9 ∧ yX9_loose.cls ≠ "java/lang/invoke/MethodHandle" ∧ yX9_loose.cls ≠ "java/lang/invoke/VarHandle" ∧ (parseMethodDescriptor yX9_loose.desc).map (fun d => d.parameters.length) = some 1) := by decide +kernel
set_option maxRecDepth 100000 in
set_option maxHeartbeats 4000000 in
theorem c_X9_loose (l : Launch) (D : va_G) (aa : Nat → Nat) (cI cZ cJ : ClassId) (tR tU : Nat) (a1 : Int) (σ : xSt) (Post : Int → Prop) (h : wp_X9_loose a1 σ Post) : MI l D (tyL cI cZ cJ) (cX aa cI cZ cJ) tR tU yX9_loose wsX9_loose rmX9_loose [.ref (aa 0), .int (xI a1)] σ (fun r9 σ9 => σ9 = σ ∧ Post r9) := by
  refine mi_of (cc := cX9_loose) (maxL := 2) (ret := (some .int)) (by decide) rfl (Nat.le_of_ble_eq_true rfl) ?_
  intro p e s m args below meth c A hF
  obtain ⟨hx, hb, hr, hml, hown, hts, hlk, hK, hZ, hA⟩ := hF
  have hown : s.vm.findClass RX9 = some m.cls := hown
  delta wp_X9_loose at h
  refine gg_lv (lv' := [(0, .ref (aa 0)), (1, .int (xI a1))]) [0, 1] rfl ?_
  refine gg_aload_n hx hb 0 rfl rfl dX9_loose_0 ?_
  refine gg_get (C := RX9) (T := TX9) (N := 9) hx hb hts hown hK iX9_loose_X9 0 rfl rfl 2 (by decide) (List.mem_of_getElem? (i := 1) rfl) rfl dX9_loose_1 ?_
  refine gg_iload_n hx hb 1 rfl rfl dX9_loose_4 ?_
  refine gg_callVip (As := [.int (xI a1)]) (rest := []) hx hb hml hown hts hK hZ hA (c_X2_knows l D aa cI cZ cJ tR tU a1 σ _ h) (cwV 1 hts gX9_loose_X2_knows rfl rfl rfl hd_X2_knows ⟨Nat.le_of_ble_eq_true rfl, Nat.le_of_ble_eq_true rfl⟩) 7 rfl rfl rfl rfl (Nat.le_of_ble_eq_true rfl) dX9_loose_5 (fun r5 h => ?_)
  refine gg_if_ne (tgt := 15) hx hb h.1 dX9_loose_8 rfl (fun c8 => ?_) (fun c8 => ?_)
  · have h := h.2.1 c8
    refine gg_aload_n hx hb 0 rfl rfl dX9_loose_15 ?_
    refine gg_get (C := RX9) (T := TX9) (N := 9) hx hb hts hown hK iX9_loose_X9 0 rfl rfl 8 (by decide) (List.mem_of_getElem? (i := 2) rfl) rfl dX9_loose_16 ?_
    refine gg_aload_n hx hb 0 rfl rfl dX9_loose_19 ?_
    refine gg_get (C := RX9) (T := TX9) (N := 9) hx hb hts hown hK iX9_loose_X9 0 rfl rfl 2 (by decide) (List.mem_of_getElem? (i := 1) rfl) rfl dX9_loose_20 ?_
    refine gg_iload_n hx hb 1 rfl rfl dX9_loose_23 ?_
    refine gg_callVip (As := [.ref (aa 7), .int (xI a1)]) (rest := []) hx hb hml hown hts hK hZ hA (c_X7_isLoose l D aa cI cZ cJ tR tU a1 σ _ h) (cwV 2 hts gX9_loose_X7_isLoose rfl rfl rfl hd_X7_isLoose ⟨Nat.le_of_ble_eq_true rfl, Nat.le_of_ble_eq_true rfl⟩) 21 rfl rfl rfl rfl (Nat.le_of_ble_eq_true rfl) dX9_loose_24 (fun r24 h => ?_)
    refine gg_if_eq (tgt := 34) hx hb h.1 dX9_loose_27 rfl (fun c27 => ?_) (fun c27 => ?_)
    · have h := h.2.1 c27
      refine gg_iconst hx hb dX9_loose_34 ?_
      exact gg_iret hx hb hr hlk ⟨rfl, h⟩ dX9_loose_35
    · have h := h.2.2 c27
      refine gg_iconst hx hb dX9_loose_30 ?_
      refine gg_goto (tgt := 35) hx hb dX9_loose_31 rfl ?_
      exact gg_iret hx hb hr hlk ⟨rfl, h⟩ dX9_loose_35
  · have h := h.2.2 c8
    refine gg_sipush hx hb dX9_loose_11 rfl ?_
    exact gg_iret hx hb hr hlk ⟨rfl, h⟩ dX9_loose_14
abbrev rmX7_mayGo : Room := { frames := 3, cells := 0, slots := 0, locals := 70 }
theorem hd_X7_mayGo : (yX7_mayGo.cls ≠ "java/lang/invoke/MethodHandle" ∧ yX7_mayGo.cls ≠ "java/lang/invoke/VarHandle" ∧ (parseMethodDescriptor yX7_mayGo.desc).map (fun d => d.parameters.length) = some 1) := by decide +kernel
set_option maxRecDepth 100000 in
set_option maxHeartbeats 4000000 in
theorem c_X7_mayGo (l : Launch) (D : va_G) (aa : Nat → Nat) (cI cZ cJ : ClassId) (tR tU : Nat) (a0 : Int) (σ : xSt) (Post : Int → Prop) (h : wp_X7_mayGo a0 σ Post) : MI l D (tyL cI cZ cJ) (cX aa cI cZ cJ) tR tU yX7_mayGo wsX7_mayGo rmX7_mayGo [.int (xI a0)] σ (fun r9 σ9 => σ9 = σ ∧ Post r9) := by
  refine mi_of (cc := cX7_mayGo) (maxL := 1) (ret := (some .boolean)) (by decide) rfl (Nat.le_of_ble_eq_true rfl) ?_
  intro p e s m args below meth c A hF
  obtain ⟨hx, hb, hr, hml, hown, hts, hlk, hK, hZ, hA⟩ := hF
  have hown : s.vm.findClass RX7 = some m.cls := hown
  delta wp_X7_mayGo at h
  refine gg_lv (lv' := [(0, .int (xI a0))]) [0] rfl ?_
  refine gg_iload_n hx hb 0 rfl rfl dX7_mayGo_0 ?_
  refine gg_callSip (As := [.int (xI a0)]) (rest := []) hx hb hml hown hts hK hZ hA (c_J6_bitCount_0f7a4 l D aa cI cZ cJ tR tU a0 σ _ h) (va_cwS 1 hts gX7_mayGo_J6_bitCount_0f7a4 rfl rfl rfl hd_J6_bitCount_0f7a4 ⟨Nat.le_of_ble_eq_true rfl, Nat.le_of_ble_eq_true rfl⟩) rfl rfl (Nat.le_of_ble_eq_true rfl) dX7_mayGo_1 (fun r1 h => ?_)
  refine gg_iconst hx hb dX7_mayGo_4 ?_
  refine gg_icmp_eq (tgt := 19) hx hb h.1 (by decide) dX7_mayGo_5 rfl (fun c5 => ?_) (fun c5 => ?_)
  · have h := h.2.1 c5
    refine gg_iconst hx hb dX7_mayGo_19 ?_
    exact gg_zret hx hb hr hlk (Or.inl rfl) ⟨rfl, h⟩ dX7_mayGo_20
  · have h := h.2.2 c5
    refine gg_iload_n hx hb 0 rfl rfl dX7_mayGo_8 ?_
    refine gg_callSip (As := [.int (xI a0)]) (rest := []) hx hb hml hown hts hK hZ hA (c_X7_eightLetGo l D aa cI cZ cJ tR tU a0 σ _ h) (va_cwS 1 hts gX7_mayGo_X7_eightLetGo rfl rfl rfl hd_X7_eightLetGo ⟨Nat.le_of_ble_eq_true rfl, Nat.le_of_ble_eq_true rfl⟩) rfl rfl (Nat.le_of_ble_eq_true rfl) dX7_mayGo_9 (fun r9 h => ?_)
    refine gg_if_eq (tgt := 19) hx hb h.1 dX7_mayGo_12 rfl (fun c12 => ?_) (fun c12 => ?_)
    · have h := h.2.1 c12
      refine gg_iconst hx hb dX7_mayGo_19 ?_
      exact gg_zret hx hb hr hlk (Or.inl rfl) ⟨rfl, h⟩ dX7_mayGo_20
    · have h := h.2.2 c12
      refine gg_iconst hx hb dX7_mayGo_15 ?_
      refine gg_goto (tgt := 20) hx hb dX7_mayGo_16 rfl ?_
      exact gg_zret hx hb hr hlk (Or.inr rfl) ⟨rfl, h⟩ dX7_mayGo_20
