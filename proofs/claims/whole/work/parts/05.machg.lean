abbrev rmX10_fill : Room := { frames := 3, cells := 0, slots := 0, locals := 66 }
theorem iX10_fill_X10 : ∀ w ∈ u_ws RX10 TX10 18, w ∈ wsX10_fill := (fun _ h => List.mem_cons_of_mem _ (List.mem_append_right _ h))
theorem hd_X10_fill : (yX10_fill.cls = RX10 ∧ yX10_fill.cls ≠ "java/lang/invoke/MethodHandle" ∧ yX10_fill.cls ≠ "java/lang/invoke/VarHandle" ∧ (parseMethodDescriptor yX10_fill.desc).map (fun d => d.parameters.length) = some 2) := by decide +kernel
set_option maxRecDepth 100000 in
set_option maxHeartbeats 4000000 in
theorem c_X10_fill (l : Launch) (D : va_G) (aa : Nat → Nat) (cI cZ cJ : ClassId) (tR tU : Nat) (a1 : Int) (a2 : Int) (σ : xSt) (Post : Int → xSt → Prop) (h : wp_X10_fill a1 a2 σ Post) : MI l D (tyL cI cZ cJ) (cM aa cI cZ cJ) tR tU yX10_fill wsX10_fill rmX10_fill [.ref (aa 0), .int (xI a1), .int (xI a2)] σ Post := by
  refine mi_of (cc := cX10_fill) (maxL := 6) (ret := (some .int)) (by decide) rfl (Nat.le_of_ble_eq_true rfl) ?_
  intro p e s m args below meth c A hF
  obtain ⟨hx, hb, hr, hml, hown, hts, hlk, hK, hZ, hA⟩ := hF
  have hown : s.vm.findClass RX10 = some m.cls := hown
  delta wp_X10_fill at h
  refine gg_lv (lv' := [(0, .ref (aa 0)), (1, .int (xI a1)), (2, .int (xI a2))]) [0, 1, 2] rfl ?_
  refine gg_aload_n hx hb 0 rfl rfl dX10_fill_0 ?_
  refine gg_iconst hx hb dX10_fill_1 ?_
  refine gg_put (C := RX10) (T := TX10) (N := 18) hx hb hts hown hK iX10_fill_X10 tyX10 tyX10_ok nmX10 0 rfl rfl 0 (by decide) (List.mem_of_getElem? (i := 1) rfl) rfl rfl (Nat.le_of_ble_eq_true rfl) (cM_set_0_0 aa cI cZ cJ _ _) dX10_fill_2 (fun σ_2 e2 => ?_)
  have h := h σ_2 e2
  refine gg_aload_n hx hb 0 rfl rfl dX10_fill_5 ?_
  refine gg_iload_n hx hb 1 rfl rfl dX10_fill_6 ?_
  refine gg_callVip (As := [.int (xI a1)]) (rest := []) hx hb hml hown hts hK hZ hA (c_X10_noField l D aa cI cZ cJ tR tU a1 σ_2 _ h) (cwV 1 hts gX10_fill_X10_noField rfl rfl rfl hd_X10_noField ⟨Nat.le_of_ble_eq_true rfl, Nat.le_of_ble_eq_true rfl⟩) 0 rfl rfl rfl rfl (Nat.le_of_ble_eq_true rfl) dX10_fill_7 (fun r7 h => ?_)
  refine gg_if_eq (tgt := 17) hx hb h.1 dX10_fill_10 rfl (fun c10 => ?_) (fun c10 => ?_)
  · have h := h.2.1 c10
    refine gg_iconst hx hb dX10_fill_17 ?_
    refine gg_istore_n (lv' := [(3, .int (xI 0)), (0, .ref (aa 0)), (1, .int (xI a1)), (2, .int (xI a2))]) hx hb rfl (by decide) rfl dX10_fill_18 ?_
    have h := h (fun (x3_19 : Int) (s19 : xSt) => GG p l e rmX10_fill s m args below meth c (QI below D (cM aa cI cZ cJ) A args s Post) A D (cM aa cI cZ cJ) 6 s19 19 [(0, .ref (aa 0)), (1, .int (xI a1)), (2, .int (xI a2)), (3, .int (xI x3_19))] [])
    have h := h (by
      intro x3_19 s19 h
      refine gg_iload_n hx hb 3 rfl rfl dX10_fill_19 ?_
      refine gg_sipush hx hb dX10_fill_20 rfl ?_
      refine gg_icmp_ge (tgt := 39) hx hb h.1 (by decide) dX10_fill_23 rfl (fun c23 => ?_) (fun c23 => ?_)
      · have h := h.2.1 c23
        refine gg_iconst hx hb dX10_fill_39 ?_
        refine gg_istore_n (lv' := [(3, .int (xI 0)), (0, .ref (aa 0)), (1, .int (xI a1)), (2, .int (xI a2))]) hx hb rfl (by decide) rfl dX10_fill_40 ?_
        have h := h (fun (x3_41 : Int) (s41 : xSt) => GG p l e rmX10_fill s m args below meth c (QI below D (cM aa cI cZ cJ) A args s Post) A D (cM aa cI cZ cJ) 6 s41 41 [(0, .ref (aa 0)), (1, .int (xI a1)), (2, .int (xI a2)), (3, .int (xI x3_41))] [])
        have h := h (by
          intro x3_41 s41 h
          refine gg_iload_n hx hb 3 rfl rfl dX10_fill_41 ?_
          refine gg_aload_n hx hb 0 rfl rfl dX10_fill_42 ?_
          refine gg_get (C := RX10) (T := TX10) (N := 18) hx hb hts hown hK iX10_fill_X10 0 rfl rfl 1 (by decide) (List.mem_of_getElem? (i := 3) rfl) rfl dX10_fill_43 ?_
          refine gg_icmp_gt (tgt := 116) hx hb h.1 h.2.1 dX10_fill_46 rfl (fun c46 => ?_) (fun c46 => ?_)
          · have h := h.2.2.1 c46
            refine gg_iload_n hx hb 2 rfl rfl dX10_fill_116 ?_
            have h := h (GG p l e rmX10_fill s m args below meth c (QI below D (cM aa cI cZ cJ) A args s Post) A D (cM aa cI cZ cJ) 6 s41 148 [(0, .ref (aa 0)), (2, .int (xI a2))] [])
            have h := h (by
              intro h
              refine gg_aload_n hx hb 0 rfl rfl dX10_fill_148 ?_
              refine gg_iconst hx hb dX10_fill_149 ?_
              refine gg_callVv (As := [.int (xI 0)]) (rest := []) hx hb hml hown hts hK hZ hA (c_X10_hang l D aa cI cZ cJ tR tU 0 s41 _ h) (cwV 1 hts gX10_fill_X10_hang rfl rfl rfl hd_X10_hang ⟨Nat.le_of_ble_eq_true rfl, Nat.le_of_ble_eq_true rfl⟩) 0 rfl rfl rfl rfl (Nat.le_of_ble_eq_true rfl) dX10_fill_150 (fun t150 h => ?_)
              refine gg_iconst hx hb dX10_fill_153 ?_
              refine gg_istore_n (lv' := [(3, .int (xI 0)), (0, .ref (aa 0)), (2, .int (xI a2))]) hx hb rfl (by decide) rfl dX10_fill_154 ?_
              have h := h (fun (x3_155 : Int) (s155 : xSt) => GG p l e rmX10_fill s m args below meth c (QI below D (cM aa cI cZ cJ) A args s Post) A D (cM aa cI cZ cJ) 6 s155 155 [(0, .ref (aa 0)), (2, .int (xI a2)), (3, .int (xI x3_155))] [])
              have h := h (by
                intro x3_155 s155 h
                refine gg_iload_n hx hb 2 rfl rfl dX10_fill_155 ?_
                refine gg_aload_n hx hb 0 rfl rfl dX10_fill_156 ?_
                refine gg_callVip (As := []) (rest := [.int (xI x3_155)]) hx hb hml hown hts hK hZ hA (c_X10_fields l D aa cI cZ cJ tR tU s155 _ h) (cwV 0 hts gX10_fill_X10_fields rfl rfl rfl hd_X10_fields ⟨Nat.le_of_ble_eq_true rfl, Nat.le_of_ble_eq_true rfl⟩) 0 rfl rfl rfl rfl (Nat.le_of_ble_eq_true rfl) dX10_fill_157 (fun r157 h => ?_)
                refine gg_icmp_ge (tgt := 210) hx hb h.1 h.2.1 dX10_fill_160 rfl (fun c160 => ?_) (fun c160 => ?_)
                · have h := h.2.2.1 c160
                  refine gg_aload_n hx hb 0 rfl rfl dX10_fill_210 ?_
                  refine gg_callVip (As := []) (rest := []) hx hb hml hown hts hK hZ hA (c_X10_many l D aa cI cZ cJ tR tU s155 _ h) (cwV 0 hts gX10_fill_X10_many rfl rfl rfl hd_X10_many ⟨Nat.le_of_ble_eq_true rfl, Nat.le_of_ble_eq_true rfl⟩) 0 rfl rfl rfl rfl (Nat.le_of_ble_eq_true rfl) dX10_fill_211 (fun r211 h => ?_)
                  exact gg_iret hx hb hr hlk h dX10_fill_214
                · have h := h.2.2.2 c160
                  refine gg_aload_n hx hb 0 rfl rfl dX10_fill_163 ?_
                  refine gg_get (C := RX10) (T := TX10) (N := 18) hx hb hts hown hK iX10_fill_X10 0 rfl rfl 7 (by decide) (List.mem_of_getElem? (i := 5) rfl) rfl dX10_fill_164 ?_
                  refine gg_iload_n hx hb 2 rfl rfl dX10_fill_167 ?_
                  refine gg_aload_n hx hb 0 rfl rfl dX10_fill_168 ?_
                  refine gg_get (C := RX10) (T := TX10) (N := 18) hx hb hts hown hK iX10_fill_X10 0 rfl rfl 7 (by decide) (List.mem_of_getElem? (i := 5) rfl) rfl dX10_fill_169 ?_
                  refine gg_iload_n hx hb 2 rfl rfl dX10_fill_172 ?_
                  refine gg_zald hx hb hK 4 1 rfl rfl (by decide) h.1 dX10_fill_173 ?_
                  have h := h.2
                  refine gg_if_ne (tgt := 198) hx hb h.1 dX10_fill_174 rfl (fun c174 => ?_) (fun c174 => ?_)
                  · have h := h.2.1 c174
                    refine gg_iconst hx hb dX10_fill_198 ?_
                    refine gg_goto (tgt := 203) hx hb dX10_fill_199 rfl ?_
                    refine gg_zast hx hb hK 4 1 rfl rfl (cM_st_4 aa cI cZ cJ _ _) (by decide) h.1 (Or.inr rfl) dX10_fill_203 (fun σ_203 e203 => ?_)
                    have h := h.2 σ_203 e203
                    refine gg_iinc (lv' := [(3, .int (xI (x3_155 + 1))), (0, .ref (aa 0)), (2, .int (xI a2))]) hx hb 2 rfl (by decide) rfl dX10_fill_204 ?_
                    refine gg_goto (tgt := 155) hx hb dX10_fill_207 rfl ?_
                    refine gg_lv [1, 2, 0] rfl ?_
                    exact h
                  · have h := h.2.2 c174
                    refine gg_aload_n hx hb 0 rfl rfl dX10_fill_177 ?_
                    refine gg_get (C := RX10) (T := TX10) (N := 18) hx hb hts hown hK iX10_fill_X10 0 rfl rfl 8 (by decide) (List.mem_of_getElem? (i := 2) rfl) rfl dX10_fill_178 ?_
                    refine gg_iload_n hx hb 2 rfl rfl dX10_fill_181 ?_
                    refine gg_zald hx hb hK 5 1 rfl rfl (by decide) h.1 dX10_fill_182 ?_
                    have h := h.2
                    refine gg_if_ne (tgt := 198) hx hb h.1 dX10_fill_183 rfl (fun c183 => ?_) (fun c183 => ?_)
                    · have h := h.2.1 c183
                      refine gg_iconst hx hb dX10_fill_198 ?_
                      refine gg_goto (tgt := 203) hx hb dX10_fill_199 rfl ?_
                      refine gg_zast hx hb hK 4 1 rfl rfl (cM_st_4 aa cI cZ cJ _ _) (by decide) h.1 (Or.inr rfl) dX10_fill_203 (fun σ_203 e203 => ?_)
                      have h := h.2 σ_203 e203
                      refine gg_iinc (lv' := [(3, .int (xI (x3_155 + 1))), (0, .ref (aa 0)), (2, .int (xI a2))]) hx hb 2 rfl (by decide) rfl dX10_fill_204 ?_
                      refine gg_goto (tgt := 155) hx hb dX10_fill_207 rfl ?_
                      refine gg_lv [1, 2, 0] rfl ?_
                      exact h
                    · have h := h.2.2 c183
                      refine gg_iload_n hx hb 1 rfl rfl dX10_fill_186 ?_
                      refine gg_if_eq (tgt := 202) hx hb h.1 dX10_fill_187 rfl (fun c187 => ?_) (fun c187 => ?_)
                      · have h := h.2.1 c187
                        refine gg_iconst hx hb dX10_fill_202 ?_
                        refine gg_zast hx hb hK 4 1 rfl rfl (cM_st_4 aa cI cZ cJ _ _) (by decide) h.1 (Or.inl rfl) dX10_fill_203 (fun σ_203 e203 => ?_)
                        have h := h.2 σ_203 e203
                        refine gg_iinc (lv' := [(3, .int (xI (x3_155 + 1))), (0, .ref (aa 0)), (2, .int (xI a2))]) hx hb 2 rfl (by decide) rfl dX10_fill_204 ?_
                        refine gg_goto (tgt := 155) hx hb dX10_fill_207 rfl ?_
                        refine gg_lv [1, 2, 0] rfl ?_
                        exact h
                      · have h := h.2.2 c187
                        refine gg_aload_n hx hb 0 rfl rfl dX10_fill_190 ?_
                        refine gg_iload_n hx hb 2 rfl rfl dX10_fill_191 ?_
                        refine gg_callVip (As := [.int (xI x3_155)]) (rest := [.int (xI x3_155), .ref (aa 4)]) hx hb hml hown hts hK hZ hA (c_X10_comesOut l D aa cI cZ cJ tR tU x3_155 s155 _ h) (cwV 1 hts gX10_fill_X10_comesOut rfl rfl rfl hd_X10_comesOut ⟨Nat.le_of_ble_eq_true rfl, Nat.le_of_ble_eq_true rfl⟩) 0 rfl rfl rfl rfl (Nat.le_of_ble_eq_true rfl) dX10_fill_192 (fun r192 h => ?_)
                        refine gg_if_ne (tgt := 202) hx hb h.1 dX10_fill_195 rfl (fun c195 => ?_) (fun c195 => ?_)
                        · have h := h.2.1 c195
                          refine gg_iconst hx hb dX10_fill_202 ?_
                          refine gg_zast hx hb hK 4 1 rfl rfl (cM_st_4 aa cI cZ cJ _ _) (by decide) h.1 (Or.inl rfl) dX10_fill_203 (fun σ_203 e203 => ?_)
                          have h := h.2 σ_203 e203
                          refine gg_iinc (lv' := [(3, .int (xI (x3_155 + 1))), (0, .ref (aa 0)), (2, .int (xI a2))]) hx hb 2 rfl (by decide) rfl dX10_fill_204 ?_
                          refine gg_goto (tgt := 155) hx hb dX10_fill_207 rfl ?_
                          refine gg_lv [1, 2, 0] rfl ?_
                          exact h
                        · have h := h.2.2 c195
                          refine gg_iconst hx hb dX10_fill_198 ?_
                          refine gg_goto (tgt := 203) hx hb dX10_fill_199 rfl ?_
                          refine gg_zast hx hb hK 4 1 rfl rfl (cM_st_4 aa cI cZ cJ _ _) (by decide) h.1 (Or.inr rfl) dX10_fill_203 (fun σ_203 e203 => ?_)
                          have h := h.2 σ_203 e203
                          refine gg_iinc (lv' := [(3, .int (xI (x3_155 + 1))), (0, .ref (aa 0)), (2, .int (xI a2))]) hx hb 2 rfl (by decide) rfl dX10_fill_204 ?_
                          refine gg_goto (tgt := 155) hx hb dX10_fill_207 rfl ?_
                          refine gg_lv [1, 2, 0] rfl ?_
                          exact h)
              refine gg_lv [1, 2, 0] rfl ?_
              exact h)
            refine gg_if_eq (tgt := 148) hx hb h.1 dX10_fill_117 rfl (fun c117 => ?_) (fun c117 => ?_)
            · have h := h.2.1 c117
              refine gg_lv [0, 2] rfl ?_
              exact h
            · have h := h.2.2 c117
              refine gg_aload_n hx hb 0 rfl rfl dX10_fill_120 ?_
              refine gg_aload_n hx hb 0 rfl rfl dX10_fill_121 ?_
              refine gg_get (C := RX10) (T := TX10) (N := 18) hx hb hts hown hK iX10_fill_X10 0 rfl rfl 1 (by decide) (List.mem_of_getElem? (i := 3) rfl) rfl dX10_fill_122 ?_
              refine gg_iconst hx hb dX10_fill_125 ?_
              refine gg_callVip (As := [.int (xI (s41 0 1)), .int (xI 0)]) (rest := []) hx hb hml hown hts hK hZ hA (c_X10_placeOf l D aa cI cZ cJ tR tU (s41 0 1) 0 s41 _ h) (cwV 2 hts gX10_fill_X10_placeOf rfl rfl rfl hd_X10_placeOf ⟨Nat.le_of_ble_eq_true rfl, Nat.le_of_ble_eq_true rfl⟩) 0 rfl rfl rfl rfl (Nat.le_of_ble_eq_true rfl) dX10_fill_126 (fun r126 h => ?_)
              refine gg_if_ne (tgt := 144) hx hb h.1 dX10_fill_129 rfl (fun c129 => ?_) (fun c129 => ?_)
              · have h := h.2.1 c129
                refine gg_sipush hx hb dX10_fill_144 rfl ?_
                exact gg_iret hx hb hr hlk h dX10_fill_147
              · have h := h.2.2 c129
                refine gg_aload_n hx hb 0 rfl rfl dX10_fill_132 ?_
                refine gg_aload_n hx hb 0 rfl rfl dX10_fill_133 ?_
                refine gg_get (C := RX10) (T := TX10) (N := 18) hx hb hts hown hK iX10_fill_X10 0 rfl rfl 1 (by decide) (List.mem_of_getElem? (i := 3) rfl) rfl dX10_fill_134 ?_
                refine gg_iconst hx hb dX10_fill_137 ?_
                refine gg_callVip (As := [.int (xI (s41 0 1)), .int (xI 1)]) (rest := []) hx hb hml hown hts hK hZ hA (c_X10_placeOf l D aa cI cZ cJ tR tU (s41 0 1) 1 s41 _ h) (cwV 2 hts gX10_fill_X10_placeOf rfl rfl rfl hd_X10_placeOf ⟨Nat.le_of_ble_eq_true rfl, Nat.le_of_ble_eq_true rfl⟩) 0 rfl rfl rfl rfl (Nat.le_of_ble_eq_true rfl) dX10_fill_138 (fun r138 h => ?_)
                refine gg_if_eq (tgt := 148) hx hb h.1 dX10_fill_141 rfl (fun c141 => ?_) (fun c141 => ?_)
                · have h := h.2.1 c141
                  refine gg_lv [0, 2] rfl ?_
                  exact h
                · have h := h.2.2 c141
                  refine gg_sipush hx hb dX10_fill_144 rfl ?_
                  exact gg_iret hx hb hr hlk h dX10_fill_147
          · have h := h.2.2.2 c46
            refine gg_iload_n hx hb 1 rfl rfl dX10_fill_49 ?_
            refine gg_aload_n hx hb 0 rfl rfl dX10_fill_50 ?_
            refine gg_get (C := RX10) (T := TX10) (N := 18) hx hb hts hown hK iX10_fill_X10 0 rfl rfl 5 (by decide) (List.mem_of_getElem? (i := 4) rfl) rfl dX10_fill_51 ?_
            refine gg_irem hx hb h.1 h.2.1 h.2.2.1 dX10_fill_54 ?_
            have h := h.2.2.2
            refine gg_aload_n hx hb 0 rfl rfl dX10_fill_55 ?_
            refine gg_iload_n hx hb 3 rfl rfl dX10_fill_56 ?_
            refine gg_iconst hx hb dX10_fill_57 ?_
            refine gg_callVip (As := [.int (xI x3_41), .int (xI 0)]) (rest := [.int (xI (Int.tmod a1 (s41 0 5)))]) hx hb hml hown hts hK hZ hA (c_X10_placeOf l D aa cI cZ cJ tR tU x3_41 0 s41 _ h) (cwV 2 hts gX10_fill_X10_placeOf rfl rfl rfl hd_X10_placeOf ⟨Nat.le_of_ble_eq_true rfl, Nat.le_of_ble_eq_true rfl⟩) 0 rfl rfl rfl rfl (Nat.le_of_ble_eq_true rfl) dX10_fill_58 (fun r58 h => ?_)
            refine gg_iadd hx hb dX10_fill_61 ?_
            refine gg_nm (fun z4_62 e62 => ?_)
            have h := h z4_62 e62
            refine gg_istore (lv' := [(4, .int (xI z4_62)), (0, .ref (aa 0)), (1, .int (xI a1)), (2, .int (xI a2)), (3, .int (xI x3_41))]) hx hb (by decide) rfl dX10_fill_62 ?_
            refine gg_iload_n hx hb 2 rfl rfl dX10_fill_64 ?_
            refine gg_aload_n hx hb 1 rfl rfl dX10_fill_65 ?_
            refine gg_get (C := RX10) (T := TX10) (N := 18) hx hb hts hown hK iX10_fill_X10 0 rfl rfl 5 (by decide) (List.mem_of_getElem? (i := 4) rfl) rfl dX10_fill_66 ?_
            refine gg_idiv hx hb h.1 h.2.1 h.2.2.1 dX10_fill_69 ?_
            have h := h.2.2.2
            refine gg_aload_n hx hb 1 rfl rfl dX10_fill_70 ?_
            refine gg_iload_n hx hb 4 rfl rfl dX10_fill_71 ?_
            refine gg_iconst hx hb dX10_fill_72 ?_
            refine gg_callVip (As := [.int (xI x3_41), .int (xI 1)]) (rest := [.int (xI (Int.tdiv a1 (s41 0 5)))]) hx hb hml hown hts hK hZ hA (c_X10_placeOf l D aa cI cZ cJ tR tU x3_41 1 s41 _ h) (cwV 2 hts gX10_fill_X10_placeOf rfl rfl rfl hd_X10_placeOf ⟨Nat.le_of_ble_eq_true rfl, Nat.le_of_ble_eq_true rfl⟩) 0 rfl rfl rfl rfl (Nat.le_of_ble_eq_true rfl) dX10_fill_73 (fun r73 h => ?_)
            refine gg_iadd hx hb dX10_fill_76 ?_
            refine gg_nm (fun z5_77 e77 => ?_)
            have h := h z5_77 e77
            refine gg_istore (lv' := [(5, .int (xI z5_77)), (4, .int (xI z4_62)), (0, .ref (aa 0)), (1, .int (xI a1)), (2, .int (xI a2)), (3, .int (xI x3_41))]) hx hb (by decide) rfl dX10_fill_77 ?_
            refine gg_aload_n hx hb 2 rfl rfl dX10_fill_79 ?_
            refine gg_iload hx hb 1 rfl dX10_fill_80 ?_
            refine gg_iload hx hb 0 rfl dX10_fill_82 ?_
            refine gg_callVip (As := [.int (xI z4_62), .int (xI z5_77)]) (rest := []) hx hb hml hown hts hK hZ hA (c_X10_isThere l D aa cI cZ cJ tR tU z4_62 z5_77 s41 _ h) (cwV 2 hts gX10_fill_X10_isThere rfl rfl rfl hd_X10_isThere ⟨Nat.le_of_ble_eq_true rfl, Nat.le_of_ble_eq_true rfl⟩) 0 rfl rfl rfl rfl (Nat.le_of_ble_eq_true rfl) dX10_fill_84 (fun r84 h => ?_)
            refine gg_if_ne (tgt := 94) hx hb h.1 dX10_fill_87 rfl (fun c87 => ?_) (fun c87 => ?_)
            · have h := h.2.1 c87
              refine gg_aload_n hx hb 2 rfl rfl dX10_fill_94 ?_
              refine gg_get (C := RX10) (T := TX10) (N := 18) hx hb hts hown hK iX10_fill_X10 0 rfl rfl 8 (by decide) (List.mem_of_getElem? (i := 2) rfl) rfl dX10_fill_95 ?_
              refine gg_iload hx hb 0 rfl dX10_fill_98 ?_
              refine gg_aload_n hx hb 2 rfl rfl dX10_fill_100 ?_
              refine gg_get (C := RX10) (T := TX10) (N := 18) hx hb hts hown hK iX10_fill_X10 0 rfl rfl 5 (by decide) (List.mem_of_getElem? (i := 4) rfl) rfl dX10_fill_101 ?_
              refine gg_imul hx hb dX10_fill_104 ?_
              refine gg_iload hx hb 1 rfl dX10_fill_105 ?_
              refine gg_iadd hx hb dX10_fill_107 ?_
              refine gg_iconst hx hb dX10_fill_108 ?_
              refine gg_zast hx hb hK 5 1 rfl rfl (cM_st_5 aa cI cZ cJ _ _) (by decide) h.1 (Or.inr rfl) dX10_fill_109 (fun σ_109 e109 => ?_)
              have h := h.2 σ_109 e109
              refine gg_iinc (lv' := [(3, .int (xI (x3_41 + 1))), (5, .int (xI z5_77)), (4, .int (xI z4_62)), (0, .ref (aa 0)), (1, .int (xI a1)), (2, .int (xI a2))]) hx hb 5 rfl (by decide) rfl dX10_fill_110 ?_
              refine gg_goto (tgt := 41) hx hb dX10_fill_113 rfl ?_
              refine gg_lv [3, 4, 5, 0] rfl ?_
              exact h
            · have h := h.2.2 c87
              refine gg_sipush hx hb dX10_fill_90 rfl ?_
              exact gg_iret hx hb hr hlk h dX10_fill_93)
        refine gg_lv [1, 2, 3, 0] rfl ?_
        exact h
      · have h := h.2.2 c23
        refine gg_aload_n hx hb 0 rfl rfl dX10_fill_26 ?_
        refine gg_get (C := RX10) (T := TX10) (N := 18) hx hb hts hown hK iX10_fill_X10 0 rfl rfl 8 (by decide) (List.mem_of_getElem? (i := 2) rfl) rfl dX10_fill_27 ?_
        refine gg_iload_n hx hb 3 rfl rfl dX10_fill_30 ?_
        refine gg_iconst hx hb dX10_fill_31 ?_
        refine gg_zast hx hb hK 5 1 rfl rfl (cM_st_5 aa cI cZ cJ _ _) (by decide) h.1 (Or.inl rfl) dX10_fill_32 (fun σ_32 e32 => ?_)
        have h := h.2 σ_32 e32
        refine gg_iinc (lv' := [(3, .int (xI (x3_19 + 1))), (0, .ref (aa 0)), (1, .int (xI a1)), (2, .int (xI a2))]) hx hb 3 rfl (by decide) rfl dX10_fill_33 ?_
        refine gg_goto (tgt := 19) hx hb dX10_fill_36 rfl ?_
        refine gg_lv [1, 2, 3, 0] rfl ?_
        exact h)
    refine gg_lv [1, 2, 3, 0] rfl ?_
    exact h
  · have h := h.2.2 c10
    refine gg_sipush hx hb dX10_fill_13 rfl ?_
    exact gg_iret hx hb hr hlk h dX10_fill_16
abbrev rmX10_parts : Room := { frames := 3, cells := 0, slots := 0, locals := 66 }
theorem iX10_parts_X10 : ∀ w ∈ u_ws RX10 TX10 18, w ∈ wsX10_parts := (fun _ h => List.mem_cons_of_mem _ (List.mem_append_right _ h))
theorem hd_X10_parts : (yX10_parts.cls = RX10 ∧ yX10_parts.cls ≠ "java/lang/invoke/MethodHandle" ∧ yX10_parts.cls ≠ "java/lang/invoke/VarHandle" ∧ (parseMethodDescriptor yX10_parts.desc).map (fun d => d.parameters.length) = some 0) := by decide +kernel
set_option maxRecDepth 100000 in
set_option maxHeartbeats 4000000 in
theorem c_X10_parts (l : Launch) (D : va_G) (aa : Nat → Nat) (cI cZ cJ : ClassId) (tR tU : Nat) (σ : xSt) (Post : Int → xSt → Prop) (h : wp_X10_parts σ Post) : MI l D (tyL cI cZ cJ) (cM aa cI cZ cJ) tR tU yX10_parts wsX10_parts rmX10_parts [.ref (aa 0)] σ Post := by
  refine mi_of (cc := cX10_parts) (maxL := 3) (ret := (some .int)) (by decide) rfl (Nat.le_of_ble_eq_true rfl) ?_
  intro p e s m args below meth c A hF
  obtain ⟨hx, hb, hr, hml, hown, hts, hlk, hK, hZ, hA⟩ := hF
  have hown : s.vm.findClass RX10 = some m.cls := hown
  delta wp_X10_parts at h
  refine gg_lv (lv' := [(0, .ref (aa 0))]) [0] rfl ?_
  refine gg_aload_n hx hb 0 rfl rfl dX10_parts_0 ?_
  refine gg_iconst hx hb dX10_parts_1 ?_
  refine gg_callVv (As := [.int (xI 1)]) (rest := []) hx hb hml hown hts hK hZ hA (c_X10_hang l D aa cI cZ cJ tR tU 1 σ _ h) (cwV 1 hts gX10_parts_X10_hang rfl rfl rfl hd_X10_hang ⟨Nat.le_of_ble_eq_true rfl, Nat.le_of_ble_eq_true rfl⟩) 0 rfl rfl rfl rfl (Nat.le_of_ble_eq_true rfl) dX10_parts_2 (fun t2 h => ?_)
  refine gg_iconst hx hb dX10_parts_5 ?_
  refine gg_istore_n (lv' := [(1, .int (xI 0)), (0, .ref (aa 0))]) hx hb rfl (by decide) rfl dX10_parts_6 ?_
  refine gg_iconst hx hb dX10_parts_7 ?_
  refine gg_istore_n (lv' := [(2, .int (xI 0)), (1, .int (xI 0)), (0, .ref (aa 0))]) hx hb rfl (by decide) rfl dX10_parts_8 ?_
  have h := h (fun (x1_9 x2_9 : Int) => GG p l e rmX10_parts s m args below meth c (QI below D (cM aa cI cZ cJ) A args s Post) A D (cM aa cI cZ cJ) 3 t2 9 [(0, .ref (aa 0)), (1, .int (xI x1_9)), (2, .int (xI x2_9))] [])
  have h := h (by
    intro x1_9 x2_9 h
    refine gg_iload_n hx hb 2 rfl rfl dX10_parts_9 ?_
    refine gg_aload_n hx hb 0 rfl rfl dX10_parts_10 ?_
    refine gg_callVip (As := []) (rest := [.int (xI x2_9)]) hx hb hml hown hts hK hZ hA (c_X10_fields l D aa cI cZ cJ tR tU t2 _ h) (cwV 0 hts gX10_parts_X10_fields rfl rfl rfl hd_X10_fields ⟨Nat.le_of_ble_eq_true rfl, Nat.le_of_ble_eq_true rfl⟩) 0 rfl rfl rfl rfl (Nat.le_of_ble_eq_true rfl) dX10_parts_11 (fun r11 h => ?_)
    refine gg_icmp_ge (tgt := 41) hx hb h.1 h.2.1 dX10_parts_14 rfl (fun c14 => ?_) (fun c14 => ?_)
    · have h := h.2.2.1 c14
      refine gg_iload_n hx hb 1 rfl rfl dX10_parts_41 ?_
      exact gg_iret hx hb hr hlk h dX10_parts_42
    · have h := h.2.2.2 c14
      refine gg_iload_n hx hb 1 rfl rfl dX10_parts_17 ?_
      refine gg_aload_n hx hb 0 rfl rfl dX10_parts_18 ?_
      refine gg_get (C := RX10) (T := TX10) (N := 18) hx hb hts hown hK iX10_parts_X10 0 rfl rfl 9 (by decide) (List.mem_of_getElem? (i := 1) rfl) rfl dX10_parts_19 ?_
      refine gg_iload_n hx hb 2 rfl rfl dX10_parts_22 ?_
      refine gg_iald hx hb hK 6 0 rfl rfl (by decide) h.1 dX10_parts_23 ?_
      have h := h.2
      refine gg_iload_n hx hb 2 rfl rfl dX10_parts_24 ?_
      refine gg_icmp_ne (tgt := 32) hx hb h.1 h.2.1 dX10_parts_25 rfl (fun c25 => ?_) (fun c25 => ?_)
      · have h := h.2.2.1 c25
        refine gg_iconst hx hb dX10_parts_32 ?_
        refine gg_iadd hx hb dX10_parts_33 ?_
        refine gg_istore_n (lv' := [(1, .int (xI (x1_9 + 0))), (0, .ref (aa 0)), (2, .int (xI x2_9))]) hx hb rfl (by decide) rfl dX10_parts_34 ?_
        refine gg_iinc (lv' := [(2, .int (xI (x2_9 + 1))), (1, .int (xI (x1_9 + 0))), (0, .ref (aa 0))]) hx hb 2 rfl (by decide) rfl dX10_parts_35 ?_
        refine gg_goto (tgt := 9) hx hb dX10_parts_38 rfl ?_
        refine gg_lv [2, 1, 0] rfl ?_
        exact h
      · have h := h.2.2.2 c25
        refine gg_iconst hx hb dX10_parts_28 ?_
        refine gg_goto (tgt := 33) hx hb dX10_parts_29 rfl ?_
        refine gg_iadd hx hb dX10_parts_33 ?_
        refine gg_istore_n (lv' := [(1, .int (xI (x1_9 + 1))), (0, .ref (aa 0)), (2, .int (xI x2_9))]) hx hb rfl (by decide) rfl dX10_parts_34 ?_
        refine gg_iinc (lv' := [(2, .int (xI (x2_9 + 1))), (1, .int (xI (x1_9 + 1))), (0, .ref (aa 0))]) hx hb 2 rfl (by decide) rfl dX10_parts_35 ?_
        refine gg_goto (tgt := 9) hx hb dX10_parts_38 rfl ?_
        refine gg_lv [2, 1, 0] rfl ?_
        exact h)
  refine gg_lv [2, 1, 0] rfl ?_
  exact h
abbrev rmX10_holes : Room := { frames := 3, cells := 0, slots := 0, locals := 66 }
theorem iX10_holes_X10 : ∀ w ∈ u_ws RX10 TX10 18, w ∈ wsX10_holes := (fun _ h => List.mem_cons_of_mem _ (List.mem_append_right _ h))
theorem hd_X10_holes : (yX10_holes.cls = RX10 ∧ yX10_holes.cls ≠ "java/lang/invoke/MethodHandle" ∧ yX10_holes.cls ≠ "java/lang/invoke/VarHandle" ∧ (parseMethodDescriptor yX10_holes.desc).map (fun d => d.parameters.length) = some 0) := by decide +kernel
set_option maxRecDepth 100000 in
set_option maxHeartbeats 4000000 in
theorem c_X10_holes (l : Launch) (D : va_G) (aa : Nat → Nat) (cI cZ cJ : ClassId) (tR tU : Nat) (σ : xSt) (Post : Int → xSt → Prop) (h : wp_X10_holes σ Post) : MI l D (tyL cI cZ cJ) (cM aa cI cZ cJ) tR tU yX10_holes wsX10_holes rmX10_holes [.ref (aa 0)] σ Post := by
  refine mi_of (cc := cX10_holes) (maxL := 3) (ret := (some .int)) (by decide) rfl (Nat.le_of_ble_eq_true rfl) ?_
  intro p e s m args below meth c A hF
  obtain ⟨hx, hb, hr, hml, hown, hts, hlk, hK, hZ, hA⟩ := hF
  have hown : s.vm.findClass RX10 = some m.cls := hown
  delta wp_X10_holes at h
  refine gg_lv (lv' := [(0, .ref (aa 0))]) [0] rfl ?_
  refine gg_iconst hx hb dX10_holes_0 ?_
  refine gg_istore_n (lv' := [(1, .int (xI 0)), (0, .ref (aa 0))]) hx hb rfl (by decide) rfl dX10_holes_1 ?_
  have h := h (fun (x1_2 : Int) (s2 : xSt) => GG p l e rmX10_holes s m args below meth c (QI below D (cM aa cI cZ cJ) A args s Post) A D (cM aa cI cZ cJ) 3 s2 2 [(0, .ref (aa 0)), (1, .int (xI x1_2))] [])
  have h := h (by
    intro x1_2 s2 h
    refine gg_iload_n hx hb 1 rfl rfl dX10_holes_2 ?_
    refine gg_aload_n hx hb 0 rfl rfl dX10_holes_3 ?_
    refine gg_callVip (As := []) (rest := [.int (xI x1_2)]) hx hb hml hown hts hK hZ hA (c_X10_fields l D aa cI cZ cJ tR tU s2 _ h) (cwV 0 hts gX10_holes_X10_fields rfl rfl rfl hd_X10_fields ⟨Nat.le_of_ble_eq_true rfl, Nat.le_of_ble_eq_true rfl⟩) 0 rfl rfl rfl rfl (Nat.le_of_ble_eq_true rfl) dX10_holes_4 (fun r4 h => ?_)
    refine gg_icmp_ge (tgt := 28) hx hb h.1 h.2.1 dX10_holes_7 rfl (fun c7 => ?_) (fun c7 => ?_)
    · have h := h.2.2.1 c7
      refine gg_aload_n hx hb 0 rfl rfl dX10_holes_28 ?_
      refine gg_iconst hx hb dX10_holes_29 ?_
      refine gg_callVv (As := [.int (xI 0)]) (rest := []) hx hb hml hown hts hK hZ hA (c_X10_hang l D aa cI cZ cJ tR tU 0 s2 _ h) (cwV 1 hts gX10_holes_X10_hang rfl rfl rfl hd_X10_hang ⟨Nat.le_of_ble_eq_true rfl, Nat.le_of_ble_eq_true rfl⟩) 0 rfl rfl rfl rfl (Nat.le_of_ble_eq_true rfl) dX10_holes_30 (fun t30 h => ?_)
      refine gg_iconst hx hb dX10_holes_33 ?_
      refine gg_istore_n (lv' := [(1, .int (xI 0)), (0, .ref (aa 0))]) hx hb rfl (by decide) rfl dX10_holes_34 ?_
      refine gg_iconst hx hb dX10_holes_35 ?_
      refine gg_istore_n (lv' := [(2, .int (xI 0)), (1, .int (xI 0)), (0, .ref (aa 0))]) hx hb rfl (by decide) rfl dX10_holes_36 ?_
      have h := h (fun (x1_37 x2_37 : Int) => GG p l e rmX10_holes s m args below meth c (QI below D (cM aa cI cZ cJ) A args s Post) A D (cM aa cI cZ cJ) 3 t30 37 [(0, .ref (aa 0)), (1, .int (xI x1_37)), (2, .int (xI x2_37))] [])
      have h := h (by
        intro x1_37 x2_37 h
        refine gg_iload_n hx hb 2 rfl rfl dX10_holes_37 ?_
        refine gg_aload_n hx hb 0 rfl rfl dX10_holes_38 ?_
        refine gg_callVip (As := []) (rest := [.int (xI x2_37)]) hx hb hml hown hts hK hZ hA (c_X10_fields l D aa cI cZ cJ tR tU t30 _ h) (cwV 0 hts gX10_holes_X10_fields rfl rfl rfl hd_X10_fields ⟨Nat.le_of_ble_eq_true rfl, Nat.le_of_ble_eq_true rfl⟩) 0 rfl rfl rfl rfl (Nat.le_of_ble_eq_true rfl) dX10_holes_39 (fun r39 h => ?_)
        refine gg_icmp_ge (tgt := 77) hx hb h.1 h.2.1 dX10_holes_42 rfl (fun c42 => ?_) (fun c42 => ?_)
        · have h := h.2.2.1 c42
          refine gg_iload_n hx hb 1 rfl rfl dX10_holes_77 ?_
          exact gg_iret hx hb hr hlk h dX10_holes_78
        · have h := h.2.2.2 c42
          refine gg_iload_n hx hb 1 rfl rfl dX10_holes_45 ?_
          refine gg_aload_n hx hb 0 rfl rfl dX10_holes_46 ?_
          refine gg_get (C := RX10) (T := TX10) (N := 18) hx hb hts hown hK iX10_holes_X10 0 rfl rfl 9 (by decide) (List.mem_of_getElem? (i := 3) rfl) rfl dX10_holes_47 ?_
          refine gg_iload_n hx hb 2 rfl rfl dX10_holes_50 ?_
          refine gg_iald hx hb hK 6 0 rfl rfl (by decide) h.1 dX10_holes_51 ?_
          have h := h.2
          refine gg_iload_n hx hb 2 rfl rfl dX10_holes_52 ?_
          refine gg_icmp_ne (tgt := 68) hx hb h.1 h.2.1 dX10_holes_53 rfl (fun c53 => ?_) (fun c53 => ?_)
          · have h := h.2.2.1 c53
            refine gg_iconst hx hb dX10_holes_68 ?_
            refine gg_iadd hx hb dX10_holes_69 ?_
            refine gg_istore_n (lv' := [(1, .int (xI (x1_37 + 0))), (0, .ref (aa 0)), (2, .int (xI x2_37))]) hx hb rfl (by decide) rfl dX10_holes_70 ?_
            refine gg_iinc (lv' := [(2, .int (xI (x2_37 + 1))), (1, .int (xI (x1_37 + 0))), (0, .ref (aa 0))]) hx hb 2 rfl (by decide) rfl dX10_holes_71 ?_
            refine gg_goto (tgt := 37) hx hb dX10_holes_74 rfl ?_
            refine gg_lv [2, 1, 0] rfl ?_
            exact h
          · have h := h.2.2.2 c53
            refine gg_aload_n hx hb 0 rfl rfl dX10_holes_56 ?_
            refine gg_iload_n hx hb 2 rfl rfl dX10_holes_57 ?_
            refine gg_callVip (As := [.int (xI x2_37)]) (rest := [.int (xI x1_37)]) hx hb hml hown hts hK hZ hA (c_X10_comesOut l D aa cI cZ cJ tR tU x2_37 t30 _ h) (cwV 1 hts gX10_holes_X10_comesOut rfl rfl rfl hd_X10_comesOut ⟨Nat.le_of_ble_eq_true rfl, Nat.le_of_ble_eq_true rfl⟩) 0 rfl rfl rfl rfl (Nat.le_of_ble_eq_true rfl) dX10_holes_58 (fun r58 h => ?_)
            refine gg_if_ne (tgt := 68) hx hb h.1 dX10_holes_61 rfl (fun c61 => ?_) (fun c61 => ?_)
            · have h := h.2.1 c61
              refine gg_iconst hx hb dX10_holes_68 ?_
              refine gg_iadd hx hb dX10_holes_69 ?_
              refine gg_istore_n (lv' := [(1, .int (xI (x1_37 + 0))), (0, .ref (aa 0)), (2, .int (xI x2_37))]) hx hb rfl (by decide) rfl dX10_holes_70 ?_
              refine gg_iinc (lv' := [(2, .int (xI (x2_37 + 1))), (1, .int (xI (x1_37 + 0))), (0, .ref (aa 0))]) hx hb 2 rfl (by decide) rfl dX10_holes_71 ?_
              refine gg_goto (tgt := 37) hx hb dX10_holes_74 rfl ?_
              refine gg_lv [2, 1, 0] rfl ?_
              exact h
            · have h := h.2.2 c61
              refine gg_iconst hx hb dX10_holes_64 ?_
              refine gg_goto (tgt := 69) hx hb dX10_holes_65 rfl ?_
              refine gg_iadd hx hb dX10_holes_69 ?_
              refine gg_istore_n (lv' := [(1, .int (xI (x1_37 + 1))), (0, .ref (aa 0)), (2, .int (xI x2_37))]) hx hb rfl (by decide) rfl dX10_holes_70 ?_
              refine gg_iinc (lv' := [(2, .int (xI (x2_37 + 1))), (1, .int (xI (x1_37 + 1))), (0, .ref (aa 0))]) hx hb 2 rfl (by decide) rfl dX10_holes_71 ?_
              refine gg_goto (tgt := 37) hx hb dX10_holes_74 rfl ?_
              refine gg_lv [2, 1, 0] rfl ?_
              exact h)
      refine gg_lv [2, 1, 0] rfl ?_
      exact h
    · have h := h.2.2.2 c7
      refine gg_aload_n hx hb 0 rfl rfl dX10_holes_10 ?_
      refine gg_get (C := RX10) (T := TX10) (N := 18) hx hb hts hown hK iX10_holes_X10 0 rfl rfl 8 (by decide) (List.mem_of_getElem? (i := 1) rfl) rfl dX10_holes_11 ?_
      refine gg_iload_n hx hb 1 rfl rfl dX10_holes_14 ?_
      refine gg_aload_n hx hb 0 rfl rfl dX10_holes_15 ?_
      refine gg_get (C := RX10) (T := TX10) (N := 18) hx hb hts hown hK iX10_holes_X10 0 rfl rfl 7 (by decide) (List.mem_of_getElem? (i := 2) rfl) rfl dX10_holes_16 ?_
      refine gg_iload_n hx hb 1 rfl rfl dX10_holes_19 ?_
      refine gg_zald hx hb hK 4 1 rfl rfl (by decide) h.1 dX10_holes_20 ?_
      have h := h.2
      refine gg_zast hx hb hK 5 1 rfl rfl (cM_st_5 aa cI cZ cJ _ _) (by decide) h.1 h.2.1 dX10_holes_21 (fun σ_21 e21 => ?_)
      have h := h.2.2 σ_21 e21
      refine gg_iinc (lv' := [(1, .int (xI (x1_2 + 1))), (0, .ref (aa 0))]) hx hb 1 rfl (by decide) rfl dX10_holes_22 ?_
      refine gg_goto (tgt := 2) hx hb dX10_holes_25 rfl ?_
      refine gg_lv [1, 0] rfl ?_
      exact h)
  refine gg_lv [1, 0] rfl ?_
  exact h
abbrev rmX10_rims : Room := { frames := 3, cells := 0, slots := 0, locals := 69 }
theorem iX10_rims_X10 : ∀ w ∈ u_ws RX10 TX10 18, w ∈ wsX10_rims := (fun _ h => List.mem_cons_of_mem _ (List.mem_append_right _ h))
theorem hd_X10_rims : (yX10_rims.cls = RX10 ∧ yX10_rims.cls ≠ "java/lang/invoke/MethodHandle" ∧ yX10_rims.cls ≠ "java/lang/invoke/VarHandle" ∧ (parseMethodDescriptor yX10_rims.desc).map (fun d => d.parameters.length) = some 0) := by decide +kernel
set_option maxRecDepth 100000 in
set_option maxHeartbeats 4000000 in
theorem c_X10_rims (l : Launch) (D : va_G) (aa : Nat → Nat) (cI cZ cJ : ClassId) (tR tU : Nat) (σ : xSt) (Post : Int → Prop) (h : wp_X10_rims σ Post) : MI l D (tyL cI cZ cJ) (cM aa cI cZ cJ) tR tU yX10_rims wsX10_rims rmX10_rims [.ref (aa 0)] σ (fun r9 σ9 => σ9 = σ ∧ Post r9) := by
  refine mi_of (cc := cX10_rims) (maxL := 6) (ret := (some .int)) (by decide) rfl (Nat.le_of_ble_eq_true rfl) ?_
  intro p e s m args below meth c A hF
  obtain ⟨hx, hb, hr, hml, hown, hts, hlk, hK, hZ, hA⟩ := hF
  have hown : s.vm.findClass RX10 = some m.cls := hown
  delta wp_X10_rims at h
  refine gg_lv (lv' := [(0, .ref (aa 0))]) [0] rfl ?_
  refine gg_iconst hx hb dX10_rims_0 ?_
  refine gg_istore_n (lv' := [(1, .int (xI 0)), (0, .ref (aa 0))]) hx hb rfl (by decide) rfl dX10_rims_1 ?_
  refine gg_iconst hx hb dX10_rims_2 ?_
  refine gg_istore_n (lv' := [(2, .int (xI 0)), (1, .int (xI 0)), (0, .ref (aa 0))]) hx hb rfl (by decide) rfl dX10_rims_3 ?_
  have h := h (fun (x1_4 x2_4 : Int) => GG p l e rmX10_rims s m args below meth c (QI below D (cM aa cI cZ cJ) A args s (fun r9 σ9 => σ9 = σ ∧ Post r9)) A D (cM aa cI cZ cJ) 6 σ 4 [(0, .ref (aa 0)), (1, .int (xI x1_4)), (2, .int (xI x2_4))] [])
  have h := h (by
    intro x1_4 x2_4 h
    refine gg_iload_n hx hb 2 rfl rfl dX10_rims_4 ?_
    refine gg_aload_n hx hb 0 rfl rfl dX10_rims_5 ?_
    refine gg_callVip (As := []) (rest := [.int (xI x2_4)]) hx hb hml hown hts hK hZ hA (c_X10_fields l D aa cI cZ cJ tR tU σ _ h) (cwV 0 hts gX10_rims_X10_fields rfl rfl rfl hd_X10_fields ⟨Nat.le_of_ble_eq_true rfl, Nat.le_of_ble_eq_true rfl⟩) 0 rfl rfl rfl rfl (Nat.le_of_ble_eq_true rfl) dX10_rims_6 (fun r6 h => ?_)
    refine gg_icmp_ge (tgt := 88) hx hb h.1 h.2.1 dX10_rims_9 rfl (fun c9 => ?_) (fun c9 => ?_)
    · have h := h.2.2.1 c9
      refine gg_iload_n hx hb 1 rfl rfl dX10_rims_88 ?_
      exact gg_iret hx hb hr hlk ⟨rfl, h⟩ dX10_rims_89
    · have h := h.2.2.2 c9
      refine gg_iload_n hx hb 2 rfl rfl dX10_rims_12 ?_
      refine gg_aload_n hx hb 0 rfl rfl dX10_rims_13 ?_
      refine gg_get (C := RX10) (T := TX10) (N := 18) hx hb hts hown hK iX10_rims_X10 0 rfl rfl 5 (by decide) (List.mem_of_getElem? (i := 1) rfl) rfl dX10_rims_14 ?_
      refine gg_irem hx hb h.1 h.2.1 h.2.2.1 dX10_rims_17 ?_
      have h := h.2.2.2
      refine gg_istore_n (lv' := [(3, .int (xI (Int.tmod x2_4 (σ 0 5)))), (0, .ref (aa 0)), (1, .int (xI x1_4)), (2, .int (xI x2_4))]) hx hb rfl (by decide) rfl dX10_rims_18 ?_
      refine gg_iload_n hx hb 3 rfl rfl dX10_rims_19 ?_
      refine gg_aload_n hx hb 1 rfl rfl dX10_rims_20 ?_
      refine gg_get (C := RX10) (T := TX10) (N := 18) hx hb hts hown hK iX10_rims_X10 0 rfl rfl 5 (by decide) (List.mem_of_getElem? (i := 1) rfl) rfl dX10_rims_21 ?_
      refine gg_idiv hx hb h.1 h.2.1 h.2.2.1 dX10_rims_24 ?_
      have h := h.2.2.2
      refine gg_istore (lv' := [(4, .int (xI (Int.tdiv x2_4 (σ 0 5)))), (3, .int (xI (Int.tmod x2_4 (σ 0 5)))), (0, .ref (aa 0)), (1, .int (xI x1_4)), (2, .int (xI x2_4))]) hx hb (by decide) rfl dX10_rims_25 ?_
      refine gg_iconst hx hb dX10_rims_27 ?_
      refine gg_istore (lv' := [(5, .int (xI 0)), (4, .int (xI (Int.tdiv x2_4 (σ 0 5)))), (3, .int (xI (Int.tmod x2_4 (σ 0 5)))), (0, .ref (aa 0)), (1, .int (xI x1_4)), (2, .int (xI x2_4))]) hx hb (by decide) rfl dX10_rims_28 ?_
      have h := h (fun (x1_30 x5_30 : Int) => GG p l e rmX10_rims s m args below meth c (QI below D (cM aa cI cZ cJ) A args s (fun r9 σ9 => σ9 = σ ∧ Post r9)) A D (cM aa cI cZ cJ) 6 σ 30 [(0, .ref (aa 0)), (1, .int (xI x1_30)), (2, .int (xI x2_4)), (3, .int (xI (Int.tmod x2_4 (σ 0 5)))), (4, .int (xI (Int.tdiv x2_4 (σ 0 5)))), (5, .int (xI x5_30))] [])
      have h := h (by
        intro x1_30 x5_30 h
        refine gg_iload hx hb 5 rfl dX10_rims_30 ?_
        refine gg_bipush hx hb dX10_rims_32 rfl ?_
        refine gg_icmp_ge (tgt := 82) hx hb h.1 (by decide) dX10_rims_34 rfl (fun c34 => ?_) (fun c34 => ?_)
        · have h := h.2.1 c34
          refine gg_iinc (lv' := [(2, .int (xI (x2_4 + 1))), (0, .ref (aa 0)), (1, .int (xI x1_30)), (3, .int (xI (Int.tmod x2_4 (σ 0 5)))), (4, .int (xI (Int.tdiv x2_4 (σ 0 5)))), (5, .int (xI x5_30))]) hx hb 2 rfl (by decide) rfl dX10_rims_82 ?_
          refine gg_goto (tgt := 4) hx hb dX10_rims_85 rfl ?_
          refine gg_lv [1, 2, 0] rfl ?_
          exact h
        · have h := h.2.2 c34
          refine gg_aload_n hx hb 0 rfl rfl dX10_rims_37 ?_
          refine gg_get (C := RX10) (T := TX10) (N := 18) hx hb hts hown hK iX10_rims_X10 0 rfl rfl 7 (by decide) (List.mem_of_getElem? (i := 2) rfl) rfl dX10_rims_38 ?_
          refine gg_iload_n hx hb 2 rfl rfl dX10_rims_41 ?_
          refine gg_zald hx hb hK 4 1 rfl rfl (by decide) h.1 dX10_rims_42 ?_
          have h := h.2
          refine gg_if_eq (tgt := 82) hx hb h.1 dX10_rims_43 rfl (fun c43 => ?_) (fun c43 => ?_)
          · have h := h.2.1 c43
            refine gg_iinc (lv' := [(2, .int (xI (x2_4 + 1))), (0, .ref (aa 0)), (1, .int (xI x1_30)), (3, .int (xI (Int.tmod x2_4 (σ 0 5)))), (4, .int (xI (Int.tdiv x2_4 (σ 0 5)))), (5, .int (xI x5_30))]) hx hb 2 rfl (by decide) rfl dX10_rims_82 ?_
            refine gg_goto (tgt := 4) hx hb dX10_rims_85 rfl ?_
            refine gg_lv [1, 2, 0] rfl ?_
            exact h
          · have h := h.2.2 c43
            refine gg_iload_n hx hb 1 rfl rfl dX10_rims_46 ?_
            refine gg_aload_n hx hb 0 rfl rfl dX10_rims_47 ?_
            refine gg_iload_n hx hb 3 rfl rfl dX10_rims_48 ?_
            refine gg_iload hx hb 5 rfl dX10_rims_49 ?_
            refine gg_callSip (As := [.int (xI x5_30)]) (rest := [.int (xI (Int.tmod x2_4 (σ 0 5))), .ref (aa 0), .int (xI x1_30)]) hx hb hml hown hts hK hZ hA (c_X10_stepX l D aa cI cZ cJ tR tU x5_30 σ _ h) (va_cwS 1 hts gX10_rims_X10_stepX rfl rfl rfl hd_X10_stepX ⟨Nat.le_of_ble_eq_true rfl, Nat.le_of_ble_eq_true rfl⟩) rfl rfl (Nat.le_of_ble_eq_true rfl) dX10_rims_51 (fun r51 h => ?_)
            refine gg_iadd hx hb dX10_rims_54 ?_
            refine gg_iload hx hb 4 rfl dX10_rims_55 ?_
            refine gg_iload hx hb 5 rfl dX10_rims_57 ?_
            refine gg_callSip (As := [.int (xI x5_30)]) (rest := [.int (xI (Int.tdiv x2_4 (σ 0 5))), .int (xI ((Int.tmod x2_4 (σ 0 5)) + r51)), .ref (aa 0), .int (xI x1_30)]) hx hb hml hown hts hK hZ hA (c_X10_stepY l D aa cI cZ cJ tR tU x5_30 σ _ h) (va_cwS 1 hts gX10_rims_X10_stepY rfl rfl rfl hd_X10_stepY ⟨Nat.le_of_ble_eq_true rfl, Nat.le_of_ble_eq_true rfl⟩) rfl rfl (Nat.le_of_ble_eq_true rfl) dX10_rims_59 (fun r59 h => ?_)
            refine gg_iadd hx hb dX10_rims_62 ?_
            refine gg_callVip (As := [.int (xI ((Int.tmod x2_4 (σ 0 5)) + r51)), .int (xI ((Int.tdiv x2_4 (σ 0 5)) + r59))]) (rest := [.int (xI x1_30)]) hx hb hml hown hts hK hZ hA (c_X10_isOf l D aa cI cZ cJ tR tU ((Int.tmod x2_4 (σ 0 5)) + r51) ((Int.tdiv x2_4 (σ 0 5)) + r59) σ _ h) (cwV 2 hts gX10_rims_X10_isOf rfl rfl rfl hd_X10_isOf ⟨Nat.le_of_ble_eq_true rfl, Nat.le_of_ble_eq_true rfl⟩) 0 rfl rfl rfl rfl (Nat.le_of_ble_eq_true rfl) dX10_rims_63 (fun r63 h => ?_)
            refine gg_if_eq (tgt := 73) hx hb h.1 dX10_rims_66 rfl (fun c66 => ?_) (fun c66 => ?_)
            · have h := h.2.1 c66
              refine gg_iconst hx hb dX10_rims_73 ?_
              refine gg_iadd hx hb dX10_rims_74 ?_
              refine gg_istore_n (lv' := [(1, .int (xI (x1_30 + 1))), (0, .ref (aa 0)), (2, .int (xI x2_4)), (3, .int (xI (Int.tmod x2_4 (σ 0 5)))), (4, .int (xI (Int.tdiv x2_4 (σ 0 5)))), (5, .int (xI x5_30))]) hx hb rfl (by decide) rfl dX10_rims_75 ?_
              refine gg_iinc (lv' := [(5, .int (xI (x5_30 + 2))), (1, .int (xI (x1_30 + 1))), (0, .ref (aa 0)), (2, .int (xI x2_4)), (3, .int (xI (Int.tmod x2_4 (σ 0 5)))), (4, .int (xI (Int.tdiv x2_4 (σ 0 5))))]) hx hb 5 rfl (by decide) rfl dX10_rims_76 ?_
              refine gg_goto (tgt := 30) hx hb dX10_rims_79 rfl ?_
              refine gg_lv [2, 1, 3, 4, 5, 0] rfl ?_
              exact h
            · have h := h.2.2 c66
              refine gg_iconst hx hb dX10_rims_69 ?_
              refine gg_goto (tgt := 74) hx hb dX10_rims_70 rfl ?_
              refine gg_iadd hx hb dX10_rims_74 ?_
              refine gg_istore_n (lv' := [(1, .int (xI (x1_30 + 0))), (0, .ref (aa 0)), (2, .int (xI x2_4)), (3, .int (xI (Int.tmod x2_4 (σ 0 5)))), (4, .int (xI (Int.tdiv x2_4 (σ 0 5)))), (5, .int (xI x5_30))]) hx hb rfl (by decide) rfl dX10_rims_75 ?_
              refine gg_iinc (lv' := [(5, .int (xI (x5_30 + 2))), (1, .int (xI (x1_30 + 0))), (0, .ref (aa 0)), (2, .int (xI x2_4)), (3, .int (xI (Int.tmod x2_4 (σ 0 5)))), (4, .int (xI (Int.tdiv x2_4 (σ 0 5))))]) hx hb 5 rfl (by decide) rfl dX10_rims_76 ?_
              refine gg_goto (tgt := 30) hx hb dX10_rims_79 rfl ?_
              refine gg_lv [2, 1, 3, 4, 5, 0] rfl ?_
              exact h)
      refine gg_lv [3, 4, 5, 2, 1, 0] rfl ?_
      exact h)
  refine gg_lv [2, 1, 0] rfl ?_
  exact h
abbrev rmX10_side : Room := { frames := 0, cells := 0, slots := 0, locals := 0 }
theorem iX10_side_X10 : ∀ w ∈ u_ws RX10 TX10 18, w ∈ wsX10_side := (fun _ h => List.mem_cons_of_mem _ (List.mem_append_right _ h))
theorem hd_X10_side : (yX10_side.cls = RX10 ∧ yX10_side.cls ≠ "java/lang/invoke/MethodHandle" ∧ yX10_side.cls ≠ "java/lang/invoke/VarHandle" ∧ (parseMethodDescriptor yX10_side.desc).map (fun d => d.parameters.length) = some 3) := by decide +kernel
set_option maxRecDepth 100000 in
set_option maxHeartbeats 4000000 in
theorem c_X10_side (l : Launch) (D : va_G) (aa : Nat → Nat) (cI cZ cJ : ClassId) (tR tU : Nat) (a1 : Int) (a2 : Int) (a3 : Int) (σ : xSt) (Post : Int → Prop) (h : wp_X10_side a1 a2 a3 σ Post) : MI l D (tyL cI cZ cJ) (cM aa cI cZ cJ) tR tU yX10_side wsX10_side rmX10_side [.ref (aa 0), .int (xI a1), .int (xI a2), .int (xI a3)] σ (fun r9 σ9 => σ9 = σ ∧ Post r9) := by
  refine mi_of (cc := cX10_side) (maxL := 4) (ret := (some .int)) (by decide) rfl (Nat.le_of_ble_eq_true rfl) ?_
  intro p e s m args below meth c A hF
  obtain ⟨hx, hb, hr, hml, hown, hts, hlk, hK, hZ, hA⟩ := hF
  have hown : s.vm.findClass RX10 = some m.cls := hown
  delta wp_X10_side at h
  refine gg_lv (lv' := [(0, .ref (aa 0)), (1, .int (xI a1)), (2, .int (xI a2)), (3, .int (xI a3))]) [0, 1, 2, 3] rfl ?_
  refine gg_iload_n hx hb 2 rfl rfl dX10_side_0 ?_
  refine gg_aload_n hx hb 0 rfl rfl dX10_side_1 ?_
  refine gg_get (C := RX10) (T := TX10) (N := 18) hx hb hts hown hK iX10_side_X10 0 rfl rfl 5 (by decide) (List.mem_of_getElem? (i := 1) rfl) rfl dX10_side_2 ?_
  refine gg_irem hx hb h.1 h.2.1 h.2.2.1 dX10_side_5 ?_
  have h := h.2.2.2
  refine gg_iload_n hx hb 1 rfl rfl dX10_side_6 ?_
  refine gg_aload_n hx hb 0 rfl rfl dX10_side_7 ?_
  refine gg_get (C := RX10) (T := TX10) (N := 18) hx hb hts hown hK iX10_side_X10 0 rfl rfl 5 (by decide) (List.mem_of_getElem? (i := 1) rfl) rfl dX10_side_8 ?_
  refine gg_irem hx hb h.1 h.2.1 h.2.2.1 dX10_side_11 ?_
  have h := h.2.2.2
  refine gg_isub hx hb dX10_side_12 ?_
  refine gg_iload_n hx hb 3 rfl rfl dX10_side_13 ?_
  refine gg_aload_n hx hb 0 rfl rfl dX10_side_14 ?_
  refine gg_get (C := RX10) (T := TX10) (N := 18) hx hb hts hown hK iX10_side_X10 0 rfl rfl 5 (by decide) (List.mem_of_getElem? (i := 1) rfl) rfl dX10_side_15 ?_
  refine gg_idiv hx hb h.1 h.2.1 h.2.2.1 dX10_side_18 ?_
  have h := h.2.2.2
  refine gg_iload_n hx hb 1 rfl rfl dX10_side_19 ?_
  refine gg_aload_n hx hb 0 rfl rfl dX10_side_20 ?_
  refine gg_get (C := RX10) (T := TX10) (N := 18) hx hb hts hown hK iX10_side_X10 0 rfl rfl 5 (by decide) (List.mem_of_getElem? (i := 1) rfl) rfl dX10_side_21 ?_
  refine gg_idiv hx hb h.1 h.2.1 h.2.2.1 dX10_side_24 ?_
  have h := h.2.2.2
  refine gg_isub hx hb dX10_side_25 ?_
  refine gg_imul hx hb dX10_side_26 ?_
  refine gg_iload_n hx hb 2 rfl rfl dX10_side_27 ?_
  refine gg_aload_n hx hb 0 rfl rfl dX10_side_28 ?_
  refine gg_get (C := RX10) (T := TX10) (N := 18) hx hb hts hown hK iX10_side_X10 0 rfl rfl 5 (by decide) (List.mem_of_getElem? (i := 1) rfl) rfl dX10_side_29 ?_
  refine gg_idiv hx hb h.1 h.2.1 h.2.2.1 dX10_side_32 ?_
  have h := h.2.2.2
  refine gg_iload_n hx hb 1 rfl rfl dX10_side_33 ?_
  refine gg_aload_n hx hb 0 rfl rfl dX10_side_34 ?_
  refine gg_get (C := RX10) (T := TX10) (N := 18) hx hb hts hown hK iX10_side_X10 0 rfl rfl 5 (by decide) (List.mem_of_getElem? (i := 1) rfl) rfl dX10_side_35 ?_
  refine gg_idiv hx hb h.1 h.2.1 h.2.2.1 dX10_side_38 ?_
  have h := h.2.2.2
  refine gg_isub hx hb dX10_side_39 ?_
  refine gg_iload_n hx hb 3 rfl rfl dX10_side_40 ?_
  refine gg_aload_n hx hb 0 rfl rfl dX10_side_41 ?_
  refine gg_get (C := RX10) (T := TX10) (N := 18) hx hb hts hown hK iX10_side_X10 0 rfl rfl 5 (by decide) (List.mem_of_getElem? (i := 1) rfl) rfl dX10_side_42 ?_
  refine gg_irem hx hb h.1 h.2.1 h.2.2.1 dX10_side_45 ?_
  have h := h.2.2.2
  refine gg_iload_n hx hb 1 rfl rfl dX10_side_46 ?_
  refine gg_aload_n hx hb 0 rfl rfl dX10_side_47 ?_
  refine gg_get (C := RX10) (T := TX10) (N := 18) hx hb hts hown hK iX10_side_X10 0 rfl rfl 5 (by decide) (List.mem_of_getElem? (i := 1) rfl) rfl dX10_side_48 ?_
  refine gg_irem hx hb h.1 h.2.1 h.2.2.1 dX10_side_51 ?_
  have h := h.2.2.2
  refine gg_isub hx hb dX10_side_52 ?_
  refine gg_imul hx hb dX10_side_53 ?_
  refine gg_isub hx hb dX10_side_54 ?_
  exact gg_iret hx hb hr hlk ⟨rfl, h⟩ dX10_side_55
abbrev rmX10_lay : Room := { frames := 1, cells := 0, slots := 0, locals := 23 }
theorem iX10_lay_X10 : ∀ w ∈ u_ws RX10 TX10 18, w ∈ wsX10_lay := (fun _ h => List.mem_cons_of_mem _ (List.mem_append_right _ h))
theorem hd_X10_lay : (yX10_lay.cls = RX10 ∧ yX10_lay.cls ≠ "java/lang/invoke/MethodHandle" ∧ yX10_lay.cls ≠ "java/lang/invoke/VarHandle" ∧ (parseMethodDescriptor yX10_lay.desc).map (fun d => d.parameters.length) = some 3) := by decide +kernel
set_option maxRecDepth 100000 in
set_option maxHeartbeats 4000000 in
theorem c_X10_lay (l : Launch) (D : va_G) (aa : Nat → Nat) (cI cZ cJ : ClassId) (tR tU : Nat) (a1 : Int) (a2 : Int) (a3 : Int) (σ : xSt) (Post : Int → xSt → Prop) (h : wp_X10_lay a1 a2 a3 σ Post) : MI l D (tyL cI cZ cJ) (cM aa cI cZ cJ) tR tU yX10_lay wsX10_lay rmX10_lay [.ref (aa 0), .int (xI a1), .int (xI a2), .int (xI a3)] σ Post := by
  refine mi_of (cc := cX10_lay) (maxL := 5) (ret := (some .int)) (by decide) rfl (Nat.le_of_ble_eq_true rfl) ?_
  intro p e s m args below meth c A hF
  obtain ⟨hx, hb, hr, hml, hown, hts, hlk, hK, hZ, hA⟩ := hF
  have hown : s.vm.findClass RX10 = some m.cls := hown
  delta wp_X10_lay at h
  refine gg_lv (lv' := [(0, .ref (aa 0)), (1, .int (xI a1)), (2, .int (xI a2)), (3, .int (xI a3))]) [0, 1, 2, 3] rfl ?_
  refine gg_iload_n hx hb 1 rfl rfl dX10_lay_0 ?_
  refine gg_istore (lv' := [(4, .int (xI a1)), (0, .ref (aa 0)), (1, .int (xI a1)), (2, .int (xI a2)), (3, .int (xI a3))]) hx hb (by decide) rfl dX10_lay_1 ?_
  have h := h (fun (x4_3 : Int) => GG p l e rmX10_lay s m args below meth c (QI below D (cM aa cI cZ cJ) A args s Post) A D (cM aa cI cZ cJ) 5 σ 3 [(0, .ref (aa 0)), (2, .int (xI a2)), (3, .int (xI a3)), (4, .int (xI x4_3))] [])
  have h := h (by
    intro x4_3 h
    refine gg_iload hx hb 3 rfl dX10_lay_3 ?_
    refine gg_iload_n hx hb 1 rfl rfl dX10_lay_5 ?_
    have h := h (GG p l e rmX10_lay s m args below meth c (QI below D (cM aa cI cZ cJ) A args s Post) A D (cM aa cI cZ cJ) 5 σ 41 [(0, .ref (aa 0)), (3, .int (xI a3)), (4, .int (xI x4_3))] [])
    have h := h (by
      intro h
      refine gg_aload_n hx hb 0 rfl rfl dX10_lay_41 ?_
      refine gg_get (C := RX10) (T := TX10) (N := 18) hx hb hts hown hK iX10_lay_X10 0 rfl rfl 12 (by decide) (List.mem_of_getElem? (i := 1) rfl) rfl dX10_lay_42 ?_
      refine gg_iload hx hb 2 rfl dX10_lay_45 ?_
      refine gg_iload_n hx hb 1 rfl rfl dX10_lay_47 ?_
      refine gg_iast hx hb hK 9 0 rfl rfl (cM_st_9 aa cI cZ cJ _ _) (by decide) h.1 dX10_lay_48 (fun σ_48 e48 => ?_)
      have h := h.2 σ_48 e48
      refine gg_iload hx hb 2 rfl dX10_lay_49 ?_
      refine gg_iconst hx hb dX10_lay_51 ?_
      refine gg_iadd hx hb dX10_lay_52 ?_
      exact gg_iret hx hb hr hlk h dX10_lay_53)
    refine gg_icmp_le (tgt := 41) hx hb h.1 h.2.1 dX10_lay_6 rfl (fun c6 => ?_) (fun c6 => ?_)
    · have h := h.2.2.1 c6
      refine gg_lv [0, 2, 3] rfl ?_
      exact h
    · have h := h.2.2.2 c6
      refine gg_aload_n hx hb 0 rfl rfl dX10_lay_9 ?_
      refine gg_aload_n hx hb 0 rfl rfl dX10_lay_10 ?_
      refine gg_get (C := RX10) (T := TX10) (N := 18) hx hb hts hown hK iX10_lay_X10 0 rfl rfl 12 (by decide) (List.mem_of_getElem? (i := 1) rfl) rfl dX10_lay_11 ?_
      refine gg_iload hx hb 3 rfl dX10_lay_14 ?_
      refine gg_iconst hx hb dX10_lay_16 ?_
      refine gg_isub hx hb dX10_lay_17 ?_
      refine gg_iald hx hb hK 9 0 rfl rfl (by decide) h.1 dX10_lay_18 ?_
      have h := h.2
      refine gg_aload_n hx hb 0 rfl rfl dX10_lay_19 ?_
      refine gg_get (C := RX10) (T := TX10) (N := 18) hx hb hts hown hK iX10_lay_X10 0 rfl rfl 12 (by decide) (List.mem_of_getElem? (i := 1) rfl) rfl dX10_lay_20 ?_
      refine gg_iload hx hb 3 rfl dX10_lay_23 ?_
      refine gg_iconst hx hb dX10_lay_25 ?_
      refine gg_isub hx hb dX10_lay_26 ?_
      refine gg_iald hx hb hK 9 0 rfl rfl (by decide) h.1 dX10_lay_27 ?_
      have h := h.2
      refine gg_iload_n hx hb 2 rfl rfl dX10_lay_28 ?_
      refine gg_callVip (As := [.int (xI (σ 9 (x4_3 - 2).toNat)), .int (xI (σ 9 (x4_3 - 1).toNat)), .int (xI a3)]) (rest := []) hx hb hml hown hts hK hZ hA (c_X10_side l D aa cI cZ cJ tR tU (σ 9 (x4_3 - 2).toNat) (σ 9 (x4_3 - 1).toNat) a3 σ _ h) (cwV 3 hts gX10_lay_X10_side rfl rfl rfl hd_X10_side ⟨Nat.le_of_ble_eq_true rfl, Nat.le_of_ble_eq_true rfl⟩) 0 rfl rfl rfl rfl (Nat.le_of_ble_eq_true rfl) dX10_lay_29 (fun r29 h => ?_)
      refine gg_if_gt (tgt := 41) hx hb h.1 dX10_lay_32 rfl (fun c32 => ?_) (fun c32 => ?_)
      · have h := h.2.1 c32
        refine gg_lv [0, 2, 3] rfl ?_
        exact h
      · have h := h.2.2 c32
        refine gg_iinc (lv' := [(4, .int (xI (x4_3 + (-1)))), (0, .ref (aa 0)), (2, .int (xI a2)), (3, .int (xI a3))]) hx hb 3 rfl (by decide) rfl dX10_lay_35 ?_
        refine gg_goto (tgt := 3) hx hb dX10_lay_38 rfl ?_
        refine gg_lv [1, 2, 3, 0] rfl ?_
        exact h)
  refine gg_lv [1, 3, 4, 0] rfl ?_
  exact h
abbrev rmX10_corners : Room := { frames := 3, cells := 0, slots := 0, locals := 69 }
theorem iX10_corners_X10 : ∀ w ∈ u_ws RX10 TX10 18, w ∈ wsX10_corners := (fun _ h => List.mem_cons_of_mem _ (List.mem_append_right _ h))
theorem hd_X10_corners : (yX10_corners.cls = RX10 ∧ yX10_corners.cls ≠ "java/lang/invoke/MethodHandle" ∧ yX10_corners.cls ≠ "java/lang/invoke/VarHandle" ∧ (parseMethodDescriptor yX10_corners.desc).map (fun d => d.parameters.length) = some 0) := by decide +kernel
set_option maxRecDepth 100000 in
set_option maxHeartbeats 4000000 in
theorem c_X10_corners (l : Launch) (D : va_G) (aa : Nat → Nat) (cI cZ cJ : ClassId) (tR tU : Nat) (σ : xSt) (Post : Int → xSt → Prop) (h : wp_X10_corners σ Post) : MI l D (tyL cI cZ cJ) (cM aa cI cZ cJ) tR tU yX10_corners wsX10_corners rmX10_corners [.ref (aa 0)] σ Post := by
  refine mi_of (cc := cX10_corners) (maxL := 6) (ret := (some .int)) (by decide) rfl (Nat.le_of_ble_eq_true rfl) ?_
  intro p e s m args below meth c A hF
  obtain ⟨hx, hb, hr, hml, hown, hts, hlk, hK, hZ, hA⟩ := hF
  have hown : s.vm.findClass RX10 = some m.cls := hown
  delta wp_X10_corners at h
  refine gg_lv (lv' := [(0, .ref (aa 0))]) [0] rfl ?_
  refine gg_iconst hx hb dX10_corners_0 ?_
  refine gg_istore_n (lv' := [(1, .int (xI 0)), (0, .ref (aa 0))]) hx hb rfl (by decide) rfl dX10_corners_1 ?_
  refine gg_iconst hx hb dX10_corners_2 ?_
  refine gg_istore_n (lv' := [(2, .int (xI 0)), (1, .int (xI 0)), (0, .ref (aa 0))]) hx hb rfl (by decide) rfl dX10_corners_3 ?_
  have h := h (fun (x1_4 x2_4 : Int) (s4 : xSt) => GG p l e rmX10_corners s m args below meth c (QI below D (cM aa cI cZ cJ) A args s Post) A D (cM aa cI cZ cJ) 6 s4 4 [(0, .ref (aa 0)), (1, .int (xI x1_4)), (2, .int (xI x2_4))] [])
  have h := h (by
    intro x1_4 x2_4 s4 h
    refine gg_iload_n hx hb 2 rfl rfl dX10_corners_4 ?_
    refine gg_aload_n hx hb 0 rfl rfl dX10_corners_5 ?_
    refine gg_get (C := RX10) (T := TX10) (N := 18) hx hb hts hown hK iX10_corners_X10 0 rfl rfl 5 (by decide) (List.mem_of_getElem? (i := 1) rfl) rfl dX10_corners_6 ?_
    refine gg_icmp_ge (tgt := 62) hx hb h.1 h.2.1 dX10_corners_9 rfl (fun c9 => ?_) (fun c9 => ?_)
    · have h := h.2.2.1 c9
      refine gg_iload_n hx hb 1 rfl rfl dX10_corners_62 ?_
      refine gg_istore_n (lv' := [(2, .int (xI x1_4)), (0, .ref (aa 0)), (1, .int (xI x1_4))]) hx hb rfl (by decide) rfl dX10_corners_63 ?_
      refine gg_iconst hx hb dX10_corners_64 ?_
      refine gg_istore_n (lv' := [(3, .int (xI 0)), (2, .int (xI x1_4)), (0, .ref (aa 0)), (1, .int (xI x1_4))]) hx hb rfl (by decide) rfl dX10_corners_65 ?_
      refine gg_aload_n hx hb 2 rfl rfl dX10_corners_66 ?_
      refine gg_get (C := RX10) (T := TX10) (N := 18) hx hb hts hown hK iX10_corners_X10 0 rfl rfl 5 (by decide) (List.mem_of_getElem? (i := 1) rfl) rfl dX10_corners_67 ?_
      refine gg_iconst hx hb dX10_corners_70 ?_
      refine gg_isub hx hb dX10_corners_71 ?_
      refine gg_istore (lv' := [(4, .int (xI ((s4 0 5) - 1))), (3, .int (xI 0)), (2, .int (xI x1_4)), (0, .ref (aa 0)), (1, .int (xI x1_4))]) hx hb (by decide) rfl dX10_corners_72 ?_
      have h := h (fun (x1_74 x3_74 x4_74 : Int) (s74 : xSt) => GG p l e rmX10_corners s m args below meth c (QI below D (cM aa cI cZ cJ) A args s Post) A D (cM aa cI cZ cJ) 6 s74 74 [(0, .ref (aa 0)), (1, .int (xI x1_74)), (2, .int (xI x1_4)), (3, .int (xI x3_74)), (4, .int (xI x4_74))] [])
      have h := h (by
        intro x1_74 x3_74 x4_74 s74 h
        refine gg_iload hx hb 4 rfl dX10_corners_74 ?_
        refine gg_if_lt (tgt := 142) hx hb h.1 dX10_corners_76 rfl (fun c76 => ?_) (fun c76 => ?_)
        · have h := h.2.1 c76
          refine gg_iload_n hx hb 1 rfl rfl dX10_corners_142 ?_
          refine gg_iconst hx hb dX10_corners_143 ?_
          refine gg_icmp_le (tgt := 153) hx hb h.1 (by decide) dX10_corners_144 rfl (fun c144 => ?_) (fun c144 => ?_)
          · have h := h.2.1 c144
            refine gg_iload_n hx hb 1 rfl rfl dX10_corners_153 ?_
            exact gg_iret hx hb hr hlk h dX10_corners_154
          · have h := h.2.2 c144
            refine gg_iload_n hx hb 1 rfl rfl dX10_corners_147 ?_
            refine gg_iconst hx hb dX10_corners_148 ?_
            refine gg_isub hx hb dX10_corners_149 ?_
            refine gg_goto (tgt := 154) hx hb dX10_corners_150 rfl ?_
            exact gg_iret hx hb hr hlk h dX10_corners_154
        · have h := h.2.2 c76
          refine gg_aload_n hx hb 0 rfl rfl dX10_corners_79 ?_
          refine gg_get (C := RX10) (T := TX10) (N := 18) hx hb hts hown hK iX10_corners_X10 0 rfl rfl 6 (by decide) (List.mem_of_getElem? (i := 2) rfl) rfl dX10_corners_80 ?_
          refine gg_iconst hx hb dX10_corners_83 ?_
          refine gg_isub hx hb dX10_corners_84 ?_
          refine gg_istore (lv' := [(5, .int (xI ((s74 0 6) - 1))), (0, .ref (aa 0)), (1, .int (xI x1_74)), (2, .int (xI x1_4)), (3, .int (xI x3_74)), (4, .int (xI x4_74))]) hx hb (by decide) rfl dX10_corners_85 ?_
          have h := h (fun (x1_87 x3_87 x5_87 : Int) (s87 : xSt) => GG p l e rmX10_corners s m args below meth c (QI below D (cM aa cI cZ cJ) A args s Post) A D (cM aa cI cZ cJ) 6 s87 87 [(0, .ref (aa 0)), (1, .int (xI x1_87)), (2, .int (xI x1_4)), (3, .int (xI x3_87)), (4, .int (xI x4_74)), (5, .int (xI x5_87))] [])
          have h := h (by
            intro x1_87 x3_87 x5_87 s87 h
            refine gg_iload hx hb 5 rfl dX10_corners_87 ?_
            refine gg_if_lt (tgt := 136) hx hb h.1 dX10_corners_89 rfl (fun c89 => ?_) (fun c89 => ?_)
            · have h := h.2.1 c89
              refine gg_iinc (lv' := [(4, .int (xI (x4_74 + (-1)))), (0, .ref (aa 0)), (1, .int (xI x1_87)), (2, .int (xI x1_4)), (3, .int (xI x3_87)), (5, .int (xI x5_87))]) hx hb 4 rfl (by decide) rfl dX10_corners_136 ?_
              refine gg_goto (tgt := 74) hx hb dX10_corners_139 rfl ?_
              refine gg_lv [1, 2, 3, 4, 0] rfl ?_
              exact h
            · have h := h.2.2 c89
              refine gg_aload_n hx hb 0 rfl rfl dX10_corners_92 ?_
              refine gg_iload hx hb 4 rfl dX10_corners_93 ?_
              refine gg_iload hx hb 5 rfl dX10_corners_95 ?_
              refine gg_callVip (As := [.int (xI x4_74), .int (xI x5_87)]) (rest := []) hx hb hml hown hts hK hZ hA (c_X10_isOf l D aa cI cZ cJ tR tU x4_74 x5_87 s87 _ h) (cwV 2 hts gX10_corners_X10_isOf rfl rfl rfl hd_X10_isOf ⟨Nat.le_of_ble_eq_true rfl, Nat.le_of_ble_eq_true rfl⟩) 0 rfl rfl rfl rfl (Nat.le_of_ble_eq_true rfl) dX10_corners_97 (fun r97 h => ?_)
              refine gg_if_eq (tgt := 130) hx hb h.1 dX10_corners_100 rfl (fun c100 => ?_) (fun c100 => ?_)
              · have h := h.2.1 c100
                refine gg_iinc (lv' := [(5, .int (xI (x5_87 + (-1)))), (0, .ref (aa 0)), (1, .int (xI x1_87)), (2, .int (xI x1_4)), (3, .int (xI x3_87)), (4, .int (xI x4_74))]) hx hb 5 rfl (by decide) rfl dX10_corners_130 ?_
                refine gg_goto (tgt := 87) hx hb dX10_corners_133 rfl ?_
                refine gg_lv [1, 2, 3, 4, 5, 0] rfl ?_
                exact h
              · have h := h.2.2 c100
                refine gg_iload_n hx hb 3 rfl rfl dX10_corners_103 ?_
                refine gg_if_eq (tgt := 126) hx hb h.1 dX10_corners_104 rfl (fun c104 => ?_) (fun c104 => ?_)
                · have h := h.2.1 c104
                  refine gg_iload_n hx hb 1 rfl rfl dX10_corners_126 ?_
                  refine gg_istore_n (lv' := [(1, .int (xI x1_87)), (0, .ref (aa 0)), (2, .int (xI x1_4)), (3, .int (xI x3_87)), (4, .int (xI x4_74)), (5, .int (xI x5_87))]) hx hb rfl (by decide) rfl dX10_corners_127 ?_
                  refine gg_iconst hx hb dX10_corners_128 ?_
                  refine gg_istore_n (lv' := [(3, .int (xI 1)), (1, .int (xI x1_87)), (0, .ref (aa 0)), (2, .int (xI x1_4)), (4, .int (xI x4_74)), (5, .int (xI x5_87))]) hx hb rfl (by decide) rfl dX10_corners_129 ?_
                  refine gg_iinc (lv' := [(5, .int (xI (x5_87 + (-1)))), (3, .int (xI 1)), (1, .int (xI x1_87)), (0, .ref (aa 0)), (2, .int (xI x1_4)), (4, .int (xI x4_74))]) hx hb 5 rfl (by decide) rfl dX10_corners_130 ?_
                  refine gg_goto (tgt := 87) hx hb dX10_corners_133 rfl ?_
                  refine gg_lv [3, 2, 4, 1, 5, 0] rfl ?_
                  exact h
                · have h := h.2.2 c104
                  refine gg_aload_n hx hb 0 rfl rfl dX10_corners_107 ?_
                  refine gg_iload_n hx hb 1 rfl rfl dX10_corners_108 ?_
                  refine gg_iload_n hx hb 2 rfl rfl dX10_corners_109 ?_
                  refine gg_iload hx hb 5 rfl dX10_corners_110 ?_
                  refine gg_aload_n hx hb 0 rfl rfl dX10_corners_112 ?_
                  refine gg_get (C := RX10) (T := TX10) (N := 18) hx hb hts hown hK iX10_corners_X10 0 rfl rfl 5 (by decide) (List.mem_of_getElem? (i := 1) rfl) rfl dX10_corners_113 ?_
                  refine gg_imul hx hb dX10_corners_116 ?_
                  refine gg_iload hx hb 4 rfl dX10_corners_117 ?_
                  refine gg_iadd hx hb dX10_corners_119 ?_
                  refine gg_callVi (As := [.int (xI x1_87), .int (xI x1_4), .int (xI ((x5_87 * (s87 0 5)) + x4_74))]) (rest := []) hx hb hml hown hts hK hZ hA (c_X10_lay l D aa cI cZ cJ tR tU x1_87 x1_4 ((x5_87 * (s87 0 5)) + x4_74) s87 _ h) (cwV 3 hts gX10_corners_X10_lay rfl rfl rfl hd_X10_lay ⟨Nat.le_of_ble_eq_true rfl, Nat.le_of_ble_eq_true rfl⟩) 0 rfl rfl rfl rfl (Nat.le_of_ble_eq_true rfl) dX10_corners_120 (fun r120 t120 h => ?_)
                  refine gg_goto (tgt := 127) hx hb dX10_corners_123 rfl ?_
                  refine gg_istore_n (lv' := [(1, .int (xI r120)), (0, .ref (aa 0)), (2, .int (xI x1_4)), (3, .int (xI x3_87)), (4, .int (xI x4_74)), (5, .int (xI x5_87))]) hx hb rfl (by decide) rfl dX10_corners_127 ?_
                  refine gg_iconst hx hb dX10_corners_128 ?_
                  refine gg_istore_n (lv' := [(3, .int (xI 1)), (1, .int (xI r120)), (0, .ref (aa 0)), (2, .int (xI x1_4)), (4, .int (xI x4_74)), (5, .int (xI x5_87))]) hx hb rfl (by decide) rfl dX10_corners_129 ?_
                  refine gg_iinc (lv' := [(5, .int (xI (x5_87 + (-1)))), (3, .int (xI 1)), (1, .int (xI r120)), (0, .ref (aa 0)), (2, .int (xI x1_4)), (4, .int (xI x4_74))]) hx hb 5 rfl (by decide) rfl dX10_corners_130 ?_
                  refine gg_goto (tgt := 87) hx hb dX10_corners_133 rfl ?_
                  refine gg_lv [3, 2, 4, 1, 5, 0] rfl ?_
                  exact h)
          refine gg_lv [1, 2, 3, 4, 5, 0] rfl ?_
          exact h)
      refine gg_lv [3, 4, 2, 1, 0] rfl ?_
      exact h
    · have h := h.2.2.2 c9
      refine gg_iconst hx hb dX10_corners_12 ?_
      refine gg_istore_n (lv' := [(3, .int (xI 0)), (0, .ref (aa 0)), (1, .int (xI x1_4)), (2, .int (xI x2_4))]) hx hb rfl (by decide) rfl dX10_corners_13 ?_
      have h := h (fun (x1_14 x3_14 : Int) (s14 : xSt) => GG p l e rmX10_corners s m args below meth c (QI below D (cM aa cI cZ cJ) A args s Post) A D (cM aa cI cZ cJ) 6 s14 14 [(0, .ref (aa 0)), (1, .int (xI x1_14)), (2, .int (xI x2_4)), (3, .int (xI x3_14))] [])
      have h := h (by
        intro x1_14 x3_14 s14 h
        refine gg_iload_n hx hb 3 rfl rfl dX10_corners_14 ?_
        refine gg_aload_n hx hb 0 rfl rfl dX10_corners_15 ?_
        refine gg_get (C := RX10) (T := TX10) (N := 18) hx hb hts hown hK iX10_corners_X10 0 rfl rfl 6 (by decide) (List.mem_of_getElem? (i := 2) rfl) rfl dX10_corners_16 ?_
        refine gg_icmp_ge (tgt := 56) hx hb h.1 h.2.1 dX10_corners_19 rfl (fun c19 => ?_) (fun c19 => ?_)
        · have h := h.2.2.1 c19
          refine gg_iinc (lv' := [(2, .int (xI (x2_4 + 1))), (0, .ref (aa 0)), (1, .int (xI x1_14)), (3, .int (xI x3_14))]) hx hb 2 rfl (by decide) rfl dX10_corners_56 ?_
          refine gg_goto (tgt := 4) hx hb dX10_corners_59 rfl ?_
          refine gg_lv [1, 2, 0] rfl ?_
          exact h
        · have h := h.2.2.2 c19
          refine gg_aload_n hx hb 0 rfl rfl dX10_corners_22 ?_
          refine gg_iload_n hx hb 2 rfl rfl dX10_corners_23 ?_
          refine gg_iload_n hx hb 3 rfl rfl dX10_corners_24 ?_
          refine gg_callVip (As := [.int (xI x2_4), .int (xI x3_14)]) (rest := []) hx hb hml hown hts hK hZ hA (c_X10_isOf l D aa cI cZ cJ tR tU x2_4 x3_14 s14 _ h) (cwV 2 hts gX10_corners_X10_isOf rfl rfl rfl hd_X10_isOf ⟨Nat.le_of_ble_eq_true rfl, Nat.le_of_ble_eq_true rfl⟩) 0 rfl rfl rfl rfl (Nat.le_of_ble_eq_true rfl) dX10_corners_25 (fun r25 h => ?_)
          refine gg_if_eq (tgt := 48) hx hb h.1 dX10_corners_28 rfl (fun c28 => ?_) (fun c28 => ?_)
          · have h := h.2.1 c28
            refine gg_iload_n hx hb 1 rfl rfl dX10_corners_48 ?_
            refine gg_istore_n (lv' := [(1, .int (xI x1_14)), (0, .ref (aa 0)), (2, .int (xI x2_4)), (3, .int (xI x3_14))]) hx hb rfl (by decide) rfl dX10_corners_49 ?_
            refine gg_iinc (lv' := [(3, .int (xI (x3_14 + 1))), (1, .int (xI x1_14)), (0, .ref (aa 0)), (2, .int (xI x2_4))]) hx hb 3 rfl (by decide) rfl dX10_corners_50 ?_
            refine gg_goto (tgt := 14) hx hb dX10_corners_53 rfl ?_
            refine gg_lv [2, 1, 3, 0] rfl ?_
            exact h
          · have h := h.2.2 c28
            refine gg_aload_n hx hb 0 rfl rfl dX10_corners_31 ?_
            refine gg_iload_n hx hb 1 rfl rfl dX10_corners_32 ?_
            refine gg_iconst hx hb dX10_corners_33 ?_
            refine gg_iload_n hx hb 3 rfl rfl dX10_corners_34 ?_
            refine gg_aload_n hx hb 0 rfl rfl dX10_corners_35 ?_
            refine gg_get (C := RX10) (T := TX10) (N := 18) hx hb hts hown hK iX10_corners_X10 0 rfl rfl 5 (by decide) (List.mem_of_getElem? (i := 1) rfl) rfl dX10_corners_36 ?_
            refine gg_imul hx hb dX10_corners_39 ?_
            refine gg_iload_n hx hb 2 rfl rfl dX10_corners_40 ?_
            refine gg_iadd hx hb dX10_corners_41 ?_
            refine gg_callVi (As := [.int (xI x1_14), .int (xI 1), .int (xI ((x3_14 * (s14 0 5)) + x2_4))]) (rest := []) hx hb hml hown hts hK hZ hA (c_X10_lay l D aa cI cZ cJ tR tU x1_14 1 ((x3_14 * (s14 0 5)) + x2_4) s14 _ h) (cwV 3 hts gX10_corners_X10_lay rfl rfl rfl hd_X10_lay ⟨Nat.le_of_ble_eq_true rfl, Nat.le_of_ble_eq_true rfl⟩) 0 rfl rfl rfl rfl (Nat.le_of_ble_eq_true rfl) dX10_corners_42 (fun r42 t42 h => ?_)
            refine gg_goto (tgt := 49) hx hb dX10_corners_45 rfl ?_
            refine gg_istore_n (lv' := [(1, .int (xI r42)), (0, .ref (aa 0)), (2, .int (xI x2_4)), (3, .int (xI x3_14))]) hx hb rfl (by decide) rfl dX10_corners_49 ?_
            refine gg_iinc (lv' := [(3, .int (xI (x3_14 + 1))), (1, .int (xI r42)), (0, .ref (aa 0)), (2, .int (xI x2_4))]) hx hb 3 rfl (by decide) rfl dX10_corners_50 ?_
            refine gg_goto (tgt := 14) hx hb dX10_corners_53 rfl ?_
            refine gg_lv [2, 1, 3, 0] rfl ?_
            exact h)
      refine gg_lv [1, 2, 3, 0] rfl ?_
      exact h)
  refine gg_lv [2, 1, 0] rfl ?_
  exact h
abbrev rmX10_inHull : Room := { frames := 1, cells := 0, slots := 0, locals := 25 }
theorem iX10_inHull_X10 : ∀ w ∈ u_ws RX10 TX10 18, w ∈ wsX10_inHull := (fun _ h => List.mem_cons_of_mem _ (List.mem_append_right _ h))
theorem hd_X10_inHull : (yX10_inHull.cls = RX10 ∧ yX10_inHull.cls ≠ "java/lang/invoke/MethodHandle" ∧ yX10_inHull.cls ≠ "java/lang/invoke/VarHandle" ∧ (parseMethodDescriptor yX10_inHull.desc).map (fun d => d.parameters.length) = some 2) := by decide +kernel
set_option maxRecDepth 100000 in
set_option maxHeartbeats 4000000 in
theorem c_X10_inHull (l : Launch) (D : va_G) (aa : Nat → Nat) (cI cZ cJ : ClassId) (tR tU : Nat) (a1 : Int) (a2 : Int) (σ : xSt) (Post : Int → Prop) (h : wp_X10_inHull a1 a2 σ Post) : MI l D (tyL cI cZ cJ) (cM aa cI cZ cJ) tR tU yX10_inHull wsX10_inHull rmX10_inHull [.ref (aa 0), .int (xI a1), .int (xI a2)] σ (fun r9 σ9 => σ9 = σ ∧ Post r9) := by
  refine mi_of (cc := cX10_inHull) (maxL := 6) (ret := (some .boolean)) (by decide) rfl (Nat.le_of_ble_eq_true rfl) ?_
  intro p e s m args below meth c A hF
  obtain ⟨hx, hb, hr, hml, hown, hts, hlk, hK, hZ, hA⟩ := hF
  have hown : s.vm.findClass RX10 = some m.cls := hown
  delta wp_X10_inHull at h
  refine gg_lv (lv' := [(0, .ref (aa 0)), (1, .int (xI a1)), (2, .int (xI a2))]) [0, 1, 2] rfl ?_
  refine gg_iload_n hx hb 1 rfl rfl dX10_inHull_0 ?_
  refine gg_iconst hx hb dX10_inHull_1 ?_
  refine gg_icmp_ge (tgt := 26) hx hb h.1 (by decide) dX10_inHull_2 rfl (fun c2 => ?_) (fun c2 => ?_)
  · have h := h.2.1 c2
    refine gg_iconst hx hb dX10_inHull_26 ?_
    refine gg_istore_n (lv' := [(3, .int (xI 1)), (0, .ref (aa 0)), (1, .int (xI a1)), (2, .int (xI a2))]) hx hb rfl (by decide) rfl dX10_inHull_27 ?_
    refine gg_iconst hx hb dX10_inHull_28 ?_
    refine gg_istore (lv' := [(4, .int (xI 0)), (3, .int (xI 1)), (0, .ref (aa 0)), (1, .int (xI a1)), (2, .int (xI a2))]) hx hb (by decide) rfl dX10_inHull_29 ?_
    have h := h (fun (x3_31 x4_31 : Int) => GG p l e rmX10_inHull s m args below meth c (QI below D (cM aa cI cZ cJ) A args s (fun r9 σ9 => σ9 = σ ∧ Post r9)) A D (cM aa cI cZ cJ) 6 σ 31 [(0, .ref (aa 0)), (1, .int (xI a1)), (2, .int (xI a2)), (3, .int (xI x3_31)), (4, .int (xI x4_31))] [])
    have h := h (by
      intro x3_31 x4_31 h
      refine gg_iload hx hb 4 rfl dX10_inHull_31 ?_
      refine gg_iload_n hx hb 1 rfl rfl dX10_inHull_33 ?_
      refine gg_icmp_ge (tgt := 79) hx hb h.1 h.2.1 dX10_inHull_34 rfl (fun c34 => ?_) (fun c34 => ?_)
      · have h := h.2.2.1 c34
        refine gg_iload_n hx hb 1 rfl rfl dX10_inHull_79 ?_
        refine gg_iconst hx hb dX10_inHull_80 ?_
        refine gg_icmp_ne (tgt := 197) hx hb h.1 (by decide) dX10_inHull_81 rfl (fun c81 => ?_) (fun c81 => ?_)
        · have h := h.2.1 c81
          refine gg_iload_n hx hb 3 rfl rfl dX10_inHull_197 ?_
          exact gg_zret hx hb hr hlk h.1 ⟨rfl, h.2⟩ dX10_inHull_198
        · have h := h.2.2 c81
          refine gg_aload_n hx hb 0 rfl rfl dX10_inHull_84 ?_
          refine gg_get (C := RX10) (T := TX10) (N := 18) hx hb hts hown hK iX10_inHull_X10 0 rfl rfl 12 (by decide) (List.mem_of_getElem? (i := 1) rfl) rfl dX10_inHull_85 ?_
          refine gg_iconst hx hb dX10_inHull_88 ?_
          refine gg_iald hx hb hK 9 0 rfl rfl (by decide) (by decide) dX10_inHull_89 ?_
          refine gg_istore (lv' := [(4, .int (xI (σ 9 0))), (0, .ref (aa 0)), (1, .int (xI a1)), (2, .int (xI a2)), (3, .int (xI x3_31))]) hx hb (by decide) rfl dX10_inHull_90 ?_
          refine gg_aload_n hx hb 1 rfl rfl dX10_inHull_92 ?_
          refine gg_get (C := RX10) (T := TX10) (N := 18) hx hb hts hown hK iX10_inHull_X10 0 rfl rfl 12 (by decide) (List.mem_of_getElem? (i := 1) rfl) rfl dX10_inHull_93 ?_
          refine gg_iconst hx hb dX10_inHull_96 ?_
          refine gg_iald hx hb hK 9 0 rfl rfl (by decide) (by decide) dX10_inHull_97 ?_
          refine gg_istore (lv' := [(5, .int (xI (σ 9 1))), (4, .int (xI (σ 9 0))), (0, .ref (aa 0)), (1, .int (xI a1)), (2, .int (xI a2)), (3, .int (xI x3_31))]) hx hb (by decide) rfl dX10_inHull_98 ?_
          refine gg_iload_n hx hb 5 rfl rfl dX10_inHull_100 ?_
          refine gg_if_eq (tgt := 195) hx hb h.1 dX10_inHull_101 rfl (fun c101 => ?_) (fun c101 => ?_)
          · have h := h.2.1 c101
            refine gg_iconst hx hb dX10_inHull_195 ?_
            refine gg_istore_n (lv' := [(3, .int (xI 0)), (5, .int (xI (σ 9 1))), (4, .int (xI (σ 9 0))), (0, .ref (aa 0)), (1, .int (xI a1)), (2, .int (xI a2))]) hx hb rfl (by decide) rfl dX10_inHull_196 ?_
            refine gg_iload_n hx hb 0 rfl rfl dX10_inHull_197 ?_
            exact gg_zret hx hb hr hlk (Or.inl rfl) ⟨rfl, h⟩ dX10_inHull_198
          · have h := h.2.2 c101
            refine gg_iload_n hx hb 4 rfl rfl dX10_inHull_104 ?_
            refine gg_aload_n hx hb 2 rfl rfl dX10_inHull_105 ?_
            refine gg_get (C := RX10) (T := TX10) (N := 18) hx hb hts hown hK iX10_inHull_X10 0 rfl rfl 5 (by decide) (List.mem_of_getElem? (i := 2) rfl) rfl dX10_inHull_106 ?_
            refine gg_irem hx hb h.1 h.2.1 h.2.2.1 dX10_inHull_109 ?_
            have h := h.2.2.2
            refine gg_i2l hx hb h.1 dX10_inHull_110 ?_
            have h := h.2
            refine gg_iload hx hb 1 rfl dX10_inHull_111 ?_
            refine gg_aload_n hx hb 2 rfl rfl dX10_inHull_113 ?_
            refine gg_get (C := RX10) (T := TX10) (N := 18) hx hb hts hown hK iX10_inHull_X10 0 rfl rfl 5 (by decide) (List.mem_of_getElem? (i := 2) rfl) rfl dX10_inHull_114 ?_
            refine gg_irem hx hb h.1 h.2.1 h.2.2.1 dX10_inHull_117 ?_
            have h := h.2.2.2
            refine gg_i2l hx hb h.1 dX10_inHull_118 ?_
            have h := h.2
            refine gg_iload hx hb 0 rfl dX10_inHull_119 ?_
            refine gg_aload_n hx hb 2 rfl rfl dX10_inHull_121 ?_
            refine gg_get (C := RX10) (T := TX10) (N := 18) hx hb hts hown hK iX10_inHull_X10 0 rfl rfl 5 (by decide) (List.mem_of_getElem? (i := 2) rfl) rfl dX10_inHull_122 ?_
            refine gg_irem hx hb h.1 h.2.1 h.2.2.1 dX10_inHull_125 ?_
            have h := h.2.2.2
            refine gg_i2l hx hb h.1 dX10_inHull_126 ?_
            have h := h.2
            refine gg_callSip (As := [.long (xJ (Int.tmod a2 (σ 0 5))), .long (xJ (Int.tmod (σ 9 0) (σ 0 5))), .long (xJ (Int.tmod (σ 9 1) (σ 0 5)))]) (rest := []) hx hb hml hown hts hK hZ hA (c_X10_in l D aa cI cZ cJ tR tU (Int.tmod a2 (σ 0 5)) (Int.tmod (σ 9 0) (σ 0 5)) (Int.tmod (σ 9 1) (σ 0 5)) σ _ h) (va_cwS 3 hts gX10_inHull_X10_in rfl rfl rfl hd_X10_in ⟨Nat.le_of_ble_eq_true rfl, Nat.le_of_ble_eq_true rfl⟩) rfl rfl (Nat.le_of_ble_eq_true rfl) dX10_inHull_127 (fun r127 h => ?_)
            refine gg_if_eq (tgt := 195) hx hb h.1 dX10_inHull_130 rfl (fun c130 => ?_) (fun c130 => ?_)
            · have h := h.2.1 c130
              refine gg_iconst hx hb dX10_inHull_195 ?_
              refine gg_istore_n (lv' := [(3, .int (xI 0)), (5, .int (xI (σ 9 1))), (4, .int (xI (σ 9 0))), (0, .ref (aa 0)), (1, .int (xI a1)), (2, .int (xI a2))]) hx hb rfl (by decide) rfl dX10_inHull_196 ?_
              refine gg_iload_n hx hb 0 rfl rfl dX10_inHull_197 ?_
              exact gg_zret hx hb hr hlk (Or.inl rfl) ⟨rfl, h⟩ dX10_inHull_198
            · have h := h.2.2 c130
              refine gg_iload_n hx hb 4 rfl rfl dX10_inHull_133 ?_
              refine gg_aload_n hx hb 2 rfl rfl dX10_inHull_134 ?_
              refine gg_get (C := RX10) (T := TX10) (N := 18) hx hb hts hown hK iX10_inHull_X10 0 rfl rfl 5 (by decide) (List.mem_of_getElem? (i := 2) rfl) rfl dX10_inHull_135 ?_
              refine gg_idiv hx hb h.1 h.2.1 h.2.2.1 dX10_inHull_138 ?_
              have h := h.2.2.2
              refine gg_i2l hx hb h.1 dX10_inHull_139 ?_
              have h := h.2
              refine gg_iload hx hb 1 rfl dX10_inHull_140 ?_
              refine gg_aload_n hx hb 2 rfl rfl dX10_inHull_142 ?_
              refine gg_get (C := RX10) (T := TX10) (N := 18) hx hb hts hown hK iX10_inHull_X10 0 rfl rfl 5 (by decide) (List.mem_of_getElem? (i := 2) rfl) rfl dX10_inHull_143 ?_
              refine gg_idiv hx hb h.1 h.2.1 h.2.2.1 dX10_inHull_146 ?_
              have h := h.2.2.2
              refine gg_i2l hx hb h.1 dX10_inHull_147 ?_
              have h := h.2
              refine gg_iload hx hb 0 rfl dX10_inHull_148 ?_
              refine gg_aload_n hx hb 2 rfl rfl dX10_inHull_150 ?_
              refine gg_get (C := RX10) (T := TX10) (N := 18) hx hb hts hown hK iX10_inHull_X10 0 rfl rfl 5 (by decide) (List.mem_of_getElem? (i := 2) rfl) rfl dX10_inHull_151 ?_
              refine gg_idiv hx hb h.1 h.2.1 h.2.2.1 dX10_inHull_154 ?_
              have h := h.2.2.2
              refine gg_i2l hx hb h.1 dX10_inHull_155 ?_
              have h := h.2
              refine gg_callSip (As := [.long (xJ (Int.tdiv a2 (σ 0 5))), .long (xJ (Int.tdiv (σ 9 0) (σ 0 5))), .long (xJ (Int.tdiv (σ 9 1) (σ 0 5)))]) (rest := []) hx hb hml hown hts hK hZ hA (c_X10_in l D aa cI cZ cJ tR tU (Int.tdiv a2 (σ 0 5)) (Int.tdiv (σ 9 0) (σ 0 5)) (Int.tdiv (σ 9 1) (σ 0 5)) σ _ h) (va_cwS 3 hts gX10_inHull_X10_in rfl rfl rfl hd_X10_in ⟨Nat.le_of_ble_eq_true rfl, Nat.le_of_ble_eq_true rfl⟩) rfl rfl (Nat.le_of_ble_eq_true rfl) dX10_inHull_156 (fun r156 h => ?_)
              refine gg_if_ne (tgt := 191) hx hb h.1 dX10_inHull_159 rfl (fun c159 => ?_) (fun c159 => ?_)
              · have h := h.2.1 c159
                refine gg_iconst hx hb dX10_inHull_191 ?_
                refine gg_goto (tgt := 196) hx hb dX10_inHull_192 rfl ?_
                refine gg_istore_n (lv' := [(3, .int (xI 1)), (5, .int (xI (σ 9 1))), (4, .int (xI (σ 9 0))), (0, .ref (aa 0)), (1, .int (xI a1)), (2, .int (xI a2))]) hx hb rfl (by decide) rfl dX10_inHull_196 ?_
                refine gg_iload_n hx hb 0 rfl rfl dX10_inHull_197 ?_
                exact gg_zret hx hb hr hlk (Or.inr rfl) ⟨rfl, h⟩ dX10_inHull_198
              · have h := h.2.2 c159
                refine gg_iload_n hx hb 4 rfl rfl dX10_inHull_162 ?_
                refine gg_aload_n hx hb 2 rfl rfl dX10_inHull_163 ?_
                refine gg_get (C := RX10) (T := TX10) (N := 18) hx hb hts hown hK iX10_inHull_X10 0 rfl rfl 5 (by decide) (List.mem_of_getElem? (i := 2) rfl) rfl dX10_inHull_164 ?_
                refine gg_idiv hx hb h.1 h.2.1 h.2.2.1 dX10_inHull_167 ?_
                have h := h.2.2.2
                refine gg_i2l hx hb h.1 dX10_inHull_168 ?_
                have h := h.2
                refine gg_iload hx hb 0 rfl dX10_inHull_169 ?_
                refine gg_aload_n hx hb 2 rfl rfl dX10_inHull_171 ?_
                refine gg_get (C := RX10) (T := TX10) (N := 18) hx hb hts hown hK iX10_inHull_X10 0 rfl rfl 5 (by decide) (List.mem_of_getElem? (i := 2) rfl) rfl dX10_inHull_172 ?_
                refine gg_idiv hx hb h.1 h.2.1 h.2.2.1 dX10_inHull_175 ?_
                have h := h.2.2.2
                refine gg_i2l hx hb h.1 dX10_inHull_176 ?_
                have h := h.2
                refine gg_iload hx hb 1 rfl dX10_inHull_177 ?_
                refine gg_aload_n hx hb 2 rfl rfl dX10_inHull_179 ?_
                refine gg_get (C := RX10) (T := TX10) (N := 18) hx hb hts hown hK iX10_inHull_X10 0 rfl rfl 5 (by decide) (List.mem_of_getElem? (i := 2) rfl) rfl dX10_inHull_180 ?_
                refine gg_idiv hx hb h.1 h.2.1 h.2.2.1 dX10_inHull_183 ?_
                have h := h.2.2.2
                refine gg_i2l hx hb h.1 dX10_inHull_184 ?_
                have h := h.2
                refine gg_callSip (As := [.long (xJ (Int.tdiv a2 (σ 0 5))), .long (xJ (Int.tdiv (σ 9 1) (σ 0 5))), .long (xJ (Int.tdiv (σ 9 0) (σ 0 5)))]) (rest := []) hx hb hml hown hts hK hZ hA (c_X10_in l D aa cI cZ cJ tR tU (Int.tdiv a2 (σ 0 5)) (Int.tdiv (σ 9 1) (σ 0 5)) (Int.tdiv (σ 9 0) (σ 0 5)) σ _ h) (va_cwS 3 hts gX10_inHull_X10_in rfl rfl rfl hd_X10_in ⟨Nat.le_of_ble_eq_true rfl, Nat.le_of_ble_eq_true rfl⟩) rfl rfl (Nat.le_of_ble_eq_true rfl) dX10_inHull_185 (fun r185 h => ?_)
                refine gg_if_eq (tgt := 195) hx hb h.1 dX10_inHull_188 rfl (fun c188 => ?_) (fun c188 => ?_)
                · have h := h.2.1 c188
                  refine gg_iconst hx hb dX10_inHull_195 ?_
                  refine gg_istore_n (lv' := [(3, .int (xI 0)), (5, .int (xI (σ 9 1))), (4, .int (xI (σ 9 0))), (0, .ref (aa 0)), (1, .int (xI a1)), (2, .int (xI a2))]) hx hb rfl (by decide) rfl dX10_inHull_196 ?_
                  refine gg_iload_n hx hb 0 rfl rfl dX10_inHull_197 ?_
                  exact gg_zret hx hb hr hlk (Or.inl rfl) ⟨rfl, h⟩ dX10_inHull_198
                · have h := h.2.2 c188
                  refine gg_iconst hx hb dX10_inHull_191 ?_
                  refine gg_goto (tgt := 196) hx hb dX10_inHull_192 rfl ?_
                  refine gg_istore_n (lv' := [(3, .int (xI 1)), (5, .int (xI (σ 9 1))), (4, .int (xI (σ 9 0))), (0, .ref (aa 0)), (1, .int (xI a1)), (2, .int (xI a2))]) hx hb rfl (by decide) rfl dX10_inHull_196 ?_
                  refine gg_iload_n hx hb 0 rfl rfl dX10_inHull_197 ?_
                  exact gg_zret hx hb hr hlk (Or.inr rfl) ⟨rfl, h⟩ dX10_inHull_198
      · have h := h.2.2.2 c34
        refine gg_iload_n hx hb 3 rfl rfl dX10_inHull_37 ?_
        refine gg_if_eq (tgt := 71) hx hb h.1 dX10_inHull_38 rfl (fun c38 => ?_) (fun c38 => ?_)
        · have h := h.2.1 c38
          refine gg_iconst hx hb dX10_inHull_71 ?_
          refine gg_istore_n (lv' := [(3, .int (xI 0)), (0, .ref (aa 0)), (1, .int (xI a1)), (2, .int (xI a2)), (4, .int (xI x4_31))]) hx hb rfl (by decide) rfl dX10_inHull_72 ?_
          refine gg_iinc (lv' := [(4, .int (xI (x4_31 + 1))), (3, .int (xI 0)), (0, .ref (aa 0)), (1, .int (xI a1)), (2, .int (xI a2))]) hx hb 4 rfl (by decide) rfl dX10_inHull_73 ?_
          refine gg_goto (tgt := 31) hx hb dX10_inHull_76 rfl ?_
          refine gg_lv [2, 3, 4, 1, 0] rfl ?_
          exact h
        · have h := h.2.2 c38
          refine gg_aload_n hx hb 0 rfl rfl dX10_inHull_41 ?_
          refine gg_aload_n hx hb 0 rfl rfl dX10_inHull_42 ?_
          refine gg_get (C := RX10) (T := TX10) (N := 18) hx hb hts hown hK iX10_inHull_X10 0 rfl rfl 12 (by decide) (List.mem_of_getElem? (i := 1) rfl) rfl dX10_inHull_43 ?_
          refine gg_iload hx hb 4 rfl dX10_inHull_46 ?_
          refine gg_iald hx hb hK 9 0 rfl rfl (by decide) h.1 dX10_inHull_48 ?_
          have h := h.2
          refine gg_aload_n hx hb 0 rfl rfl dX10_inHull_49 ?_
          refine gg_get (C := RX10) (T := TX10) (N := 18) hx hb hts hown hK iX10_inHull_X10 0 rfl rfl 12 (by decide) (List.mem_of_getElem? (i := 1) rfl) rfl dX10_inHull_50 ?_
          refine gg_iload hx hb 4 rfl dX10_inHull_53 ?_
          refine gg_iconst hx hb dX10_inHull_55 ?_
          refine gg_iadd hx hb dX10_inHull_56 ?_
          refine gg_iload_n hx hb 1 rfl rfl dX10_inHull_57 ?_
          refine gg_irem hx hb h.1 h.2.1 h.2.2.1 dX10_inHull_58 ?_
          have h := h.2.2.2
          refine gg_iald hx hb hK 9 0 rfl rfl (by decide) h.1 dX10_inHull_59 ?_
          have h := h.2
          refine gg_iload_n hx hb 2 rfl rfl dX10_inHull_60 ?_
          refine gg_callVip (As := [.int (xI (σ 9 (x4_31).toNat)), .int (xI (σ 9 (Int.tmod (x4_31 + 1) a1).toNat)), .int (xI a2)]) (rest := []) hx hb hml hown hts hK hZ hA (c_X10_side l D aa cI cZ cJ tR tU (σ 9 (x4_31).toNat) (σ 9 (Int.tmod (x4_31 + 1) a1).toNat) a2 σ _ h) (cwV 3 hts gX10_inHull_X10_side rfl rfl rfl hd_X10_side ⟨Nat.le_of_ble_eq_true rfl, Nat.le_of_ble_eq_true rfl⟩) 0 rfl rfl rfl rfl (Nat.le_of_ble_eq_true rfl) dX10_inHull_61 (fun r61 h => ?_)
          refine gg_if_lt (tgt := 71) hx hb h.1 dX10_inHull_64 rfl (fun c64 => ?_) (fun c64 => ?_)
          · have h := h.2.1 c64
            refine gg_iconst hx hb dX10_inHull_71 ?_
            refine gg_istore_n (lv' := [(3, .int (xI 0)), (0, .ref (aa 0)), (1, .int (xI a1)), (2, .int (xI a2)), (4, .int (xI x4_31))]) hx hb rfl (by decide) rfl dX10_inHull_72 ?_
            refine gg_iinc (lv' := [(4, .int (xI (x4_31 + 1))), (3, .int (xI 0)), (0, .ref (aa 0)), (1, .int (xI a1)), (2, .int (xI a2))]) hx hb 4 rfl (by decide) rfl dX10_inHull_73 ?_
            refine gg_goto (tgt := 31) hx hb dX10_inHull_76 rfl ?_
            refine gg_lv [2, 3, 4, 1, 0] rfl ?_
            exact h
          · have h := h.2.2 c64
            refine gg_iconst hx hb dX10_inHull_67 ?_
            refine gg_goto (tgt := 72) hx hb dX10_inHull_68 rfl ?_
            refine gg_istore_n (lv' := [(3, .int (xI 1)), (0, .ref (aa 0)), (1, .int (xI a1)), (2, .int (xI a2)), (4, .int (xI x4_31))]) hx hb rfl (by decide) rfl dX10_inHull_72 ?_
            refine gg_iinc (lv' := [(4, .int (xI (x4_31 + 1))), (3, .int (xI 1)), (0, .ref (aa 0)), (1, .int (xI a1)), (2, .int (xI a2))]) hx hb 4 rfl (by decide) rfl dX10_inHull_73 ?_
            refine gg_goto (tgt := 31) hx hb dX10_inHull_76 rfl ?_
            refine gg_lv [2, 3, 4, 1, 0] rfl ?_
            exact h)
    refine gg_lv [2, 3, 4, 1, 0] rfl ?_
    exact h
  · have h := h.2.2 c2
    refine gg_iload_n hx hb 1 rfl rfl dX10_inHull_5 ?_
    refine gg_iconst hx hb dX10_inHull_6 ?_
    refine gg_icmp_ne (tgt := 24) hx hb h.1 (by decide) dX10_inHull_7 rfl (fun c7 => ?_) (fun c7 => ?_)
    · have h := h.2.1 c7
      refine gg_iconst hx hb dX10_inHull_24 ?_
      exact gg_zret hx hb hr hlk (Or.inl rfl) ⟨rfl, h⟩ dX10_inHull_25
    · have h := h.2.2 c7
      refine gg_aload_n hx hb 0 rfl rfl dX10_inHull_10 ?_
      refine gg_get (C := RX10) (T := TX10) (N := 18) hx hb hts hown hK iX10_inHull_X10 0 rfl rfl 12 (by decide) (List.mem_of_getElem? (i := 1) rfl) rfl dX10_inHull_11 ?_
      refine gg_iconst hx hb dX10_inHull_14 ?_
      refine gg_iald hx hb hK 9 0 rfl rfl (by decide) (by decide) dX10_inHull_15 ?_
      refine gg_iload_n hx hb 2 rfl rfl dX10_inHull_16 ?_
      refine gg_icmp_ne (tgt := 24) hx hb h.1 h.2.1 dX10_inHull_17 rfl (fun c17 => ?_) (fun c17 => ?_)
      · have h := h.2.2.1 c17
        refine gg_iconst hx hb dX10_inHull_24 ?_
        exact gg_zret hx hb hr hlk (Or.inl rfl) ⟨rfl, h⟩ dX10_inHull_25
      · have h := h.2.2.2 c17
        refine gg_iconst hx hb dX10_inHull_20 ?_
        refine gg_goto (tgt := 25) hx hb dX10_inHull_21 rfl ?_
        exact gg_zret hx hb hr hlk (Or.inr rfl) ⟨rfl, h⟩ dX10_inHull_25
abbrev rmX10_lacks : Room := { frames := 4, cells := 0, slots := 0, locals := 94 }
theorem iX10_lacks_X10 : ∀ w ∈ u_ws RX10 TX10 18, w ∈ wsX10_lacks := (fun _ h => List.mem_cons_of_mem _ (List.mem_append_right _ h))
theorem hd_X10_lacks : (yX10_lacks.cls = RX10 ∧ yX10_lacks.cls ≠ "java/lang/invoke/MethodHandle" ∧ yX10_lacks.cls ≠ "java/lang/invoke/VarHandle" ∧ (parseMethodDescriptor yX10_lacks.desc).map (fun d => d.parameters.length) = some 0) := by decide +kernel
set_option maxRecDepth 100000 in
set_option maxHeartbeats 4000000 in
theorem c_X10_lacks (l : Launch) (D : va_G) (aa : Nat → Nat) (cI cZ cJ : ClassId) (tR tU : Nat) (σ : xSt) (Post : Int → xSt → Prop) (h : wp_X10_lacks σ Post) : MI l D (tyL cI cZ cJ) (cM aa cI cZ cJ) tR tU yX10_lacks wsX10_lacks rmX10_lacks [.ref (aa 0)] σ Post := by
  refine mi_of (cc := cX10_lacks) (maxL := 4) (ret := (some .int)) (by decide) rfl (Nat.le_of_ble_eq_true rfl) ?_
  intro p e s m args below meth c A hF
  obtain ⟨hx, hb, hr, hml, hown, hts, hlk, hK, hZ, hA⟩ := hF
  have hown : s.vm.findClass RX10 = some m.cls := hown
  delta wp_X10_lacks at h
  refine gg_lv (lv' := [(0, .ref (aa 0))]) [0] rfl ?_
  refine gg_aload_n hx hb 0 rfl rfl dX10_lacks_0 ?_
  refine gg_callVi (As := []) (rest := []) hx hb hml hown hts hK hZ hA (c_X10_corners l D aa cI cZ cJ tR tU σ _ h) (cwV 0 hts gX10_lacks_X10_corners rfl rfl rfl hd_X10_corners ⟨Nat.le_of_ble_eq_true rfl, Nat.le_of_ble_eq_true rfl⟩) 0 rfl rfl rfl rfl (Nat.le_of_ble_eq_true rfl) dX10_lacks_1 (fun r1 t1 h => ?_)
  refine gg_istore_n (lv' := [(1, .int (xI r1)), (0, .ref (aa 0))]) hx hb rfl (by decide) rfl dX10_lacks_4 ?_
  refine gg_iconst hx hb dX10_lacks_5 ?_
  refine gg_istore_n (lv' := [(2, .int (xI 0)), (1, .int (xI r1)), (0, .ref (aa 0))]) hx hb rfl (by decide) rfl dX10_lacks_6 ?_
  refine gg_iconst hx hb dX10_lacks_7 ?_
  refine gg_istore_n (lv' := [(3, .int (xI 0)), (2, .int (xI 0)), (1, .int (xI r1)), (0, .ref (aa 0))]) hx hb rfl (by decide) rfl dX10_lacks_8 ?_
  have h := h (fun (x2_9 x3_9 : Int) => GG p l e rmX10_lacks s m args below meth c (QI below D (cM aa cI cZ cJ) A args s Post) A D (cM aa cI cZ cJ) 4 t1 9 [(0, .ref (aa 0)), (1, .int (xI r1)), (2, .int (xI x2_9)), (3, .int (xI x3_9))] [])
  have h := h (by
    intro x2_9 x3_9 h
    refine gg_iload_n hx hb 3 rfl rfl dX10_lacks_9 ?_
    refine gg_aload_n hx hb 0 rfl rfl dX10_lacks_10 ?_
    refine gg_callVip (As := []) (rest := [.int (xI x3_9)]) hx hb hml hown hts hK hZ hA (c_X10_fields l D aa cI cZ cJ tR tU t1 _ h) (cwV 0 hts gX10_lacks_X10_fields rfl rfl rfl hd_X10_fields ⟨Nat.le_of_ble_eq_true rfl, Nat.le_of_ble_eq_true rfl⟩) 0 rfl rfl rfl rfl (Nat.le_of_ble_eq_true rfl) dX10_lacks_11 (fun r11 h => ?_)
    refine gg_icmp_ge (tgt := 49) hx hb h.1 h.2.1 dX10_lacks_14 rfl (fun c14 => ?_) (fun c14 => ?_)
    · have h := h.2.2.1 c14
      refine gg_iload_n hx hb 2 rfl rfl dX10_lacks_49 ?_
      exact gg_iret hx hb hr hlk h dX10_lacks_50
    · have h := h.2.2.2 c14
      refine gg_iload_n hx hb 2 rfl rfl dX10_lacks_17 ?_
      refine gg_aload_n hx hb 0 rfl rfl dX10_lacks_18 ?_
      refine gg_get (C := RX10) (T := TX10) (N := 18) hx hb hts hown hK iX10_lacks_X10 0 rfl rfl 7 (by decide) (List.mem_of_getElem? (i := 1) rfl) rfl dX10_lacks_19 ?_
      refine gg_iload_n hx hb 3 rfl rfl dX10_lacks_22 ?_
      refine gg_zald hx hb hK 4 1 rfl rfl (by decide) h.1 dX10_lacks_23 ?_
      have h := h.2
      refine gg_if_ne (tgt := 40) hx hb h.1 dX10_lacks_24 rfl (fun c24 => ?_) (fun c24 => ?_)
      · have h := h.2.1 c24
        refine gg_iconst hx hb dX10_lacks_40 ?_
        refine gg_iadd hx hb dX10_lacks_41 ?_
        refine gg_istore_n (lv' := [(2, .int (xI (x2_9 + 0))), (0, .ref (aa 0)), (1, .int (xI r1)), (3, .int (xI x3_9))]) hx hb rfl (by decide) rfl dX10_lacks_42 ?_
        refine gg_iinc (lv' := [(3, .int (xI (x3_9 + 1))), (2, .int (xI (x2_9 + 0))), (0, .ref (aa 0)), (1, .int (xI r1))]) hx hb 3 rfl (by decide) rfl dX10_lacks_43 ?_
        refine gg_goto (tgt := 9) hx hb dX10_lacks_46 rfl ?_
        refine gg_lv [2, 3, 1, 0] rfl ?_
        exact h
      · have h := h.2.2 c24
        refine gg_aload_n hx hb 0 rfl rfl dX10_lacks_27 ?_
        refine gg_iload_n hx hb 1 rfl rfl dX10_lacks_28 ?_
        refine gg_iload_n hx hb 3 rfl rfl dX10_lacks_29 ?_
        refine gg_callVip (As := [.int (xI r1), .int (xI x3_9)]) (rest := [.int (xI x2_9)]) hx hb hml hown hts hK hZ hA (c_X10_inHull l D aa cI cZ cJ tR tU r1 x3_9 t1 _ h) (cwV 2 hts gX10_lacks_X10_inHull rfl rfl rfl hd_X10_inHull ⟨Nat.le_of_ble_eq_true rfl, Nat.le_of_ble_eq_true rfl⟩) 0 rfl rfl rfl rfl (Nat.le_of_ble_eq_true rfl) dX10_lacks_30 (fun r30 h => ?_)
        refine gg_if_eq (tgt := 40) hx hb h.1 dX10_lacks_33 rfl (fun c33 => ?_) (fun c33 => ?_)
        · have h := h.2.1 c33
          refine gg_iconst hx hb dX10_lacks_40 ?_
          refine gg_iadd hx hb dX10_lacks_41 ?_
          refine gg_istore_n (lv' := [(2, .int (xI (x2_9 + 0))), (0, .ref (aa 0)), (1, .int (xI r1)), (3, .int (xI x3_9))]) hx hb rfl (by decide) rfl dX10_lacks_42 ?_
          refine gg_iinc (lv' := [(3, .int (xI (x3_9 + 1))), (2, .int (xI (x2_9 + 0))), (0, .ref (aa 0)), (1, .int (xI r1))]) hx hb 3 rfl (by decide) rfl dX10_lacks_43 ?_
          refine gg_goto (tgt := 9) hx hb dX10_lacks_46 rfl ?_
          refine gg_lv [2, 3, 1, 0] rfl ?_
          exact h
        · have h := h.2.2 c33
          refine gg_iconst hx hb dX10_lacks_36 ?_
          refine gg_goto (tgt := 41) hx hb dX10_lacks_37 rfl ?_
          refine gg_iadd hx hb dX10_lacks_41 ?_
          refine gg_istore_n (lv' := [(2, .int (xI (x2_9 + 1))), (0, .ref (aa 0)), (1, .int (xI r1)), (3, .int (xI x3_9))]) hx hb rfl (by decide) rfl dX10_lacks_42 ?_
          refine gg_iinc (lv' := [(3, .int (xI (x3_9 + 1))), (2, .int (xI (x2_9 + 1))), (0, .ref (aa 0)), (1, .int (xI r1))]) hx hb 3 rfl (by decide) rfl dX10_lacks_43 ?_
          refine gg_goto (tgt := 9) hx hb dX10_lacks_46 rfl ?_
          refine gg_lv [2, 3, 1, 0] rfl ?_
          exact h)
  refine gg_lv [3, 2, 1, 0] rfl ?_
  exact h
abbrev rmX10_heap : Room := { frames := 5, cells := 0, slots := 0, locals := 117 }
theorem iX10_heap_X10 : ∀ w ∈ u_ws RX10 TX10 18, w ∈ wsX10_heap := (fun _ h => List.mem_cons_of_mem _ (List.mem_append_right _ h))
theorem tbo_X10_heap (a : Int) (c0 : ¬ a = 0) (c1 : ¬ a = 1) (c2 : ¬ a = 2) (c3 : ¬ a = 3) (c4 : ¬ a = 4) : a < 0 ∨ 4 < a := by omega
theorem hd_X10_heap : (yX10_heap.cls = RX10 ∧ yX10_heap.cls ≠ "java/lang/invoke/MethodHandle" ∧ yX10_heap.cls ≠ "java/lang/invoke/VarHandle" ∧ (parseMethodDescriptor yX10_heap.desc).map (fun d => d.parameters.length) = some 1) := by decide +kernel
set_option maxRecDepth 100000 in
set_option maxHeartbeats 4000000 in
theorem c_X10_heap (l : Launch) (D : va_G) (aa : Nat → Nat) (cI cZ cJ : ClassId) (tR tU : Nat) (a1 : Int) (σ : xSt) (Post : Int → xSt → Prop) (h : wp_X10_heap a1 σ Post) : MI l D (tyL cI cZ cJ) (cM aa cI cZ cJ) tR tU yX10_heap wsX10_heap rmX10_heap [.ref (aa 0), .int (xI a1)] σ Post := by
  refine mi_of (cc := cX10_heap) (maxL := 2) (ret := (some .int)) (by decide) rfl (Nat.le_of_ble_eq_true rfl) ?_
  intro p e s m args below meth c A hF
  obtain ⟨hx, hb, hr, hml, hown, hts, hlk, hK, hZ, hA⟩ := hF
  have hown : s.vm.findClass RX10 = some m.cls := hown
  delta wp_X10_heap at h
  refine gg_lv (lv' := [(0, .ref (aa 0)), (1, .int (xI a1))]) [0, 1] rfl ?_
  refine gg_aload_n hx hb 0 rfl rfl dX10_heap_0 ?_
  refine gg_iconst hx hb dX10_heap_1 ?_
  refine gg_put (C := RX10) (T := TX10) (N := 18) hx hb hts hown hK iX10_heap_X10 tyX10 tyX10_ok nmX10 0 rfl rfl 0 (by decide) (List.mem_of_getElem? (i := 1) rfl) rfl rfl (Nat.le_of_ble_eq_true rfl) (cM_set_0_0 aa cI cZ cJ _ _) dX10_heap_2 (fun σ_2 e2 => ?_)
  have h := h σ_2 e2
  refine gg_iload_n hx hb 1 rfl rfl dX10_heap_5 ?_
  have hq := h.1
  have h := h.2
  by_cases c6_0 : a1 = 0
  · have h := h.1 c6_0
    refine gg_tableIn (k := 0) (tgt := 40) hx hb hq c6_0 dX10_heap_6 (by decide) (by decide) rfl rfl ?_
    refine gg_aload_n hx hb 0 rfl rfl dX10_heap_40 ?_
    refine gg_callVip (As := []) (rest := []) hx hb hml hown hts hK hZ hA (c_X10_many l D aa cI cZ cJ tR tU σ_2 _ h) (cwV 0 hts gX10_heap_X10_many rfl rfl rfl hd_X10_many ⟨Nat.le_of_ble_eq_true rfl, Nat.le_of_ble_eq_true rfl⟩) 0 rfl rfl rfl rfl (Nat.le_of_ble_eq_true rfl) dX10_heap_41 (fun r41 h => ?_)
    exact gg_iret hx hb hr hlk h dX10_heap_44
  have h := h.2
  by_cases c6_1 : a1 = 1
  · have h := h.1 c6_1
    refine gg_tableIn (k := 1) (tgt := 45) hx hb hq c6_1 dX10_heap_6 (by decide) (by decide) rfl rfl ?_
    refine gg_aload_n hx hb 0 rfl rfl dX10_heap_45 ?_
    refine gg_callVi (As := []) (rest := []) hx hb hml hown hts hK hZ hA (c_X10_parts l D aa cI cZ cJ tR tU σ_2 _ h) (cwV 0 hts gX10_heap_X10_parts rfl rfl rfl hd_X10_parts ⟨Nat.le_of_ble_eq_true rfl, Nat.le_of_ble_eq_true rfl⟩) 0 rfl rfl rfl rfl (Nat.le_of_ble_eq_true rfl) dX10_heap_46 (fun r46 t46 h => ?_)
    exact gg_iret hx hb hr hlk h dX10_heap_49
  have h := h.2
  by_cases c6_2 : a1 = 2
  · have h := h.1 c6_2
    refine gg_tableIn (k := 2) (tgt := 50) hx hb hq c6_2 dX10_heap_6 (by decide) (by decide) rfl rfl ?_
    refine gg_aload_n hx hb 0 rfl rfl dX10_heap_50 ?_
    refine gg_callVi (As := []) (rest := []) hx hb hml hown hts hK hZ hA (c_X10_holes l D aa cI cZ cJ tR tU σ_2 _ h) (cwV 0 hts gX10_heap_X10_holes rfl rfl rfl hd_X10_holes ⟨Nat.le_of_ble_eq_true rfl, Nat.le_of_ble_eq_true rfl⟩) 0 rfl rfl rfl rfl (Nat.le_of_ble_eq_true rfl) dX10_heap_51 (fun r51 t51 h => ?_)
    exact gg_iret hx hb hr hlk h dX10_heap_54
  have h := h.2
  by_cases c6_3 : a1 = 3
  · have h := h.1 c6_3
    refine gg_tableIn (k := 3) (tgt := 55) hx hb hq c6_3 dX10_heap_6 (by decide) (by decide) rfl rfl ?_
    refine gg_aload_n hx hb 0 rfl rfl dX10_heap_55 ?_
    refine gg_callVip (As := []) (rest := []) hx hb hml hown hts hK hZ hA (c_X10_rims l D aa cI cZ cJ tR tU σ_2 _ h) (cwV 0 hts gX10_heap_X10_rims rfl rfl rfl hd_X10_rims ⟨Nat.le_of_ble_eq_true rfl, Nat.le_of_ble_eq_true rfl⟩) 0 rfl rfl rfl rfl (Nat.le_of_ble_eq_true rfl) dX10_heap_56 (fun r56 h => ?_)
    exact gg_iret hx hb hr hlk h dX10_heap_59
  have h := h.2
  by_cases c6_4 : a1 = 4
  · have h := h.1 c6_4
    refine gg_tableIn (k := 4) (tgt := 60) hx hb hq c6_4 dX10_heap_6 (by decide) (by decide) rfl rfl ?_
    refine gg_aload_n hx hb 0 rfl rfl dX10_heap_60 ?_
    refine gg_callVi (As := []) (rest := []) hx hb hml hown hts hK hZ hA (c_X10_lacks l D aa cI cZ cJ tR tU σ_2 _ h) (cwV 0 hts gX10_heap_X10_lacks rfl rfl rfl hd_X10_lacks ⟨Nat.le_of_ble_eq_true rfl, Nat.le_of_ble_eq_true rfl⟩) 0 rfl rfl rfl rfl (Nat.le_of_ble_eq_true rfl) dX10_heap_61 (fun r61 t61 h => ?_)
    exact gg_iret hx hb hr hlk h dX10_heap_64
  have h := h.2
  have cD := tbo_X10_heap a1 c6_0 c6_1 c6_2 c6_3 c6_4
  have h := h cD
  refine gg_tableOut (tgt := 65) hx hb hq cD dX10_heap_6 rfl ?_
  refine gg_sipush hx hb dX10_heap_65 rfl ?_
  exact gg_iret hx hb hr hlk h dX10_heap_68
abbrev rmX10_hasStairs : Room := { frames := 3, cells := 0, slots := 0, locals := 69 }
theorem iX10_hasStairs_X10 : ∀ w ∈ u_ws RX10 TX10 18, w ∈ wsX10_hasStairs := (fun _ h => List.mem_cons_of_mem _ (List.mem_append_right _ h))
theorem hd_X10_hasStairs : (yX10_hasStairs.cls = RX10 ∧ yX10_hasStairs.cls ≠ "java/lang/invoke/MethodHandle" ∧ yX10_hasStairs.cls ≠ "java/lang/invoke/VarHandle" ∧ (parseMethodDescriptor yX10_hasStairs.desc).map (fun d => d.parameters.length) = some 0) := by decide +kernel
set_option maxRecDepth 100000 in
set_option maxHeartbeats 4000000 in
theorem c_X10_hasStairs (l : Launch) (D : va_G) (aa : Nat → Nat) (cI cZ cJ : ClassId) (tR tU : Nat) (σ : xSt) (Post : Int → Prop) (h : wp_X10_hasStairs σ Post) : MI l D (tyL cI cZ cJ) (cM aa cI cZ cJ) tR tU yX10_hasStairs wsX10_hasStairs rmX10_hasStairs [.ref (aa 0)] σ (fun r9 σ9 => σ9 = σ ∧ Post r9) := by
  refine mi_of (cc := cX10_hasStairs) (maxL := 8) (ret := (some .boolean)) (by decide) rfl (Nat.le_of_ble_eq_true rfl) ?_
  intro p e s m args below meth c A hF
  obtain ⟨hx, hb, hr, hml, hown, hts, hlk, hK, hZ, hA⟩ := hF
  have hown : s.vm.findClass RX10 = some m.cls := hown
  delta wp_X10_hasStairs at h
  refine gg_lv (lv' := [(0, .ref (aa 0))]) [0] rfl ?_
  refine gg_iconst hx hb dX10_hasStairs_0 ?_
  refine gg_istore_n (lv' := [(1, .int (xI 1)), (0, .ref (aa 0))]) hx hb rfl (by decide) rfl dX10_hasStairs_1 ?_
  refine gg_iconst hx hb dX10_hasStairs_2 ?_
  refine gg_istore_n (lv' := [(2, .int (xI 0)), (1, .int (xI 1)), (0, .ref (aa 0))]) hx hb rfl (by decide) rfl dX10_hasStairs_3 ?_
  have h := h (fun (x1_4 x2_4 : Int) => GG p l e rmX10_hasStairs s m args below meth c (QI below D (cM aa cI cZ cJ) A args s (fun r9 σ9 => σ9 = σ ∧ Post r9)) A D (cM aa cI cZ cJ) 8 σ 4 [(0, .ref (aa 0)), (1, .int (xI x1_4)), (2, .int (xI x2_4))] [])
  have h := h (by
    intro x1_4 x2_4 h
    refine gg_iload_n hx hb 2 rfl rfl dX10_hasStairs_4 ?_
    refine gg_iconst hx hb dX10_hasStairs_5 ?_
    refine gg_icmp_ge (tgt := 160) hx hb h.1 (by decide) dX10_hasStairs_6 rfl (fun c6 => ?_) (fun c6 => ?_)
    · have h := h.2.1 c6
      refine gg_iload_n hx hb 1 rfl rfl dX10_hasStairs_160 ?_
      exact gg_zret hx hb hr hlk h.1 ⟨rfl, h.2⟩ dX10_hasStairs_161
    · have h := h.2.2 c6
      refine gg_iconst hx hb dX10_hasStairs_9 ?_
      refine gg_istore_n (lv' := [(3, .int (xI 0)), (0, .ref (aa 0)), (1, .int (xI x1_4)), (2, .int (xI x2_4))]) hx hb rfl (by decide) rfl dX10_hasStairs_10 ?_
      have h := h (fun (x1_11 x3_11 : Int) => GG p l e rmX10_hasStairs s m args below meth c (QI below D (cM aa cI cZ cJ) A args s (fun r9 σ9 => σ9 = σ ∧ Post r9)) A D (cM aa cI cZ cJ) 8 σ 11 [(0, .ref (aa 0)), (1, .int (xI x1_11)), (2, .int (xI x2_4)), (3, .int (xI x3_11))] [])
      have h := h (by
        intro x1_11 x3_11 h
        refine gg_iload_n hx hb 3 rfl rfl dX10_hasStairs_11 ?_
        refine gg_iload_n hx hb 2 rfl rfl dX10_hasStairs_12 ?_
        have h := h (fun (y1_27 : Int) => GG p l e rmX10_hasStairs s m args below meth c (QI below D (cM aa cI cZ cJ) A args s (fun r9 σ9 => σ9 = σ ∧ Post r9)) A D (cM aa cI cZ cJ) 8 σ 27 [(0, .ref (aa 0)), (1, .int (xI x1_11)), (2, .int (xI x2_4)), (3, .int (xI x3_11))] [.int (xI y1_27), .int (xI x3_11)])
        have h := h (by
          intro y1_27 h
          refine gg_icmp_ge (tgt := 154) hx hb h.1 h.2.1 dX10_hasStairs_27 rfl (fun c27 => ?_) (fun c27 => ?_)
          · have h := h.2.2.1 c27
            refine gg_iinc (lv' := [(2, .int (xI (x2_4 + 1))), (0, .ref (aa 0)), (1, .int (xI x1_11)), (3, .int (xI x3_11))]) hx hb 2 rfl (by decide) rfl dX10_hasStairs_154 ?_
            refine gg_goto (tgt := 4) hx hb dX10_hasStairs_157 rfl ?_
            refine gg_lv [1, 2, 0] rfl ?_
            exact h
          · have h := h.2.2.2 c27
            refine gg_iconst hx hb dX10_hasStairs_30 ?_
            refine gg_istore (lv' := [(4, .int (xI 0)), (0, .ref (aa 0)), (1, .int (xI x1_11)), (2, .int (xI x2_4)), (3, .int (xI x3_11))]) hx hb (by decide) rfl dX10_hasStairs_31 ?_
            refine gg_iconst hx hb dX10_hasStairs_33 ?_
            refine gg_istore (lv' := [(5, .int (xI 0)), (4, .int (xI 0)), (0, .ref (aa 0)), (1, .int (xI x1_11)), (2, .int (xI x2_4)), (3, .int (xI x3_11))]) hx hb (by decide) rfl dX10_hasStairs_34 ?_
            have h := h (fun (x4_36 x5_36 : Int) => GG p l e rmX10_hasStairs s m args below meth c (QI below D (cM aa cI cZ cJ) A args s (fun r9 σ9 => σ9 = σ ∧ Post r9)) A D (cM aa cI cZ cJ) 8 σ 36 [(0, .ref (aa 0)), (1, .int (xI x1_11)), (2, .int (xI x2_4)), (3, .int (xI x3_11)), (4, .int (xI x4_36)), (5, .int (xI x5_36))] [])
            have h := h (by
              intro x4_36 x5_36 h
              refine gg_iload hx hb 5 rfl dX10_hasStairs_36 ?_
              refine gg_iload_n hx hb 2 rfl rfl dX10_hasStairs_38 ?_
              have h := h (fun (y1_53 : Int) => GG p l e rmX10_hasStairs s m args below meth c (QI below D (cM aa cI cZ cJ) A args s (fun r9 σ9 => σ9 = σ ∧ Post r9)) A D (cM aa cI cZ cJ) 8 σ 53 [(0, .ref (aa 0)), (1, .int (xI x1_11)), (2, .int (xI x2_4)), (3, .int (xI x3_11)), (4, .int (xI x4_36)), (5, .int (xI x5_36))] [.int (xI y1_53), .int (xI x5_36)])
              have h := h (by
                intro y1_53 h
                refine gg_icmp_ge (tgt := 132) hx hb h.1 h.2.1 dX10_hasStairs_53 rfl (fun c53 => ?_) (fun c53 => ?_)
                · have h := h.2.2.1 c53
                  refine gg_iload_n hx hb 1 rfl rfl dX10_hasStairs_132 ?_
                  refine gg_if_eq (tgt := 146) hx hb h.1 dX10_hasStairs_133 rfl (fun c133 => ?_) (fun c133 => ?_)
                  · have h := h.2.1 c133
                    refine gg_iconst hx hb dX10_hasStairs_146 ?_
                    refine gg_istore_n (lv' := [(1, .int (xI 0)), (0, .ref (aa 0)), (2, .int (xI x2_4)), (3, .int (xI x3_11)), (4, .int (xI x4_36)), (5, .int (xI x5_36))]) hx hb rfl (by decide) rfl dX10_hasStairs_147 ?_
                    refine gg_iinc (lv' := [(3, .int (xI (x3_11 + 1))), (1, .int (xI 0)), (0, .ref (aa 0)), (2, .int (xI x2_4)), (4, .int (xI x4_36)), (5, .int (xI x5_36))]) hx hb 3 rfl (by decide) rfl dX10_hasStairs_148 ?_
                    refine gg_goto (tgt := 11) hx hb dX10_hasStairs_151 rfl ?_
                    refine gg_lv [2, 1, 3, 0] rfl ?_
                    exact h
                  · have h := h.2.2 c133
                    refine gg_iload hx hb 4 rfl dX10_hasStairs_136 ?_
                    refine gg_iconst hx hb dX10_hasStairs_138 ?_
                    refine gg_icmp_ge (tgt := 146) hx hb h.1 (by decide) dX10_hasStairs_139 rfl (fun c139 => ?_) (fun c139 => ?_)
                    · have h := h.2.1 c139
                      refine gg_iconst hx hb dX10_hasStairs_146 ?_
                      refine gg_istore_n (lv' := [(1, .int (xI 0)), (0, .ref (aa 0)), (2, .int (xI x2_4)), (3, .int (xI x3_11)), (4, .int (xI x4_36)), (5, .int (xI x5_36))]) hx hb rfl (by decide) rfl dX10_hasStairs_147 ?_
                      refine gg_iinc (lv' := [(3, .int (xI (x3_11 + 1))), (1, .int (xI 0)), (0, .ref (aa 0)), (2, .int (xI x2_4)), (4, .int (xI x4_36)), (5, .int (xI x5_36))]) hx hb 3 rfl (by decide) rfl dX10_hasStairs_148 ?_
                      refine gg_goto (tgt := 11) hx hb dX10_hasStairs_151 rfl ?_
                      refine gg_lv [2, 1, 3, 0] rfl ?_
                      exact h
                    · have h := h.2.2 c139
                      refine gg_iconst hx hb dX10_hasStairs_142 ?_
                      refine gg_goto (tgt := 147) hx hb dX10_hasStairs_143 rfl ?_
                      refine gg_istore_n (lv' := [(1, .int (xI 1)), (0, .ref (aa 0)), (2, .int (xI x2_4)), (3, .int (xI x3_11)), (4, .int (xI x4_36)), (5, .int (xI x5_36))]) hx hb rfl (by decide) rfl dX10_hasStairs_147 ?_
                      refine gg_iinc (lv' := [(3, .int (xI (x3_11 + 1))), (1, .int (xI 1)), (0, .ref (aa 0)), (2, .int (xI x2_4)), (4, .int (xI x4_36)), (5, .int (xI x5_36))]) hx hb 3 rfl (by decide) rfl dX10_hasStairs_148 ?_
                      refine gg_goto (tgt := 11) hx hb dX10_hasStairs_151 rfl ?_
                      refine gg_lv [2, 1, 3, 0] rfl ?_
                      exact h
                · have h := h.2.2.2 c53
                  refine gg_iload_n hx hb 2 rfl rfl dX10_hasStairs_56 ?_
                  have h := h (fun (y0_77 : Int) => GG p l e rmX10_hasStairs s m args below meth c (QI below D (cM aa cI cZ cJ) A args s (fun r9 σ9 => σ9 = σ ∧ Post r9)) A D (cM aa cI cZ cJ) 8 σ 77 [(0, .ref (aa 0)), (1, .int (xI x1_11)), (2, .int (xI x2_4)), (3, .int (xI x3_11)), (4, .int (xI x4_36)), (5, .int (xI x5_36))] [.int (xI y0_77)])
                  have h := h (by
                    intro y0_77 h
                    refine gg_istore (lv' := [(6, .int (xI y0_77)), (0, .ref (aa 0)), (1, .int (xI x1_11)), (2, .int (xI x2_4)), (3, .int (xI x3_11)), (4, .int (xI x4_36)), (5, .int (xI x5_36))]) hx hb (by decide) rfl dX10_hasStairs_77 ?_
                    refine gg_iload_n hx hb 3 rfl rfl dX10_hasStairs_79 ?_
                    have h := h (fun (y0_104 : Int) => GG p l e rmX10_hasStairs s m args below meth c (QI below D (cM aa cI cZ cJ) A args s (fun r9 σ9 => σ9 = σ ∧ Post r9)) A D (cM aa cI cZ cJ) 8 σ 104 [(0, .ref (aa 0)), (1, .int (xI x1_11)), (2, .int (xI x2_4)), (3, .int (xI x3_11)), (4, .int (xI x4_36)), (5, .int (xI x5_36)), (6, .int (xI y0_77))] [.int (xI y0_104)])
                    have h := h (by
                      intro y0_104 h
                      refine gg_istore (lv' := [(7, .int (xI y0_104)), (0, .ref (aa 0)), (1, .int (xI x1_11)), (2, .int (xI x2_4)), (3, .int (xI x3_11)), (4, .int (xI x4_36)), (5, .int (xI x5_36)), (6, .int (xI y0_77))]) hx hb (by decide) rfl dX10_hasStairs_104 ?_
                      refine gg_iload hx hb 5 rfl dX10_hasStairs_106 ?_
                      refine gg_iload hx hb 7 rfl dX10_hasStairs_108 ?_
                      refine gg_if_eq (tgt := 122) hx hb h.1 dX10_hasStairs_110 rfl (fun c110 => ?_) (fun c110 => ?_)
                      · have h := h.2.1 c110
                        refine gg_iconst hx hb dX10_hasStairs_122 ?_
                        refine gg_iadd hx hb dX10_hasStairs_123 ?_
                        refine gg_istore (lv' := [(4, .int (xI (x4_36 + 0))), (7, .int (xI y0_104)), (0, .ref (aa 0)), (1, .int (xI x1_11)), (2, .int (xI x2_4)), (3, .int (xI x3_11)), (5, .int (xI x5_36)), (6, .int (xI y0_77))]) hx hb (by decide) rfl dX10_hasStairs_124 ?_
                        refine gg_iinc (lv' := [(5, .int (xI (x5_36 + 1))), (4, .int (xI (x4_36 + 0))), (7, .int (xI y0_104)), (0, .ref (aa 0)), (1, .int (xI x1_11)), (2, .int (xI x2_4)), (3, .int (xI x3_11)), (6, .int (xI y0_77))]) hx hb 6 rfl (by decide) rfl dX10_hasStairs_126 ?_
                        refine gg_goto (tgt := 36) hx hb dX10_hasStairs_129 rfl ?_
                        refine gg_lv [3, 4, 5, 6, 1, 0] rfl ?_
                        exact h
                      · have h := h.2.2 c110
                        refine gg_iload hx hb 0 rfl dX10_hasStairs_113 ?_
                        refine gg_if_ne (tgt := 122) hx hb h.1 dX10_hasStairs_115 rfl (fun c115 => ?_) (fun c115 => ?_)
                        · have h := h.2.1 c115
                          refine gg_iconst hx hb dX10_hasStairs_122 ?_
                          refine gg_iadd hx hb dX10_hasStairs_123 ?_
                          refine gg_istore (lv' := [(4, .int (xI (x4_36 + 0))), (7, .int (xI y0_104)), (0, .ref (aa 0)), (1, .int (xI x1_11)), (2, .int (xI x2_4)), (3, .int (xI x3_11)), (5, .int (xI x5_36)), (6, .int (xI y0_77))]) hx hb (by decide) rfl dX10_hasStairs_124 ?_
                          refine gg_iinc (lv' := [(5, .int (xI (x5_36 + 1))), (4, .int (xI (x4_36 + 0))), (7, .int (xI y0_104)), (0, .ref (aa 0)), (1, .int (xI x1_11)), (2, .int (xI x2_4)), (3, .int (xI x3_11)), (6, .int (xI y0_77))]) hx hb 6 rfl (by decide) rfl dX10_hasStairs_126 ?_
                          refine gg_goto (tgt := 36) hx hb dX10_hasStairs_129 rfl ?_
                          refine gg_lv [3, 4, 5, 6, 1, 0] rfl ?_
                          exact h
                        · have h := h.2.2 c115
                          refine gg_iconst hx hb dX10_hasStairs_118 ?_
                          refine gg_goto (tgt := 123) hx hb dX10_hasStairs_119 rfl ?_
                          refine gg_iadd hx hb dX10_hasStairs_123 ?_
                          refine gg_istore (lv' := [(4, .int (xI (x4_36 + 1))), (7, .int (xI y0_104)), (0, .ref (aa 0)), (1, .int (xI x1_11)), (2, .int (xI x2_4)), (3, .int (xI x3_11)), (5, .int (xI x5_36)), (6, .int (xI y0_77))]) hx hb (by decide) rfl dX10_hasStairs_124 ?_
                          refine gg_iinc (lv' := [(5, .int (xI (x5_36 + 1))), (4, .int (xI (x4_36 + 1))), (7, .int (xI y0_104)), (0, .ref (aa 0)), (1, .int (xI x1_11)), (2, .int (xI x2_4)), (3, .int (xI x3_11)), (6, .int (xI y0_77))]) hx hb 6 rfl (by decide) rfl dX10_hasStairs_126 ?_
                          refine gg_goto (tgt := 36) hx hb dX10_hasStairs_129 rfl ?_
                          refine gg_lv [3, 4, 5, 6, 1, 0] rfl ?_
                          exact h)
                    refine gg_if_ne (tgt := 95) hx hb h.1 dX10_hasStairs_80 rfl (fun c80 => ?_) (fun c80 => ?_)
                    · have h := h.2.1 c80
                      refine gg_aload_n hx hb 1 rfl rfl dX10_hasStairs_95 ?_
                      refine gg_iload_n hx hb 4 rfl rfl dX10_hasStairs_96 ?_
                      refine gg_iload hx hb 6 rfl dX10_hasStairs_97 ?_
                      refine gg_iconst hx hb dX10_hasStairs_99 ?_
                      refine gg_isub hx hb dX10_hasStairs_100 ?_
                      refine gg_callVip (As := [.int (xI x3_11), .int (xI (x5_36 - 1))]) (rest := []) hx hb hml hown hts hK hZ hA (c_X10_isOf l D aa cI cZ cJ tR tU x3_11 (x5_36 - 1) σ _ h) (cwV 2 hts gX10_hasStairs_X10_isOf rfl rfl rfl hd_X10_isOf ⟨Nat.le_of_ble_eq_true rfl, Nat.le_of_ble_eq_true rfl⟩) 0 rfl rfl rfl rfl (Nat.le_of_ble_eq_true rfl) dX10_hasStairs_101 (fun r101 h => ?_)
                      refine gg_lv [1, 2, 3, 4, 5, 6, 0] rfl ?_
                      exact h
                    · have h := h.2.2 c80
                      refine gg_aload_n hx hb 1 rfl rfl dX10_hasStairs_83 ?_
                      refine gg_iload hx hb 6 rfl dX10_hasStairs_84 ?_
                      refine gg_iconst hx hb dX10_hasStairs_86 ?_
                      refine gg_isub hx hb dX10_hasStairs_87 ?_
                      refine gg_iload_n hx hb 4 rfl rfl dX10_hasStairs_88 ?_
                      refine gg_callVip (As := [.int (xI (x5_36 - 1)), .int (xI x3_11)]) (rest := []) hx hb hml hown hts hK hZ hA (c_X10_isOf l D aa cI cZ cJ tR tU (x5_36 - 1) x3_11 σ _ h) (cwV 2 hts gX10_hasStairs_X10_isOf rfl rfl rfl hd_X10_isOf ⟨Nat.le_of_ble_eq_true rfl, Nat.le_of_ble_eq_true rfl⟩) 0 rfl rfl rfl rfl (Nat.le_of_ble_eq_true rfl) dX10_hasStairs_89 (fun r89 h => ?_)
                      refine gg_goto (tgt := 104) hx hb dX10_hasStairs_92 rfl ?_
                      refine gg_lv [1, 2, 3, 4, 5, 6, 0] rfl ?_
                      exact h)
                  refine gg_if_ne (tgt := 70) hx hb h.1 dX10_hasStairs_57 rfl (fun c57 => ?_) (fun c57 => ?_)
                  · have h := h.2.1 c57
                    refine gg_aload_n hx hb 0 rfl rfl dX10_hasStairs_70 ?_
                    refine gg_iload_n hx hb 3 rfl rfl dX10_hasStairs_71 ?_
                    refine gg_iload hx hb 5 rfl dX10_hasStairs_72 ?_
                    refine gg_callVip (As := [.int (xI x3_11), .int (xI x5_36)]) (rest := []) hx hb hml hown hts hK hZ hA (c_X10_isOf l D aa cI cZ cJ tR tU x3_11 x5_36 σ _ h) (cwV 2 hts gX10_hasStairs_X10_isOf rfl rfl rfl hd_X10_isOf ⟨Nat.le_of_ble_eq_true rfl, Nat.le_of_ble_eq_true rfl⟩) 0 rfl rfl rfl rfl (Nat.le_of_ble_eq_true rfl) dX10_hasStairs_74 (fun r74 h => ?_)
                    exact h
                  · have h := h.2.2 c57
                    refine gg_aload_n hx hb 0 rfl rfl dX10_hasStairs_60 ?_
                    refine gg_iload hx hb 5 rfl dX10_hasStairs_61 ?_
                    refine gg_iload_n hx hb 3 rfl rfl dX10_hasStairs_63 ?_
                    refine gg_callVip (As := [.int (xI x5_36), .int (xI x3_11)]) (rest := []) hx hb hml hown hts hK hZ hA (c_X10_isOf l D aa cI cZ cJ tR tU x5_36 x3_11 σ _ h) (cwV 2 hts gX10_hasStairs_X10_isOf rfl rfl rfl hd_X10_isOf ⟨Nat.le_of_ble_eq_true rfl, Nat.le_of_ble_eq_true rfl⟩) 0 rfl rfl rfl rfl (Nat.le_of_ble_eq_true rfl) dX10_hasStairs_64 (fun r64 h => ?_)
                    refine gg_goto (tgt := 77) hx hb dX10_hasStairs_67 rfl ?_
                    exact h)
              refine gg_if_ne (tgt := 49) hx hb h.1 dX10_hasStairs_39 rfl (fun c39 => ?_) (fun c39 => ?_)
              · have h := h.2.1 c39
                refine gg_aload_n hx hb 0 rfl rfl dX10_hasStairs_49 ?_
                refine gg_get (C := RX10) (T := TX10) (N := 18) hx hb hts hown hK iX10_hasStairs_X10 0 rfl rfl 6 (by decide) (List.mem_of_getElem? (i := 1) rfl) rfl dX10_hasStairs_50 ?_
                exact h
              · have h := h.2.2 c39
                refine gg_aload_n hx hb 0 rfl rfl dX10_hasStairs_42 ?_
                refine gg_get (C := RX10) (T := TX10) (N := 18) hx hb hts hown hK iX10_hasStairs_X10 0 rfl rfl 5 (by decide) (List.mem_of_getElem? (i := 2) rfl) rfl dX10_hasStairs_43 ?_
                refine gg_goto (tgt := 53) hx hb dX10_hasStairs_46 rfl ?_
                exact h)
            refine gg_lv [2, 3, 4, 5, 1, 0] rfl ?_
            exact h)
        refine gg_if_ne (tgt := 23) hx hb h.1 dX10_hasStairs_13 rfl (fun c13 => ?_) (fun c13 => ?_)
        · have h := h.2.1 c13
          refine gg_aload_n hx hb 0 rfl rfl dX10_hasStairs_23 ?_
          refine gg_get (C := RX10) (T := TX10) (N := 18) hx hb hts hown hK iX10_hasStairs_X10 0 rfl rfl 5 (by decide) (List.mem_of_getElem? (i := 2) rfl) rfl dX10_hasStairs_24 ?_
          exact h
        · have h := h.2.2 c13
          refine gg_aload_n hx hb 0 rfl rfl dX10_hasStairs_16 ?_
          refine gg_get (C := RX10) (T := TX10) (N := 18) hx hb hts hown hK iX10_hasStairs_X10 0 rfl rfl 6 (by decide) (List.mem_of_getElem? (i := 1) rfl) rfl dX10_hasStairs_17 ?_
          refine gg_goto (tgt := 27) hx hb dX10_hasStairs_20 rfl ?_
          exact h)
      refine gg_lv [1, 2, 3, 0] rfl ?_
      exact h)
  refine gg_lv [2, 1, 0] rfl ?_
  exact h
abbrev rmX10_isDisc : Room := { frames := 2, cells := 0, slots := 0, locals := 42 }
theorem iX10_isDisc_X10 : ∀ w ∈ u_ws RX10 TX10 18, w ∈ wsX10_isDisc := (fun _ h => List.mem_cons_of_mem _ (List.mem_append_right _ h))
theorem hd_X10_isDisc : (yX10_isDisc.cls = RX10 ∧ yX10_isDisc.cls ≠ "java/lang/invoke/MethodHandle" ∧ yX10_isDisc.cls ≠ "java/lang/invoke/VarHandle" ∧ (parseMethodDescriptor yX10_isDisc.desc).map (fun d => d.parameters.length) = some 0) := by decide +kernel
set_option maxRecDepth 100000 in
set_option maxHeartbeats 4000000 in
theorem c_X10_isDisc (l : Launch) (D : va_G) (aa : Nat → Nat) (cI cZ cJ : ClassId) (tR tU : Nat) (σ : xSt) (Post : Int → xSt → Prop) (h : wp_X10_isDisc σ Post) : MI l D (tyL cI cZ cJ) (cM aa cI cZ cJ) tR tU yX10_isDisc wsX10_isDisc rmX10_isDisc [.ref (aa 0)] σ Post := by
  refine mi_of (cc := cX10_isDisc) (maxL := 10) (ret := (some .boolean)) (by decide) rfl (Nat.le_of_ble_eq_true rfl) ?_
  intro p e s m args below meth c A hF
  obtain ⟨hx, hb, hr, hml, hown, hts, hlk, hK, hZ, hA⟩ := hF
  have hown : s.vm.findClass RX10 = some m.cls := hown
  delta wp_X10_isDisc at h
  refine gg_lv (lv' := [(0, .ref (aa 0))]) [0] rfl ?_
  refine gg_aload_n hx hb 0 rfl rfl dX10_isDisc_0 ?_
  refine gg_callVip (As := []) (rest := []) hx hb hml hown hts hK hZ hA (c_X10_many l D aa cI cZ cJ tR tU σ _ h) (cwV 0 hts gX10_isDisc_X10_many rfl rfl rfl hd_X10_many ⟨Nat.le_of_ble_eq_true rfl, Nat.le_of_ble_eq_true rfl⟩) 0 rfl rfl rfl rfl (Nat.le_of_ble_eq_true rfl) dX10_isDisc_1 (fun r1 h => ?_)
  refine gg_istore_n (lv' := [(1, .int (xI r1)), (0, .ref (aa 0))]) hx hb rfl (by decide) rfl dX10_isDisc_4 ?_
  refine gg_iconst hx hb dX10_isDisc_5 ?_
  refine gg_istore_n (lv' := [(2, .int (xI 0)), (1, .int (xI r1)), (0, .ref (aa 0))]) hx hb rfl (by decide) rfl dX10_isDisc_6 ?_
  have h := h (fun (x2_7 : Int) => GG p l e rmX10_isDisc s m args below meth c (QI below D (cM aa cI cZ cJ) A args s Post) A D (cM aa cI cZ cJ) 10 σ 7 [(0, .ref (aa 0)), (1, .int (xI r1)), (2, .int (xI x2_7))] [])
  have h := h (by
    intro x2_7 h
    refine gg_iload_n hx hb 2 rfl rfl dX10_isDisc_7 ?_
    refine gg_iconst hx hb dX10_isDisc_8 ?_
    refine gg_aload_n hx hb 0 rfl rfl dX10_isDisc_9 ?_
    refine gg_get (C := RX10) (T := TX10) (N := 18) hx hb hts hown hK iX10_isDisc_X10 0 rfl rfl 6 (by decide) (List.mem_of_getElem? (i := 1) rfl) rfl dX10_isDisc_10 ?_
    refine gg_imul hx hb dX10_isDisc_13 ?_
    refine gg_iconst hx hb dX10_isDisc_14 ?_
    refine gg_isub hx hb dX10_isDisc_15 ?_
    refine gg_icmp_gt (tgt := 190) hx hb h.1 h.2.1 dX10_isDisc_16 rfl (fun c16 => ?_) (fun c16 => ?_)
    · have h := h.2.2.1 c16
      refine gg_iconst hx hb dX10_isDisc_190 ?_
      exact gg_zret hx hb hr hlk (Or.inl rfl) h dX10_isDisc_191
    · have h := h.2.2.2 c16
      refine gg_iload_n hx hb 1 rfl rfl dX10_isDisc_19 ?_
      refine gg_if_le (tgt := 190) hx hb h.1 dX10_isDisc_20 rfl (fun c20 => ?_) (fun c20 => ?_)
      · have h := h.2.1 c20
        refine gg_iconst hx hb dX10_isDisc_190 ?_
        exact gg_zret hx hb hr hlk (Or.inl rfl) h dX10_isDisc_191
      · have h := h.2.2 c20
        refine gg_iconst hx hb dX10_isDisc_23 ?_
        refine gg_istore_n (lv' := [(3, .int (xI 0)), (0, .ref (aa 0)), (1, .int (xI r1)), (2, .int (xI x2_7))]) hx hb rfl (by decide) rfl dX10_isDisc_24 ?_
        have h := h (fun (x3_25 : Int) => GG p l e rmX10_isDisc s m args below meth c (QI below D (cM aa cI cZ cJ) A args s Post) A D (cM aa cI cZ cJ) 10 σ 25 [(0, .ref (aa 0)), (1, .int (xI r1)), (2, .int (xI x2_7)), (3, .int (xI x3_25))] [])
        have h := h (by
          intro x3_25 h
          refine gg_iload_n hx hb 3 rfl rfl dX10_isDisc_25 ?_
          refine gg_iconst hx hb dX10_isDisc_26 ?_
          refine gg_aload_n hx hb 0 rfl rfl dX10_isDisc_27 ?_
          refine gg_get (C := RX10) (T := TX10) (N := 18) hx hb hts hown hK iX10_isDisc_X10 0 rfl rfl 5 (by decide) (List.mem_of_getElem? (i := 2) rfl) rfl dX10_isDisc_28 ?_
          refine gg_imul hx hb dX10_isDisc_31 ?_
          refine gg_iconst hx hb dX10_isDisc_32 ?_
          refine gg_isub hx hb dX10_isDisc_33 ?_
          refine gg_icmp_gt (tgt := 184) hx hb h.1 h.2.1 dX10_isDisc_34 rfl (fun c34 => ?_) (fun c34 => ?_)
          · have h := h.2.2.1 c34
            refine gg_iinc (lv' := [(2, .int (xI (x2_7 + 1))), (0, .ref (aa 0)), (1, .int (xI r1)), (3, .int (xI x3_25))]) hx hb 2 rfl (by decide) rfl dX10_isDisc_184 ?_
            refine gg_goto (tgt := 7) hx hb dX10_isDisc_187 rfl ?_
            refine gg_lv [1, 2, 0] rfl ?_
            exact h
          · have h := h.2.2.2 c34
            refine gg_iconst hx hb dX10_isDisc_37 ?_
            refine gg_istore (lv' := [(4, .int (xI 0)), (0, .ref (aa 0)), (1, .int (xI r1)), (2, .int (xI x2_7)), (3, .int (xI x3_25))]) hx hb (by decide) rfl dX10_isDisc_38 ?_
            refine gg_ldc hx hb (1000000) hown (hts _ (List.mem_of_getElem? (i := 3) rfl)) rfl dX10_isDisc_40 ?_
            refine gg_istore (lv' := [(5, .int (xI 1000000)), (4, .int (xI 0)), (0, .ref (aa 0)), (1, .int (xI r1)), (2, .int (xI x2_7)), (3, .int (xI x3_25))]) hx hb (by decide) rfl dX10_isDisc_42 ?_
            refine gg_iconst hx hb dX10_isDisc_44 ?_
            refine gg_istore (lv' := [(6, .int (xI 0)), (5, .int (xI 1000000)), (4, .int (xI 0)), (0, .ref (aa 0)), (1, .int (xI r1)), (2, .int (xI x2_7)), (3, .int (xI x3_25))]) hx hb (by decide) rfl dX10_isDisc_45 ?_
            have h := h (fun (x4_47 x5_47 x6_47 : Int) => GG p l e rmX10_isDisc s m args below meth c (QI below D (cM aa cI cZ cJ) A args s Post) A D (cM aa cI cZ cJ) 10 σ 47 [(0, .ref (aa 0)), (1, .int (xI r1)), (2, .int (xI x2_7)), (3, .int (xI x3_25)), (4, .int (xI x4_47)), (5, .int (xI x5_47)), (6, .int (xI x6_47))] [])
            have h := h (by
              intro x4_47 x5_47 x6_47 h
              refine gg_iload hx hb 6 rfl dX10_isDisc_47 ?_
              refine gg_aload_n hx hb 0 rfl rfl dX10_isDisc_49 ?_
              refine gg_callVip (As := []) (rest := [.int (xI x6_47)]) hx hb hml hown hts hK hZ hA (c_X10_fields l D aa cI cZ cJ tR tU σ _ h) (cwV 0 hts gX10_isDisc_X10_fields rfl rfl rfl hd_X10_fields ⟨Nat.le_of_ble_eq_true rfl, Nat.le_of_ble_eq_true rfl⟩) 0 rfl rfl rfl rfl (Nat.le_of_ble_eq_true rfl) dX10_isDisc_50 (fun r50 h => ?_)
              refine gg_icmp_ge (tgt := 153) hx hb h.1 h.2.1 dX10_isDisc_53 rfl (fun c53 => ?_) (fun c53 => ?_)
              · have h := h.2.2.1 c53
                refine gg_iload hx hb 4 rfl dX10_isDisc_153 ?_
                refine gg_iload hx hb 5 rfl dX10_isDisc_155 ?_
                refine gg_icmp_ge (tgt := 178) hx hb h.1 h.2.1 dX10_isDisc_157 rfl (fun c157 => ?_) (fun c157 => ?_)
                · have h := h.2.2.1 c157
                  refine gg_iinc (lv' := [(3, .int (xI (x3_25 + 1))), (0, .ref (aa 0)), (1, .int (xI r1)), (2, .int (xI x2_7)), (4, .int (xI x4_47)), (5, .int (xI x5_47)), (6, .int (xI x6_47))]) hx hb 3 rfl (by decide) rfl dX10_isDisc_178 ?_
                  refine gg_goto (tgt := 25) hx hb dX10_isDisc_181 rfl ?_
                  refine gg_lv [1, 2, 3, 0] rfl ?_
                  exact h
                · have h := h.2.2.2 c157
                  refine gg_aload_n hx hb 0 rfl rfl dX10_isDisc_160 ?_
                  refine gg_iload_n hx hb 3 rfl rfl dX10_isDisc_161 ?_
                  refine gg_put (C := RX10) (T := TX10) (N := 18) hx hb hts hown hK iX10_isDisc_X10 tyX10 tyX10_ok nmX10 0 rfl rfl 15 (by decide) (List.mem_of_getElem? (i := 5) rfl) rfl rfl (Nat.le_of_ble_eq_true rfl) (cM_set_0_15 aa cI cZ cJ _ _) dX10_isDisc_162 (fun σ_162 e162 => ?_)
                  have h := h σ_162 e162
                  refine gg_aload_n hx hb 0 rfl rfl dX10_isDisc_165 ?_
                  refine gg_iload_n hx hb 2 rfl rfl dX10_isDisc_166 ?_
                  refine gg_put (C := RX10) (T := TX10) (N := 18) hx hb hts hown hK iX10_isDisc_X10 tyX10 tyX10_ok nmX10 0 rfl rfl 16 (by decide) (List.mem_of_getElem? (i := 6) rfl) rfl rfl (Nat.le_of_ble_eq_true rfl) (cM_set_0_16 aa cI cZ cJ _ _) dX10_isDisc_167 (fun σ_167 e167 => ?_)
                  have h := h σ_167 e167
                  refine gg_aload_n hx hb 0 rfl rfl dX10_isDisc_170 ?_
                  refine gg_iload hx hb 4 rfl dX10_isDisc_171 ?_
                  refine gg_put (C := RX10) (T := TX10) (N := 18) hx hb hts hown hK iX10_isDisc_X10 tyX10 tyX10_ok nmX10 0 rfl rfl 17 (by decide) (List.mem_of_getElem? (i := 7) rfl) rfl rfl (Nat.le_of_ble_eq_true rfl) (cM_set_0_17 aa cI cZ cJ _ _) dX10_isDisc_173 (fun σ_173 e173 => ?_)
                  have h := h σ_173 e173
                  refine gg_iconst hx hb dX10_isDisc_176 ?_
                  exact gg_zret hx hb hr hlk (Or.inr rfl) h dX10_isDisc_177
              · have h := h.2.2.2 c53
                refine gg_iconst hx hb dX10_isDisc_56 ?_
                refine gg_iload hx hb 6 rfl dX10_isDisc_57 ?_
                refine gg_aload_n hx hb 0 rfl rfl dX10_isDisc_59 ?_
                refine gg_get (C := RX10) (T := TX10) (N := 18) hx hb hts hown hK iX10_isDisc_X10 0 rfl rfl 5 (by decide) (List.mem_of_getElem? (i := 2) rfl) rfl dX10_isDisc_60 ?_
                refine gg_irem hx hb h.1 h.2.1 h.2.2.1 dX10_isDisc_63 ?_
                have h := h.2.2.2
                refine gg_imul hx hb dX10_isDisc_64 ?_
                refine gg_iload_n hx hb 3 rfl rfl dX10_isDisc_65 ?_
                refine gg_isub hx hb dX10_isDisc_66 ?_
                refine gg_nm (fun z7_67 e67 => ?_)
                have h := h z7_67 e67
                refine gg_istore (lv' := [(7, .int (xI z7_67)), (0, .ref (aa 0)), (1, .int (xI r1)), (2, .int (xI x2_7)), (3, .int (xI x3_25)), (4, .int (xI x4_47)), (5, .int (xI x5_47)), (6, .int (xI x6_47))]) hx hb (by decide) rfl dX10_isDisc_67 ?_
                refine gg_iconst hx hb dX10_isDisc_69 ?_
                refine gg_iload hx hb 7 rfl dX10_isDisc_70 ?_
                refine gg_aload_n hx hb 1 rfl rfl dX10_isDisc_72 ?_
                refine gg_get (C := RX10) (T := TX10) (N := 18) hx hb hts hown hK iX10_isDisc_X10 0 rfl rfl 5 (by decide) (List.mem_of_getElem? (i := 2) rfl) rfl dX10_isDisc_73 ?_
                refine gg_idiv hx hb h.1 h.2.1 h.2.2.1 dX10_isDisc_76 ?_
                have h := h.2.2.2
                refine gg_imul hx hb dX10_isDisc_77 ?_
                refine gg_iload_n hx hb 3 rfl rfl dX10_isDisc_78 ?_
                refine gg_isub hx hb dX10_isDisc_79 ?_
                refine gg_nm (fun z8_80 e80 => ?_)
                have h := h z8_80 e80
                refine gg_istore (lv' := [(8, .int (xI z8_80)), (7, .int (xI z7_67)), (0, .ref (aa 0)), (1, .int (xI r1)), (2, .int (xI x2_7)), (3, .int (xI x3_25)), (4, .int (xI x4_47)), (5, .int (xI x5_47)), (6, .int (xI x6_47))]) hx hb (by decide) rfl dX10_isDisc_80 ?_
                refine gg_iload hx hb 1 rfl dX10_isDisc_82 ?_
                refine gg_iload hx hb 1 rfl dX10_isDisc_84 ?_
                refine gg_imul hx hb dX10_isDisc_86 ?_
                refine gg_iload hx hb 0 rfl dX10_isDisc_87 ?_
                refine gg_iload hx hb 0 rfl dX10_isDisc_89 ?_
                refine gg_imul hx hb dX10_isDisc_91 ?_
                refine gg_iadd hx hb dX10_isDisc_92 ?_
                refine gg_nm (fun z9_93 e93 => ?_)
                have h := h z9_93 e93
                refine gg_istore (lv' := [(9, .int (xI z9_93)), (8, .int (xI z8_80)), (7, .int (xI z7_67)), (0, .ref (aa 0)), (1, .int (xI r1)), (2, .int (xI x2_7)), (3, .int (xI x3_25)), (4, .int (xI x4_47)), (5, .int (xI x5_47)), (6, .int (xI x6_47))]) hx hb (by decide) rfl dX10_isDisc_93 ?_
                refine gg_aload_n hx hb 3 rfl rfl dX10_isDisc_95 ?_
                refine gg_get (C := RX10) (T := TX10) (N := 18) hx hb hts hown hK iX10_isDisc_X10 0 rfl rfl 7 (by decide) (List.mem_of_getElem? (i := 4) rfl) rfl dX10_isDisc_96 ?_
                refine gg_iload hx hb 9 rfl dX10_isDisc_99 ?_
                refine gg_zald hx hb hK 4 1 rfl rfl (by decide) h.1 dX10_isDisc_101 ?_
                have h := h.2
                have h := h (fun (y0_119 : Int) => GG p l e rmX10_isDisc s m args below meth c (QI below D (cM aa cI cZ cJ) A args s Post) A D (cM aa cI cZ cJ) 10 σ 119 [(0, .ref (aa 0)), (1, .int (xI r1)), (2, .int (xI x2_7)), (3, .int (xI x3_25)), (5, .int (xI x5_47)), (6, .int (xI x6_47)), (9, .int (xI z9_93))] [.int (xI y0_119)])
                have h := h (by
                  intro y0_119 h
                  refine gg_istore (lv' := [(4, .int (xI y0_119)), (0, .ref (aa 0)), (1, .int (xI r1)), (2, .int (xI x2_7)), (3, .int (xI x3_25)), (5, .int (xI x5_47)), (6, .int (xI x6_47)), (9, .int (xI z9_93))]) hx hb (by decide) rfl dX10_isDisc_119 ?_
                  refine gg_aload_n hx hb 1 rfl rfl dX10_isDisc_121 ?_
                  refine gg_get (C := RX10) (T := TX10) (N := 18) hx hb hts hown hK iX10_isDisc_X10 0 rfl rfl 7 (by decide) (List.mem_of_getElem? (i := 4) rfl) rfl dX10_isDisc_122 ?_
                  refine gg_iload hx hb 6 rfl dX10_isDisc_125 ?_
                  refine gg_zald hx hb hK 4 1 rfl rfl (by decide) h.1 dX10_isDisc_127 ?_
                  have h := h.2
                  refine gg_if_ne (tgt := 143) hx hb h.1 dX10_isDisc_128 rfl (fun c128 => ?_) (fun c128 => ?_)
                  · have h := h.2.1 c128
                    refine gg_iload hx hb 5 rfl dX10_isDisc_143 ?_
                    refine gg_istore (lv' := [(5, .int (xI x5_47)), (4, .int (xI y0_119)), (0, .ref (aa 0)), (1, .int (xI r1)), (2, .int (xI x2_7)), (3, .int (xI x3_25)), (6, .int (xI x6_47)), (9, .int (xI z9_93))]) hx hb (by decide) rfl dX10_isDisc_145 ?_
                    refine gg_iinc (lv' := [(6, .int (xI (x6_47 + 1))), (5, .int (xI x5_47)), (4, .int (xI y0_119)), (0, .ref (aa 0)), (1, .int (xI r1)), (2, .int (xI x2_7)), (3, .int (xI x3_25)), (9, .int (xI z9_93))]) hx hb 6 rfl (by decide) rfl dX10_isDisc_147 ?_
                    refine gg_goto (tgt := 47) hx hb dX10_isDisc_150 rfl ?_
                    refine gg_lv [3, 4, 5, 6, 2, 1, 0] rfl ?_
                    exact h
                  · have h := h.2.2 c128
                    refine gg_iload hx hb 7 rfl dX10_isDisc_131 ?_
                    refine gg_iload hx hb 5 rfl dX10_isDisc_133 ?_
                    refine gg_icmp_ge (tgt := 143) hx hb h.1 h.2.1 dX10_isDisc_135 rfl (fun c135 => ?_) (fun c135 => ?_)
                    · have h := h.2.2.1 c135
                      refine gg_iload hx hb 5 rfl dX10_isDisc_143 ?_
                      refine gg_istore (lv' := [(5, .int (xI x5_47)), (4, .int (xI y0_119)), (0, .ref (aa 0)), (1, .int (xI r1)), (2, .int (xI x2_7)), (3, .int (xI x3_25)), (6, .int (xI x6_47)), (9, .int (xI z9_93))]) hx hb (by decide) rfl dX10_isDisc_145 ?_
                      refine gg_iinc (lv' := [(6, .int (xI (x6_47 + 1))), (5, .int (xI x5_47)), (4, .int (xI y0_119)), (0, .ref (aa 0)), (1, .int (xI r1)), (2, .int (xI x2_7)), (3, .int (xI x3_25)), (9, .int (xI z9_93))]) hx hb 6 rfl (by decide) rfl dX10_isDisc_147 ?_
                      refine gg_goto (tgt := 47) hx hb dX10_isDisc_150 rfl ?_
                      refine gg_lv [3, 4, 5, 6, 2, 1, 0] rfl ?_
                      exact h
                    · have h := h.2.2.2 c135
                      refine gg_iload hx hb 7 rfl dX10_isDisc_138 ?_
                      refine gg_goto (tgt := 145) hx hb dX10_isDisc_140 rfl ?_
                      refine gg_istore (lv' := [(5, .int (xI z9_93)), (4, .int (xI y0_119)), (0, .ref (aa 0)), (1, .int (xI r1)), (2, .int (xI x2_7)), (3, .int (xI x3_25)), (6, .int (xI x6_47)), (9, .int (xI z9_93))]) hx hb (by decide) rfl dX10_isDisc_145 ?_
                      refine gg_iinc (lv' := [(6, .int (xI (x6_47 + 1))), (5, .int (xI z9_93)), (4, .int (xI y0_119)), (0, .ref (aa 0)), (1, .int (xI r1)), (2, .int (xI x2_7)), (3, .int (xI x3_25)), (9, .int (xI z9_93))]) hx hb 6 rfl (by decide) rfl dX10_isDisc_147 ?_
                      refine gg_goto (tgt := 47) hx hb dX10_isDisc_150 rfl ?_
                      refine gg_lv [3, 4, 5, 6, 2, 1, 0] rfl ?_
                      exact h)
                refine gg_if_eq (tgt := 117) hx hb h.1 dX10_isDisc_102 rfl (fun c102 => ?_) (fun c102 => ?_)
                · have h := h.2.1 c102
                  refine gg_iload hx hb 7 rfl dX10_isDisc_117 ?_
                  refine gg_lv [3, 4, 5, 6, 8, 9, 0] rfl ?_
                  exact h
                · have h := h.2.2 c102
                  refine gg_iload hx hb 0 rfl dX10_isDisc_105 ?_
                  refine gg_iload hx hb 7 rfl dX10_isDisc_107 ?_
                  refine gg_icmp_le (tgt := 117) hx hb h.1 h.2.1 dX10_isDisc_109 rfl (fun c109 => ?_) (fun c109 => ?_)
                  · have h := h.2.2.1 c109
                    refine gg_iload hx hb 7 rfl dX10_isDisc_117 ?_
                    refine gg_lv [3, 4, 5, 6, 8, 9, 0] rfl ?_
                    exact h
                  · have h := h.2.2.2 c109
                    refine gg_iload hx hb 0 rfl dX10_isDisc_112 ?_
                    refine gg_goto (tgt := 119) hx hb dX10_isDisc_114 rfl ?_
                    refine gg_lv [3, 4, 5, 6, 8, 9, 0] rfl ?_
                    exact h)
            refine gg_lv [3, 4, 5, 6, 2, 1, 0] rfl ?_
            exact h)
        refine gg_lv [1, 2, 3, 0] rfl ?_
        exact h)
  refine gg_lv [2, 1, 0] rfl ?_
  exact h
