/-! the law's loop -/
theorem and31 (z : Int) : 0 ≤ xAnd z 31 ∧ xAnd z 31 ≤ 31 := by
  have h : (xI z &&& xI 31).toBitVec.toNat ≤ 31 := by
    show ((xI z).toBitVec &&& (xI 31).toBitVec).toNat ≤ 31
    rw [BitVec.toNat_and]
    exact Nat.and_le_right
  have e : xAnd z 31 = ((xI z &&& xI 31).toBitVec.toNat : Int) := by
    show (xI z &&& xI 31).toBitVec.toInt = _
    exact BitVec.toInt_eq_toNat_of_lt (by omega)
  rw [e]; omega
section LB
variable {p : Program} {l : Launch} {e : Env} {s : State} {m : MethodId} {below : List Frame} {meth : Method} {c : Code} {D : va_G} {aa bb : Nat → Nat} {cI cZ cJ : ClassId} {tR tU b L : Nat} {xs : Nat → Int32} {σ τ : xSt} {i : Nat}
theorem gl_tab (F : LF p s m meth c D cI cZ cJ tR tU b L xs) {a k off : Int} {tgt : Nat} {lv : List (Nat × Value)} {st : List Value} (ha : xR a) (hk : a = k) (h1 : ¬ k < 0) (h2 : ¬ 29 < k) (ho : (#[136, 159, 182, 205, 254, 287, 330, 363, 448, 507, 546, 559, 582, 615, 664, 687, 736, 759, 782, 805, 828, 841, 864, 887, 926, 949, 962, 985, 998, 1011] : Array Int)[(k - 0).toNat]? = some off) (ht : ((32 : Nat) : Int) + off = (tgt : Int)) (K : GL p l e s m b below meth c D aa bb cI cZ cJ σ τ tgt lv st) : GL p l e s m b below meth c D aa bb cI cZ cJ σ τ 32 lv (.int (xI a) :: st) := by
  obtain ⟨hx, hb, -⟩ := F
  subst hk
  intro H locs ls hP hD hS hl
  exact lv_tableIn hx hb dL_law_32 (by rw [xI_toInt ha]; exact h1) (by rw [xI_toInt ha]; exact h2) (by rw [xI_toInt ha]; exact ho) ht (K H locs ls hP hD hS hl)
theorem gl_tabo (F : LF p s m meth c D cI cZ cJ tR tU b L xs) {a : Int} {lv : List (Nat × Value)} {st : List Value} (ha : xR a) (hk : 29 < a) (K : GL p l e s m b below meth c D aa bb cI cZ cJ σ τ 1066 lv st) : GL p l e s m b below meth c D aa bb cI cZ cJ σ τ 32 lv (.int (xI a) :: st) := by
  obtain ⟨hx, hb, -⟩ := F
  intro H locs ls hP hD hS hl
  exact lv_tableOut (tgt := 1066) hx hb dL_law_32 (by rw [xI_toInt ha]; exact Or.inr hk) rfl (K H locs ls hP hD hS hl)
set_option maxHeartbeats 4000000 in
theorem law_body (F : LF p s m meth c D cI cZ cJ tR tU b L xs) (hL : L ≤ 2560) (hi : i + 5 ≤ L) (hR : RR σ τ) (K : ∀ σ' τ' : xSt, RR σ' τ' → GL p l e s m b below meth c D aa bb cI cZ cJ σ' τ' 1066 (lvL aa bb b i) []) : GL p l e s m b below meth c D aa bb cI cZ cJ σ τ 26 (lvL aa bb b i) [] := by
  obtain ⟨hx, hb, hml, hown, hts, hK, hZ, hX, hbl, -⟩ := id F
  have go : GL p l e s m b below meth c D aa bb cI cZ cJ σ τ 32 (lvL aa bb b i) [.int (xI (xAnd (xs i).toInt 31))] := by
    have v := and31 (xs i).toInt
    generalize xAnd (xs i).toInt 31 = w at v
    rcases (show w = 0 ∨ w = 1 ∨ w = 2 ∨ w = 3 ∨ w = 4 ∨ w = 5 ∨ w = 6 ∨ w = 7 ∨ w = 8 ∨ w = 9 ∨ w = 10 ∨ w = 11 ∨ w = 12 ∨ w = 13 ∨ w = 14 ∨ w = 15 ∨ w = 16 ∨ w = 17 ∨ w = 18 ∨ w = 19 ∨ w = 20 ∨ w = 21 ∨ w = 22 ∨ w = 23 ∨ w = 24 ∨ w = 25 ∨ w = 26 ∨ w = 27 ∨ w = 28 ∨ w = 29 ∨ 29 < w by omega) with q | q | q | q | q | q | q | q | q | q | q | q | q | q | q | q | q | q | q | q | q | q | q | q | q | q | q | q | q | q | q
    · exact gl_tab F (by omega) q (by omega) (by omega) rfl rfl (law_c0 F hL hi hR K)
    · exact gl_tab F (by omega) q (by omega) (by omega) rfl rfl (law_c1 F hL hi hR K)
    · exact gl_tab F (by omega) q (by omega) (by omega) rfl rfl (law_c2 F hL hi hR K)
    · exact gl_tab F (by omega) q (by omega) (by omega) rfl rfl (law_c3 F hL hi hR K)
    · exact gl_tab F (by omega) q (by omega) (by omega) rfl rfl (law_c4 F hL hi hR K)
    · exact gl_tab F (by omega) q (by omega) (by omega) rfl rfl (law_c5 F hL hi hR K)
    · exact gl_tab F (by omega) q (by omega) (by omega) rfl rfl (law_c6 F hL hi hR K)
    · exact gl_tab F (by omega) q (by omega) (by omega) rfl rfl (law_c7 F hL hi hR K)
    · exact gl_tab F (by omega) q (by omega) (by omega) rfl rfl (law_c8 F hL hi hR K)
    · exact gl_tab F (by omega) q (by omega) (by omega) rfl rfl (law_c9 F hL hi hR K)
    · exact gl_tab F (by omega) q (by omega) (by omega) rfl rfl (law_c10 F hL hi hR K)
    · exact gl_tab F (by omega) q (by omega) (by omega) rfl rfl (law_c11 F hL hi hR K)
    · exact gl_tab F (by omega) q (by omega) (by omega) rfl rfl (law_c12 F hL hi hR K)
    · exact gl_tab F (by omega) q (by omega) (by omega) rfl rfl (law_c13 F hL hi hR K)
    · exact gl_tab F (by omega) q (by omega) (by omega) rfl rfl (law_c14 F hL hi hR K)
    · exact gl_tab F (by omega) q (by omega) (by omega) rfl rfl (law_c15 F hL hi hR K)
    · exact gl_tab F (by omega) q (by omega) (by omega) rfl rfl (law_c16 F hL hi hR K)
    · exact gl_tab F (by omega) q (by omega) (by omega) rfl rfl (law_c17 F hL hi hR K)
    · exact gl_tab F (by omega) q (by omega) (by omega) rfl rfl (law_c18 F hL hi hR K)
    · exact gl_tab F (by omega) q (by omega) (by omega) rfl rfl (law_c19 F hL hi hR K)
    · exact gl_tab F (by omega) q (by omega) (by omega) rfl rfl (law_c20 F hL hi hR K)
    · exact gl_tab F (by omega) q (by omega) (by omega) rfl rfl (law_c21 F hL hi hR K)
    · exact gl_tab F (by omega) q (by omega) (by omega) rfl rfl (law_c22 F hL hi hR K)
    · exact gl_tab F (by omega) q (by omega) (by omega) rfl rfl (law_c23 F hL hi hR K)
    · exact gl_tab F (by omega) q (by omega) (by omega) rfl rfl (law_c24 F hL hi hR K)
    · exact gl_tab F (by omega) q (by omega) (by omega) rfl rfl (law_c25 F hL hi hR K)
    · exact gl_tab F (by omega) q (by omega) (by omega) rfl rfl (law_c26 F hL hi hR K)
    · exact gl_tab F (by omega) q (by omega) (by omega) rfl rfl (law_c27 F hL hi hR K)
    · exact gl_tab F (by omega) q (by omega) (by omega) rfl rfl (law_c28 F hL hi hR K)
    · exact gl_tab F (by omega) q (by omega) (by omega) rfl rfl (law_c29 F hL hi hR K)
    · exact gl_tabo F (by omega) q (K σ τ hR)
  intro H locs ls hP hD hS hl
  refine lv_aload_n hx hb dL_law_26 rfl (lv_at hl 0 rfl) ?_
  refine lv_iload_n hx hb dL_law_27 rfl (lv_at hl 3 rfl) ?_
  have hr : 0 ≤ (i : Int) ∧ (i : Int) < ((L : Nat) : Int) := by omega
  refine va_sld hx hb hX hbl (Nat.not_le.mpr hbl) hS (xI_in (by omega) hr) dL_law_28 ?_
  rw [xI_cl (n := L) (by omega) hr, show ((i : Int)).toNat = i from by omega, ← xI_of (xs i)]
  refine lv_bipush (v := xI 31) hx hb dL_law_29 rfl ?_
  refine lv_iand hx hb dL_law_31 ?_
  have K1 := go H locs ls hP hD hS hl
  rw [xAnd, xI_of] at K1
  exact K1
theorem law_loop (F : LF p s m meth c D cI cZ cJ tR tU b L xs) (hL : L ≤ 2560) : ∀ (n i : Nat) (σ τ : xSt), L ≤ i + n → i ≤ L → RR σ τ → GL p l e s m b below meth c D aa bb cI cZ cJ σ τ 18 (lvL aa bb b i) [] := by
  obtain ⟨hx, hb, hml, hown, hts, hK, hZ, hX, hbl, hr, hlk⟩ := id F
  intro n
  induction n with
  | zero =>
    intro i σ τ h1 h2 hR H locs ls hP hD hS hl
    refine lv_iload_n hx hb dL_law_18 rfl (lv_at hl 3 rfl) ?_
    refine lv_aload_n hx hb dL_law_19 rfl (lv_at hl 0 rfl) ?_
    refine va_slen hx hb hX hbl (Nat.not_le.mpr hbl) hS dL_law_20 ?_
    refine lv_iconst (v := xI 5) hx hb dL_law_21 rfl ?_
    refine lv_isub hx hb dL_law_22 ?_
    have eL : Int32.ofNat L - xI 5 = xI ((L : Int) - 5) := by rw [← xI_sub]; rfl
    rw [eL]
    refine lv_icmp_gt (tgt := 1072) hx hb dL_law_23 rfl (fun _ => ?_) (fun q => ?_)
    · refine lv_iconst (v := 1) hx hb dL_law_1072 rfl ?_
      refine va_forget (fun q hq => hS.2.2 q hq) ?_
      exact lw_ret hx hb hr hlk dL_law_1073
    · exact absurd ((xI_lt (a := (L : Int) - 5) (b := (i : Int)) ⟨by omega, by omega⟩ ⟨by omega, by omega⟩).mpr (by omega)) q
  | succ n ih =>
    intro i σ τ h1 h2 hR H locs ls hP hD hS hl
    refine lv_iload_n hx hb dL_law_18 rfl (lv_at hl 3 rfl) ?_
    refine lv_aload_n hx hb dL_law_19 rfl (lv_at hl 0 rfl) ?_
    refine va_slen hx hb hX hbl (Nat.not_le.mpr hbl) hS dL_law_20 ?_
    refine lv_iconst (v := xI 5) hx hb dL_law_21 rfl ?_
    refine lv_isub hx hb dL_law_22 ?_
    have eL : Int32.ofNat L - xI 5 = xI ((L : Int) - 5) := by rw [← xI_sub]; rfl
    rw [eL]
    refine lv_icmp_gt (tgt := 1072) hx hb dL_law_23 rfl (fun _ => ?_) (fun q => ?_)
    · refine lv_iconst (v := 1) hx hb dL_law_1072 rfl ?_
      refine va_forget (fun q hq => hS.2.2 q hq) ?_
      exact lw_ret hx hb hr hlk dL_law_1073
    · have hlt : i + 5 ≤ L := by
        by_cases w : i + 5 ≤ L
        · exact w
        · exact absurd ((xI_lt (a := (L : Int) - 5) (b := (i : Int)) ⟨by omega, by omega⟩ ⟨by omega, by omega⟩).mpr (by omega)) q
      refine law_body F hL hlt hR (fun σ' τ' hR' => ?_) H locs ls hP hD hS hl
      intro H locs ls hP hD hS hl
      refine lv_iinc (v := xI ((i + 5 : Nat) : Int)) (lv' := [(3, .int (xI ((i + 5 : Nat) : Int))), (0, .ref b), (1, .ref (aa 0)), (2, .ref (bb 0))]) hx hb dL_law_1066 hl (k := 3) rfl (by show xI (i : Int) + xI 5 = _; rw [xI_add]; congr 1) (by decide) rfl (fun ls hl => ?_)
      refine lv_goto (tgt := 18) hx hb dL_law_1069 rfl ?_
      exact ih (i + 5) σ' τ' (by omega) hlt hR' H locs ls hP hD hS (lv_sub hl [1, 2, 3, 0] rfl)
end LB
