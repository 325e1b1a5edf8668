/-! the law from its entry -/
theorem inlX0 : ∀ w ∈ wsX00, w ∈ wsL_law := fun _ h => List.mem_append_left _ (List.mem_append_left _ (List.mem_append_left _ (List.mem_append_right _ h)))
theorem inlX1 : ∀ w ∈ wsX10, w ∈ wsL_law := fun _ h => List.mem_append_left _ (List.mem_append_left _ (List.mem_append_right _ h))
theorem inlX2 : ∀ w ∈ wsX20, w ∈ wsL_law := fun _ h => List.mem_append_left _ (List.mem_append_left _ (List.mem_append_left _ (List.mem_append_left _ (List.mem_append_left _ (List.mem_append_left _ (List.mem_append_left _ (List.mem_append_right _ h)))))))
theorem inlX3 : ∀ w ∈ wsX30, w ∈ wsL_law := fun _ h => List.mem_append_left _ (List.mem_append_left _ (List.mem_append_left _ (List.mem_append_left _ (List.mem_append_right _ h))))
theorem inlX4 : ∀ w ∈ wsX40, w ∈ wsL_law := fun _ h => List.mem_append_left _ (List.mem_append_left _ (List.mem_append_left _ (List.mem_append_left _ (List.mem_append_left _ (List.mem_append_left _ (List.mem_append_right _ h))))))
theorem inlX5 : ∀ w ∈ wsX50, w ∈ wsL_law := fun _ h => List.mem_append_left _ (List.mem_append_left _ (List.mem_append_left _ (List.mem_append_left _ (List.mem_append_left _ (List.mem_append_left _ (List.mem_append_left _ (List.mem_append_left _ (List.mem_append_right _ h))))))))
theorem inlX6 : ∀ w ∈ wsX60, w ∈ wsL_law := fun _ h => List.mem_append_left _ (List.mem_append_left _ (List.mem_append_left _ (List.mem_append_left _ (List.mem_append_left _ (List.mem_append_left _ (List.mem_append_left _ (List.mem_append_left _ (List.mem_append_left _ (List.mem_append_right _ h)))))))))
theorem inlX7 : ∀ w ∈ wsX70, w ∈ wsL_law := fun _ h => List.mem_append_left _ (List.mem_append_right _ h)
theorem inlX8 : ∀ w ∈ wsX80, w ∈ wsL_law := fun _ h => List.mem_append_left _ (List.mem_append_left _ (List.mem_append_left _ (List.mem_append_left _ (List.mem_append_left _ (List.mem_append_right _ h)))))
theorem inlX9 : ∀ w ∈ wsX90, w ∈ wsL_law := fun _ h => List.mem_append_left _ (List.mem_append_left _ (List.mem_append_left _ (List.mem_append_left _ (List.mem_append_left _ (List.mem_append_left _ (List.mem_append_left _ (List.mem_append_left _ (List.mem_append_left _ (List.mem_append_left _ (List.mem_append_left _ (List.mem_append_right _ h)))))))))))
theorem inlX10 : ∀ w ∈ wsX100, w ∈ wsL_law := fun _ h => List.mem_append_left _ (List.mem_append_left _ (List.mem_append_left _ (List.mem_append_left _ (List.mem_append_left _ (List.mem_append_left _ (List.mem_append_left _ (List.mem_append_left _ (List.mem_append_left _ (List.mem_append_left _ (List.mem_append_right _ h))))))))))
theorem arr_known {args : Array Value} {s : State} {ty : FieldType} (h : (Cond.arrayClass ty).before args s = true) : ∃ cA : ClassId, ArrOfT s cA ty ∧ s.vm.findClass ("[" ++ ty.toString) = some cA := by
  obtain ⟨cA, kA, comp, hfind, hk, hkind⟩ := Cond.arrayClass_spec h
  exact ⟨cA, fun n z => ⟨fun k h => (by cases h), kA, hk, comp, hkind⟩, hfind⟩
def s0X : xSt := fun k j => if k = 7 ∧ (j = 1 ∨ j = 2) then 8 else 0
def s0M : xSt := fun k j => if k = 0 ∧ (j = 5 ∨ j = 6) then 8 else 0
theorem RR_0 : RR s0X s0M := by
  refine ⟨rfl, Int.le_refl _, (by decide : (0 : Int) ≤ 60), rfl, fun i => ⟨Int.le_refl _, (by decide : (0 : Int) < 8)⟩, fun i hi => ?_, rfl, rfl, rfl, ⟨(by decide : (1 : Int) ≤ 8), (by decide : (8 : Int) ≤ 12), (by decide : (1 : Int) ≤ 8), (by decide : (8 : Int) ≤ 12), fun f => Or.inl rfl⟩, rfl⟩
  have hi' : (i : Int) ≤ 0 := hi
  have e : i = 0 := by omega
  subst e
  exact ⟨rfl, rfl⟩
theorem zX_0 {b : Nat} {s : State} (hts : ∀ w ∈ lw_tbl, w.before #[Value.ref b] s = true) (hgv : (Jvm.Cond.and given_1 narrow_1).before #[Value.ref b] s = true) : ∃ tR tU : Nat, zX tR tU (fun q => s.heap.size ≤ q) s := by
  have hs := flat_of_before _ hgv
  have hA : ∀ a : Nat, a < s.heap.size → ¬ (fun q : Nat => s.heap.size ≤ q) a := fun a h => Nat.not_le.mpr h
  obtain ⟨tR, eRIGHT, hRIGHT⟩ := va_Tof (args := #[Value.ref b]) (s := s) (tm := (.static "StraightSteps" "RIGHT" "[I")) (ty := .int) (N := 8) (f := fun j => .int (xI (xRt j))) (A := fun q => s.heap.size ≤ q) (by decide) (hs (Cond.arrayOf (.static "StraightSteps" "RIGHT" "[I") .int) (by decide +kernel)) (va_eqt (z := 8) (hs (Cond.eq (.length (.static "StraightSteps" "RIGHT" "[I")) (.int 8)) (by decide +kernel))) (fun j hj => by
    match j, hj with
    | 0, _ => exact (va_eqt (z := 1) (hs (Cond.eq (.elem (.static "StraightSteps" "RIGHT" "[I") (.int 0)) (.int (1))) (by decide +kernel))).trans (congrArg (fun z => some (Value.int z)) (by decide +kernel))
    | 1, _ => exact (va_eqt (z := 1) (hs (Cond.eq (.elem (.static "StraightSteps" "RIGHT" "[I") (.int 1)) (.int (1))) (by decide +kernel))).trans (congrArg (fun z => some (Value.int z)) (by decide +kernel))
    | 2, _ => exact (va_eqt (z := 0) (hs (Cond.eq (.elem (.static "StraightSteps" "RIGHT" "[I") (.int 2)) (.int (0))) (by decide +kernel))).trans (congrArg (fun z => some (Value.int z)) (by decide +kernel))
    | 3, _ => exact (va_eqt (z := -1) (hs (Cond.eq (.elem (.static "StraightSteps" "RIGHT" "[I") (.int 3)) (.int (-1))) (by decide +kernel))).trans (congrArg (fun z => some (Value.int z)) (by decide +kernel))
    | 4, _ => exact (va_eqt (z := -1) (hs (Cond.eq (.elem (.static "StraightSteps" "RIGHT" "[I") (.int 4)) (.int (-1))) (by decide +kernel))).trans (congrArg (fun z => some (Value.int z)) (by decide +kernel))
    | 5, _ => exact (va_eqt (z := -1) (hs (Cond.eq (.elem (.static "StraightSteps" "RIGHT" "[I") (.int 5)) (.int (-1))) (by decide +kernel))).trans (congrArg (fun z => some (Value.int z)) (by decide +kernel))
    | 6, _ => exact (va_eqt (z := 0) (hs (Cond.eq (.elem (.static "StraightSteps" "RIGHT" "[I") (.int 6)) (.int (0))) (by decide +kernel))).trans (congrArg (fun z => some (Value.int z)) (by decide +kernel))
    | 7, _ => exact (va_eqt (z := 1) (hs (Cond.eq (.elem (.static "StraightSteps" "RIGHT" "[I") (.int 7)) (.int (1))) (by decide +kernel))).trans (congrArg (fun z => some (Value.int z)) (by decide +kernel))
    | j + 8, hj => exact absurd hj (by omega)) hA
  obtain ⟨tU, eUP, hUP⟩ := va_Tof (args := #[Value.ref b]) (s := s) (tm := (.static "StraightSteps" "UP" "[I")) (ty := .int) (N := 8) (f := fun j => .int (xI (xUp j))) (A := fun q => s.heap.size ≤ q) (by decide) (hs (Cond.arrayOf (.static "StraightSteps" "UP" "[I") .int) (by decide +kernel)) (va_eqt (z := 8) (hs (Cond.eq (.length (.static "StraightSteps" "UP" "[I")) (.int 8)) (by decide +kernel))) (fun j hj => by
    match j, hj with
    | 0, _ => exact (va_eqt (z := 0) (hs (Cond.eq (.elem (.static "StraightSteps" "UP" "[I") (.int 0)) (.int (0))) (by decide +kernel))).trans (congrArg (fun z => some (Value.int z)) (by decide +kernel))
    | 1, _ => exact (va_eqt (z := 1) (hs (Cond.eq (.elem (.static "StraightSteps" "UP" "[I") (.int 1)) (.int (1))) (by decide +kernel))).trans (congrArg (fun z => some (Value.int z)) (by decide +kernel))
    | 2, _ => exact (va_eqt (z := 1) (hs (Cond.eq (.elem (.static "StraightSteps" "UP" "[I") (.int 2)) (.int (1))) (by decide +kernel))).trans (congrArg (fun z => some (Value.int z)) (by decide +kernel))
    | 3, _ => exact (va_eqt (z := 1) (hs (Cond.eq (.elem (.static "StraightSteps" "UP" "[I") (.int 3)) (.int (1))) (by decide +kernel))).trans (congrArg (fun z => some (Value.int z)) (by decide +kernel))
    | 4, _ => exact (va_eqt (z := 0) (hs (Cond.eq (.elem (.static "StraightSteps" "UP" "[I") (.int 4)) (.int (0))) (by decide +kernel))).trans (congrArg (fun z => some (Value.int z)) (by decide +kernel))
    | 5, _ => exact (va_eqt (z := -1) (hs (Cond.eq (.elem (.static "StraightSteps" "UP" "[I") (.int 5)) (.int (-1))) (by decide +kernel))).trans (congrArg (fun z => some (Value.int z)) (by decide +kernel))
    | 6, _ => exact (va_eqt (z := -1) (hs (Cond.eq (.elem (.static "StraightSteps" "UP" "[I") (.int 6)) (.int (-1))) (by decide +kernel))).trans (congrArg (fun z => some (Value.int z)) (by decide +kernel))
    | 7, _ => exact (va_eqt (z := -1) (hs (Cond.eq (.elem (.static "StraightSteps" "UP" "[I") (.int 7)) (.int (-1))) (by decide +kernel))).trans (congrArg (fun z => some (Value.int z)) (by decide +kernel))
    | j + 8, hj => exact absurd hj (by omega)) hA
  exact ⟨tR, tU, va_Zref (hts (.laysStatic "StraightSteps" "RIGHT" "[I") (by decide +kernel)) (hts (.initialized "StraightSteps") (by decide +kernel)) eRIGHT hA, hRIGHT, va_Zref (hts (.laysStatic "StraightSteps" "UP" "[I") (by decide +kernel)) (hts (.initialized "StraightSteps") (by decide +kernel)) eUP hA, hUP, va_Nw.of rfl (hts (.fieldLinkNest RX2 55 "StraightSteps" "RIGHT" "[I" "StraightSteps") (by decide +kernel)), va_Nw.of rfl (hts (.fieldLinkNest RX2 59 "StraightSteps" "UP" "[I" "StraightSteps") (by decide +kernel)), va_Nw.of rfl (hts (.fieldLinkNest RX4 56 "StraightSteps" "RIGHT" "[I" "StraightSteps") (by decide +kernel)), va_Nw.of rfl (hts (.fieldLinkNest RX4 59 "StraightSteps" "UP" "[I" "StraightSteps") (by decide +kernel)), va_Nw.of rfl (hts (.fieldLinkNest RX6 32 "StraightSteps" "RIGHT" "[I" "StraightSteps") (by decide +kernel)), va_Nw.of rfl (hts (.fieldLinkNest RX6 35 "StraightSteps" "UP" "[I" "StraightSteps") (by decide +kernel))⟩
def nestX (U : State) : Prop := va_Nw (.methodLinkNest RX9 11 yX6_init "StraightSteps") U ∧ va_Nw (.methodLinkNest RX9 18 yX5_init "StraightSteps") U ∧ va_Nw (.methodLinkNest RX9 25 yX2_init "StraightSteps") U ∧ va_Nw (.methodLinkNest RX9 32 yX4_init "StraightSteps") U ∧ va_Nw (.methodLinkNest RX9 39 yX8_init "StraightSteps") U ∧ va_Nw (.methodLinkNest RX9 46 yX3_init "StraightSteps") U ∧ va_Nw (.methodLinkNest RX9 53 yX0_init "StraightSteps") U ∧ va_Nw (.methodLinkNest RX9 60 yX1_init "StraightSteps") U ∧ va_Nw (.methodLinkNest RX9 67 yX7_init "StraightSteps") U
theorem nestX_0 {b : Nat} {s : State} (hts : ∀ w ∈ lw_tbl, w.before #[Value.ref b] s = true) : nestX s := ⟨va_Nw.of rfl (hts (.methodLinkNest RX9 11 yX6_init "StraightSteps") (by decide +kernel)), va_Nw.of rfl (hts (.methodLinkNest RX9 18 yX5_init "StraightSteps") (by decide +kernel)), va_Nw.of rfl (hts (.methodLinkNest RX9 25 yX2_init "StraightSteps") (by decide +kernel)), va_Nw.of rfl (hts (.methodLinkNest RX9 32 yX4_init "StraightSteps") (by decide +kernel)), va_Nw.of rfl (hts (.methodLinkNest RX9 39 yX8_init "StraightSteps") (by decide +kernel)), va_Nw.of rfl (hts (.methodLinkNest RX9 46 yX3_init "StraightSteps") (by decide +kernel)), va_Nw.of rfl (hts (.methodLinkNest RX9 53 yX0_init "StraightSteps") (by decide +kernel)), va_Nw.of rfl (hts (.methodLinkNest RX9 60 yX1_init "StraightSteps") (by decide +kernel)), va_Nw.of rfl (hts (.methodLinkNest RX9 67 yX7_init "StraightSteps") (by decide +kernel))⟩
theorem ff_1 {A : Nat → Prop} {ws : va_W} {H0 H : Heap} {locs : List Loc} (hD : va_D A ws) (hS : va_S A H0 H locs) (hA : ∀ q, H0.size ≤ q → A q) : ∀ q, va_A ws H.size q → A q := by
  rintro q (⟨k, e, h⟩ | h)
  · exact hD.2 k _ h
  · exact hA q (Nat.le_trans hS.1 h)
set_option maxHeartbeats 4000000 in
set_option maxRecDepth 100000 in
theorem whole_start {p : Program} {e : Env} {s : State} {m : MethodId} {below : List Frame} {meth : Method} {c : Code} (l : Launch) {b L : Nat} {xs : Nat → Int32} (hL : L ≤ 2560) (C0 : lw_At p s m meth c b L xs) : W p l e room_1 s m #[Value.ref b] below meth c s.heap [] 0 0 (lw_Z below #[Value.ref b] s) (entryFrame m ([Value.ref b] : List Value).toArray 4) := by
  obtain ⟨hx, hb, hr, hml, hown, htsT, hX, hbl, hlocks, hgv⟩ := id C0
  have hts : ∀ w ∈ wsL_law, w.before #[Value.ref b] s = true := fun w h => htsT w (wsL_law_in w h)
  have hA : ∀ q : Nat, s.heap.size ≤ q → (fun q : Nat => s.heap.size ≤ q) q := fun _ h => h
  obtain ⟨tR, tU, hZ⟩ := zX_0 htsT hgv
  have hN := nestX_0 htsT
  obtain ⟨c0, i0, k0⟩ := u_known (C := RX0) (T := TX0) (N := 1) (n := 1) hts inlX0 (hts (.instantiable RX0 1) (List.mem_of_getElem? (i := 37) rfl))
  obtain ⟨c1, i1, k1⟩ := u_known (C := RX1) (T := TX1) (N := 3) (n := 3) hts inlX1 (hts (.instantiable RX1 3) (List.mem_of_getElem? (i := 41) rfl))
  obtain ⟨c2, i2, k2⟩ := u_known (C := RX2) (T := TX2) (N := 3) (n := 3) hts inlX2 (hts (.instantiable RX2 3) (List.mem_of_getElem? (i := 21) rfl))
  obtain ⟨c3, i3, k3⟩ := u_known (C := RX3) (T := TX3) (N := 3) (n := 3) hts inlX3 (hts (.instantiable RX3 3) (List.mem_of_getElem? (i := 33) rfl))
  obtain ⟨c4, i4, k4⟩ := u_known (C := RX4) (T := TX4) (N := 3) (n := 3) hts inlX4 (hts (.instantiable RX4 3) (List.mem_of_getElem? (i := 25) rfl))
  obtain ⟨c5, i5, k5⟩ := u_known (C := RX5) (T := TX5) (N := 7) (n := 7) hts inlX5 (hts (.instantiable RX5 7) (List.mem_of_getElem? (i := 17) rfl))
  obtain ⟨c6, i6, k6⟩ := u_known (C := RX6) (T := TX6) (N := 4) (n := 4) hts inlX6 (hts (.instantiable RX6 4) (List.mem_of_getElem? (i := 13) rfl))
  obtain ⟨c7, i7, k7⟩ := u_known (C := RX7) (T := TX7) (N := 1) (n := 1) hts inlX7 (hts (.instantiable RX7 1) (List.mem_of_getElem? (i := 45) rfl))
  obtain ⟨c8, i8, k8⟩ := u_known (C := RX8) (T := TX8) (N := 1) (n := 1) hts inlX8 (hts (.instantiable RX8 1) (List.mem_of_getElem? (i := 29) rfl))
  obtain ⟨c9, i9, k9⟩ := u_known (C := RX9) (T := TX9) (N := 9) (n := 9) hts inlX9 (hts (.instantiable RX9 9) (List.mem_of_getElem? (i := 1) rfl))
  obtain ⟨c10, i10, k10⟩ := u_known (C := RX10) (T := TX10) (N := 18) (n := 18) hts inlX10 (hts (.instantiable RX10 18) (List.mem_of_getElem? (i := 4) rfl))
  obtain ⟨cI, aI1, aI2⟩ := arr_known (hts (.arrayClass .int) (List.mem_of_getElem? (i := 51) rfl))
  obtain ⟨cZ, aZ1, aZ2⟩ := arr_known (hts (.arrayClass .boolean) (List.mem_of_getElem? (i := 62) rfl))
  obtain ⟨cJ, aJ1, aJ2⟩ := arr_known (hts (.arrayClass .long) (List.mem_of_getElem? (i := 97) rfl))
  obtain ⟨D, hKc⟩ : ∃ D : va_G, ∀ (k : Nat) (q : vw_C), vwCl[k]? = some q → u_Kn s q.1 q.2.1 q.2.2 (D.1 k) (D.2 k) := by
    refine ⟨(fun k => ([c0, c1, c2, c3, c4, c5, c6, c7, c8, c9, c10] : List ClassId).getD k c0, fun k => ([i0, i1, i2, i3, i4, i5, i6, i7, i8, i9, i10] : List (Nat → Nat)).getD k i0), ?_⟩
    intro k q hq
    match k, hq with
    | 0, hq => cases hq; exact k0
    | 1, hq => cases hq; exact k1
    | 2, hq => cases hq; exact k2
    | 3, hq => cases hq; exact k3
    | 4, hq => cases hq; exact k4
    | 5, hq => cases hq; exact k5
    | 6, hq => cases hq; exact k6
    | 7, hq => cases hq; exact k7
    | 8, hq => cases hq; exact k8
    | 9, hq => cases hq; exact k9
    | 10, hq => cases hq; exact k10
    | k + 11, hq => simp [vwCl] at hq
  have hK : va_K D vwCl (tyL cI cZ cJ) s := by
    refine ⟨hKc, fun k q h => ?_⟩
    match k, h with
    | 0, h => cases h; exact ⟨aI1, aI2⟩
    | 1, h => cases h; exact ⟨aZ1, aZ2⟩
    | 2, h => cases h; exact ⟨aJ1, aJ2⟩
    | k + 3, h => simp [tyL] at h
  have F : LF p s m meth c D cI cZ cJ tR tU b L xs := ⟨hx, hb, hml, hown, hts, hK, hZ, hX, hbl, hr, hlocks⟩
  have hown : s.vm.findClass RL = some m.cls := hown
  have hS : va_S (fun q : Nat => s.heap.size ≤ q) s.heap s.heap [] := va_S.rf
  have hP : va_P D vwCl [] s.heap := fun k q h => by simp at h
  have hD : va_D (fun q : Nat => s.heap.size ≤ q) [] := ⟨fun i j p q h => by simp at h, fun k q h => by simp at h⟩
  have hl := lv_entry ([.ref b]) (n := 4) (Nat.le_of_ble_eq_true rfl)
  rw [lg_entry_eq]
  generalize (lg_sl ([.ref b]) ++ List.replicate (4 - (lg_sl ([.ref b])).length) Slot.unset).toArray = ls at hl ⊢
  have hl : lv_has ls 4 [(0, .ref b)] := hl
  refine va_new (ci := 9) (fs := [.null, .null, .null, .null, .null, .null, .null, .null, .null]) (C := RX9) (T := TX9) (N := 9) hx hb hts inlX9 tyX9 tyX9_ok hown (hts (.classLink RL 7 RX9) (List.mem_of_getElem? (i := 0) rfl)) (hts (.instantiable RX9 9) (List.mem_of_getElem? (i := 1) rfl)) (hts (.initialized RX9) (List.mem_of_getElem? (i := 2) rfl)) hK hP hD hS hA rfl (fun j hj => by rcases (show j = 0 ∨ j = 1 ∨ j = 2 ∨ j = 3 ∨ j = 4 ∨ j = 5 ∨ j = 6 ∨ j = 7 ∨ j = 8 by omega) with rfl | rfl | rfl | rfl | rfl | rfl | rfl | rfl | rfl <;> rfl) (Nat.le_of_ble_eq_true rfl) (Nat.le_of_ble_eq_true rfl) dL_law_0 (fun q0 H hP hD hS => ?_)
  have hP : va_P D vwCl [(q0, .inr (9, [.null, .null, .null, .null, .null, .null, .null, .null, .null]))] H := hP
  have hD : va_D (fun q : Nat => s.heap.size ≤ q) [(q0, .inr (9, [.null, .null, .null, .null, .null, .null, .null, .null, .null]))] := hD
  refine W.widen (k := 1) (n := 9) (Nat.le_of_ble_eq_true rfl) (Nat.le_of_ble_eq_true rfl) ?_
  refine lv_dup hx hb dL_law_3 rfl ?_
  have hFc := ff_1 hD hS hA
  obtain ⟨n0, n1, n2, n3, n4, n5, n6, n7, n8⟩ := hN
  refine va_callv (va_runI (As := []) (rest := [.ref q0]) ⟨hx, hb, hml, hown, hts⟩ (k_X9_init l D cI cZ cJ q0 H.size) (cwI 0 hts gL_law_X9_init rfl rfl rfl (hts (.initialized RX9) (List.mem_of_getElem? (i := 2) rfl)) (hts (.methodLink RL 9 yX9_init) (List.mem_of_getElem? (i := 6) rfl)) (hts (.instanceMethod yX9_init) (List.mem_of_getElem? (i := 7) rfl)) rfl (by decide +kernel) ⟨Nat.le_of_ble_eq_true rfl, Nat.le_of_ble_eq_true rfl⟩) ⟨fun a U g mk q => by obtain ⟨z0, z1, zP, zK, zD, w0, w1, w2, w3, w4, w5, w6, w7, w8⟩ := q; exact ⟨z0, z1, zP, va_K.moved (u := U) (U := U.calling g mk a) (Vm.Alike.refl U.vm) zK, zD, va_Nw.same (u := U) (U := U.calling g mk a) rfl rfl w0, va_Nw.same (u := U) (U := U.calling g mk a) rfl rfl w1, va_Nw.same (u := U) (U := U.calling g mk a) rfl rfl w2, va_Nw.same (u := U) (U := U.calling g mk a) rfl rfl w3, va_Nw.same (u := U) (U := U.calling g mk a) rfl rfl w4, va_Nw.same (u := U) (U := U.calling g mk a) rfl rfl w5, va_Nw.same (u := U) (U := U.calling g mk a) rfl rfl w6, va_Nw.same (u := U) (U := U.calling g mk a) rfl rfl w7, va_Nw.same (u := U) (U := U.calling g mk a) rfl rfl w8⟩, fun U hU hW => ⟨rfl, by rw [hU], by rw [hU]; exact hP, va_K.moved hW.alike hK, hD.weaken (fun _ _ _ _ => trivial), n0.warmM hW, n1.warmM hW, n2.warmM hW, n3.warmM hW, n4.warmM hW, n5.warmM hW, n6.warmM hW, n7.warmM hW, n8.warmM hW⟩⟩ rfl rfl hl.1 rfl (lv_room (Nat.le_of_ble_eq_true rfl)) dL_law_4 ⟨Nat.le_of_ble_eq_true rfl, Nat.le_of_ble_eq_true rfl⟩) hS (fun q _ h => hFc q h) hFc (fun u t H1 locs ht hvm hw hB hz1 hk1 hS => ?_)
  obtain ⟨hP1, hD1⟩ := hB
  rw [ht] at hP1
  obtain ⟨aa, eaa⟩ : ∃ aa : Nat → Nat, aa = fun k => if k = 0 then q0 else u k := ⟨_, rfl⟩
  have hP1 : va_P D vwCl (cX aa cI cZ cJ s0X) H1 := by rw [eaa]; exact hP1
  have hD1 : va_D (va_A [(q0, .inr (9, [.null, .null, .null, .null, .null, .null, .null, .null, .null]))] H.size) (cX aa cI cZ cJ s0X) := by rw [eaa]; exact hD1
  have ea0 : aa 0 = q0 := by rw [eaa]; rfl
  obtain ⟨hP, hD⟩ := va_join (wr := []) (w1 := cX aa cI cZ cJ s0X) hP hD [0] [] rfl rfl (by decide) (by decide) hk1 hFc hP1 hD1
  have hP : va_P D vwCl (cX aa cI cZ cJ s0X) H1 := hP
  have hD : va_D (fun q : Nat => s.heap.size ≤ q) (cX aa cI cZ cJ s0X) := hD
  clear hP1 hD1 hk1 hz1 hFc
  refine W.widen (k := 23) (n := 1334) (Nat.le_of_ble_eq_true rfl) (Nat.le_of_ble_eq_true rfl) ?_
  refine lv_astore_n (lv' := [(1, .ref q0), (0, .ref b)]) hx hb dL_law_7 rfl hl (by decide) rfl (fun ls hl => ?_)
  refine va_new (ci := 10) (fs := [.int 0, .int 0, .null, .null, .null, .int 0, .int 0, .null, .null, .null, .null, .null, .null, .null, .null, .int 0, .int 0, .int 0]) (C := RX10) (T := TX10) (N := 18) hx hb hts inlX10 tyX10 tyX10_ok hown (hts (.classLink RL 10 RX10) (List.mem_of_getElem? (i := 3) rfl)) (hts (.instantiable RX10 18) (List.mem_of_getElem? (i := 4) rfl)) (hts (.initialized RX10) (List.mem_of_getElem? (i := 5) rfl)) hK hP hD hS hA rfl (fun j hj => by rcases (show j = 0 ∨ j = 1 ∨ j = 2 ∨ j = 3 ∨ j = 4 ∨ j = 5 ∨ j = 6 ∨ j = 7 ∨ j = 8 ∨ j = 9 ∨ j = 10 ∨ j = 11 ∨ j = 12 ∨ j = 13 ∨ j = 14 ∨ j = 15 ∨ j = 16 ∨ j = 17 by omega) with rfl | rfl | rfl | rfl | rfl | rfl | rfl | rfl | rfl | rfl | rfl | rfl | rfl | rfl | rfl | rfl | rfl | rfl <;> rfl) (Nat.le_of_ble_eq_true rfl) (Nat.le_of_ble_eq_true rfl) dL_law_8 (fun q1 H hP hD hS => ?_)
  refine W.widen (k := 24) (n := 1352) (Nat.le_of_ble_eq_true rfl) (Nat.le_of_ble_eq_true rfl) ?_
  refine lv_dup hx hb dL_law_11 rfl ?_
  have hPc := pw_r hP
  have hDc := dw_r hD
  have hFc := ff_1 hDc hS hA
  refine va_callv (va_runI (As := []) (rest := [.ref q1]) ⟨hx, hb, hml, hown, hts⟩ (k_X10_init l D cI cZ cJ q1 H.size) (cwI 0 hts gL_law_X10_init rfl rfl rfl (hts (.initialized RX10) (List.mem_of_getElem? (i := 5) rfl)) (hts (.methodLink RL 12 yX10_init) (List.mem_of_getElem? (i := 92) rfl)) (hts (.instanceMethod yX10_init) (List.mem_of_getElem? (i := 93) rfl)) rfl (by decide +kernel) ⟨Nat.le_of_ble_eq_true rfl, Nat.le_of_ble_eq_true rfl⟩) ⟨fun a U g mk q => by obtain ⟨z0, z1, zP, zK, zD⟩ := q; exact ⟨z0, z1, zP, va_K.moved (u := U) (U := U.calling g mk a) (Vm.Alike.refl U.vm) zK, zD⟩, fun U hU hW => ⟨rfl, by rw [hU], by rw [hU]; exact hPc, va_K.moved hW.alike hK, hDc.weaken (fun _ _ _ _ => trivial)⟩⟩ rfl rfl hl.1 rfl (lv_room (Nat.le_of_ble_eq_true rfl)) dL_law_12 ⟨Nat.le_of_ble_eq_true rfl, Nat.le_of_ble_eq_true rfl⟩) hS (fun q _ h => hFc q h) hFc (fun v t2 H2 locs2 ht2 hvm2 hw2 hB2 hz2 hk2 hS => ?_)
  obtain ⟨hP1, hD1⟩ := hB2
  rw [ht2] at hP1
  obtain ⟨bb, ebb⟩ : ∃ bb : Nat → Nat, bb = fun k => if k = 0 then q1 else v k := ⟨_, rfl⟩
  have hP1 : va_P D vwCl (cM bb cI cZ cJ s0M) H2 := by rw [ebb]; exact hP1
  have hD1 : va_D (va_A [(q1, .inr (10, [.int 0, .int 0, .null, .null, .null, .int 0, .int 0, .null, .null, .null, .null, .null, .null, .null, .null, .int 0, .int 0, .int 0]))] H.size) (cM bb cI cZ cJ s0M) := by rw [ebb]; exact hD1
  have eb0 : bb 0 = q1 := by rw [ebb]; rfl
  obtain ⟨hP, hD⟩ := jw_r hP hD hk2 hFc hP1 hD1
  refine W.widen (k := 35) (n := 2454) (Nat.le_of_ble_eq_true rfl) (Nat.le_of_ble_eq_true rfl) ?_
  refine lv_astore_n (lv' := [(2, .ref q1), (1, .ref q0), (0, .ref b)]) hx hb dL_law_15 rfl hl (by decide) rfl (fun ls hl => ?_)
  refine lv_iconst (v := 0) hx hb dL_law_16 (by decide) ?_
  refine lv_istore_n (lv' := [(3, .int 0), (2, .ref q1), (1, .ref q0), (0, .ref b)]) hx hb dL_law_17 rfl hl (by decide) rfl (fun ls hl => ?_)
  have hl4 : lv_has ls 4 (lvL aa bb b 0) := by
    unfold lvL
    rw [ea0, eb0]
    exact lv_sub hl [3, 2, 1, 0] rfl
  exact law_loop F hL L 0 s0X s0M (by omega) (Nat.zero_le _) RR_0 H2 locs2 ls hP hD hS hl4
