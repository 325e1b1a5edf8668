/-! the law's two worlds side by side -/
section PW
variable {D : va_G} {cl : List vw_C} {X Y X' : va_W} {H H1 : Heap} {A : Nat → Prop}
theorem at_l {k : Nat} {q : Nat × va_E} (hk : X[k]? = some q) : (X ++ Y)[k]? = some q := by
  rw [List.getElem?_append_left (List.getElem?_eq_some_iff.mp hk).1]; exact hk
theorem at_r {k : Nat} {q : Nat × va_E} (hk : Y[k]? = some q) : (X ++ Y)[X.length + k]? = some q := by
  rw [List.getElem?_append_right (by omega), Nat.add_sub_cancel_left]; exact hk
theorem pw_l (h : va_P D cl (X ++ Y) H) : va_P D cl X H := fun k q hk => h k q (at_l hk)
theorem pw_r (h : va_P D cl (X ++ Y) H) : va_P D cl Y H := fun k q hk => h (X.length + k) q (at_r hk)
theorem dw_l (h : va_D A (X ++ Y)) : va_D A X := ⟨fun i j p q hi hj e => h.1 i j p q (at_l hi) (at_l hj) e, fun k q hk => h.2 k q (at_l hk)⟩
theorem dw_r (h : va_D A (X ++ Y)) : va_D A Y := ⟨fun i j p q hi hj e => by have := h.1 (X.length + i) (X.length + j) p q (at_r hi) (at_r hj) e; omega, fun k q hk => h.2 (X.length + k) q (at_r hk)⟩
theorem dw_x (h : va_D A (X ++ Y)) {i j : Nat} {p q : Nat × va_E} (hi : X[i]? = some p) (hj : Y[j]? = some q) : p.1 ≠ q.1 := by
  intro e
  have h1 := h.1 i (X.length + j) p q (at_l hi) (at_r hj) e
  have h2 := (List.getElem?_eq_some_iff.mp hi).1
  omega
theorem jw_l (hP : va_P D cl (X ++ Y) H) (hD : va_D A (X ++ Y)) (hk : ∀ q : Nat, q < H.size → ¬ va_A X H.size q → H1[q]? = H[q]?) (hF : ∀ q, va_A X H.size q → A q) (hP1 : va_P D cl X' H1) (hD1 : va_D (va_A X H.size) X') : va_P D cl (X' ++ Y) H1 ∧ va_D A (X' ++ Y) := by
  have nY : ∀ (k : Nat) (q : Nat × va_E), Y[k]? = some q → q.1 < H.size ∧ ¬ va_A X H.size q.1 := by
    intro k q hq
    have lt := va_at.lt (pw_r hP k q hq)
    refine ⟨lt, ?_⟩
    rintro (⟨i, e, hi⟩ | h)
    · exact dw_x hD hi hq rfl
    · omega
  exact ⟨hP1.app ((pw_r hP).kept (fun k q hq => hk q.1 (nY k q hq).1 (nY k q hq).2)), va_D.app (hD1.weaken (fun _ _ _ h => hF _ h)) (dw_r hD) (fun i j p q hi hj e => (nY j q hj).2 (by rw [← e]; exact hD1.2 i p hi))⟩
theorem jw_r (hP : va_P D cl (X ++ Y) H) (hD : va_D A (X ++ Y)) (hk : ∀ q : Nat, q < H.size → ¬ va_A Y H.size q → H1[q]? = H[q]?) (hF : ∀ q, va_A Y H.size q → A q) (hP1 : va_P D cl X' H1) (hD1 : va_D (va_A Y H.size) X') : va_P D cl (X ++ X') H1 ∧ va_D A (X ++ X') := by
  have nX : ∀ (k : Nat) (q : Nat × va_E), X[k]? = some q → q.1 < H.size ∧ ¬ va_A Y H.size q.1 := by
    intro k q hq
    have lt := va_at.lt (pw_l hP k q hq)
    refine ⟨lt, ?_⟩
    rintro (⟨i, e, hi⟩ | h)
    · exact dw_x hD hq hi rfl
    · omega
  exact ⟨((pw_l hP).kept (fun k q hq => hk q.1 (nX k q hq).1 (nX k q hq).2)).app hP1, va_D.app (dw_l hD) (hD1.weaken (fun _ _ _ h => hF _ h)) (fun i j p q hi hj e => (nX i p hi).2 (by rw [e]; exact hD1.2 j q hj))⟩
end PW
def LF (p : Program) (s : State) (m : MethodId) (meth : Method) (c : Code) (D : va_G) (cI cZ cJ : ClassId) (tR tU b L : Nat) (xs : Nat → Int32) : Prop :=
  p.tables.exec = Jvm.exec ∧ c.code = cL_law ∧ c.maxLocals = 4 ∧ s.vm.findClass RL = some m.cls ∧ (∀ w ∈ wsL_law, w.before #[Value.ref b] s = true) ∧ va_K D vwCl (tyL cI cZ cJ) s ∧ zX tR tU (fun q => s.heap.size ≤ q) s ∧ va_X b L xs s s.heap ∧ b < s.heap.size ∧ meth.sig.returnType = ret ∧ meth.locks = false
def GL (p : Program) (l : Launch) (e : Env) (s : State) (m : MethodId) (b : Nat) (below : List Frame) (meth : Method) (c : Code) (D : va_G) (aa bb : Nat → Nat) (cI cZ cJ : ClassId) (σ τ : xSt) (pc : Nat) (lv : List (Nat × Value)) (st : List Value) : Prop :=
  ∀ (H : Heap) (locs : List Loc) (ls : Array Slot), va_P D vwCl (cX aa cI cZ cJ σ ++ cM bb cI cZ cJ τ) H → va_D (fun q => s.heap.size ≤ q) (cX aa cI cZ cJ σ ++ cM bb cI cZ cJ τ) → va_S (fun q => s.heap.size ≤ q) s.heap H locs → lv_has ls 4 lv → W p l e room_1 s m #[Value.ref b] below meth c H locs 35 2454 (lw_Z below #[Value.ref b] s) (F0 m pc ls st)
abbrev lvL (aa bb : Nat → Nat) (b i : Nat) : List (Nat × Value) := [(0, .ref b), (1, .ref (aa 0)), (2, .ref (bb 0)), (3, .int (xI (i : Int)))]
section GLS
variable {p : Program} {l : Launch} {e : Env} {s : State} {m : MethodId} {below : List Frame} {meth : Method} {c : Code} {D : va_G} {aa bb : Nat → Nat} {cI cZ cJ : ClassId} {tR tU b L : Nat} {xs : Nat → Int32} {σ τ : xSt} {pc : Nat} {lv : List (Nat × Value)} {st rest : List Value} {i : Nat}
theorem gl_al1 (F : LF p s m meth c D cI cZ cJ tR tU b L xs) (hdg : decode cL_law pc = .ok (.aload_n 1, 1)) (K : GL p l e s m b below meth c D aa bb cI cZ cJ σ τ (pc + 1) (lvL aa bb b i) (.ref (aa 0) :: st)) : GL p l e s m b below meth c D aa bb cI cZ cJ σ τ pc (lvL aa bb b i) st := by
  obtain ⟨hx, hb, -⟩ := F
  intro H locs ls hP hD hS hl
  exact lv_aload_n hx hb hdg rfl (lv_at hl 1 rfl) (K H locs ls hP hD hS hl)
theorem gl_al2 (F : LF p s m meth c D cI cZ cJ tR tU b L xs) (hdg : decode cL_law pc = .ok (.aload_n 2, 1)) (K : GL p l e s m b below meth c D aa bb cI cZ cJ σ τ (pc + 1) (lvL aa bb b i) (.ref (bb 0) :: st)) : GL p l e s m b below meth c D aa bb cI cZ cJ σ τ pc (lvL aa bb b i) st := by
  obtain ⟨hx, hb, -⟩ := F
  intro H locs ls hP hD hS hl
  exact lv_aload_n hx hb hdg rfl (lv_at hl 2 rfl) (K H locs ls hP hD hS hl)
theorem gl_arg (F : LF p s m meth c D cI cZ cJ tR tU b L xs) (hL : L ≤ 2560) (j : Nat) (hj : i + j < L) {jz : Int} (ej : jz = (j : Int)) (d0 : decode cL_law pc = .ok (.aload_n 0, 1)) (d1 : decode cL_law (pc + 1) = .ok (.iload_n 3, 1)) (d2 : decode cL_law (pc + 1 + 1) = .ok (.iconst jz, 1)) (d3 : decode cL_law (pc + 1 + 1 + 1) = .ok (.iadd, 1)) (d4 : decode cL_law (pc + 1 + 1 + 1 + 1) = .ok (.iaload, 1)) (K : GL p l e s m b below meth c D aa bb cI cZ cJ σ τ (pc + 1 + 1 + 1 + 1 + 1) (lvL aa bb b i) (.int (xI (xs (i + j)).toInt) :: st)) : GL p l e s m b below meth c D aa bb cI cZ cJ σ τ pc (lvL aa bb b i) st := by
  subst ej
  obtain ⟨hx, hb, hml, hown, hts, hK, hZ, hX, hbl, -⟩ := F
  intro H locs ls hP hD hS hl
  refine lv_aload_n hx hb d0 rfl (lv_at hl 0 rfl) ?_
  refine lv_iload_n hx hb d1 rfl (lv_at hl 3 rfl) ?_
  refine lv_iconst (v := xI (j : Int)) hx hb d2 rfl ?_
  refine lv_iadd hx hb d3 ?_
  rw [xI_add]
  have hr : 0 ≤ (i : Int) + (j : Int) ∧ (i : Int) + (j : Int) < ((L : Nat) : Int) := by omega
  refine va_sld hx hb hX hbl (Nat.not_le.mpr hbl) hS (xI_in (by omega) hr) d4 ?_
  rw [xI_cl (n := L) (by omega) hr, show ((i : Int) + (j : Int)).toNat = i + j from by omega, ← xI_of (xs (i + j))]
  exact K H locs ls hP hD hS hl
theorem gl_bool (F : LF p s m meth c D cI cZ cJ tR tU b L xs) {z : Int} (hz : xR z) (d0 : decode cL_law pc = .ok (.ifCond .eq 7, 3)) (d1 : decode cL_law (pc + 3) = .ok (.iconst 1, 1)) (d2 : decode cL_law (pc + 3 + 1) = .ok (.goto 4, 3)) (d3 : decode cL_law (pc + 7) = .ok (.iconst 0, 1)) (K : GL p l e s m b below meth c D aa bb cI cZ cJ σ τ (pc + 8) lv (.int (xI (bI (z ≠ 0))) :: st)) : GL p l e s m b below meth c D aa bb cI cZ cJ σ τ pc lv (.int (xI z) :: st) := by
  obtain ⟨hx, hb, -⟩ := F
  intro H locs ls hP hD hS hl
  refine lv_if_eq (tgt := pc + 7) hx hb d0 (by omega) (fun q => ?_) (fun q => ?_)
  · have q0 : z = 0 := (xI_eq hz xR_0).mp q
    refine lv_iconst (v := xI 0) hx hb d3 rfl ?_
    have K1 := K H locs ls hP hD hS hl
    rw [bI_f (fun w => w q0)] at K1
    exact K1
  · have q0 : z ≠ 0 := fun w => q ((xI_eq hz xR_0).mpr w)
    refine lv_iconst (v := xI 1) hx hb d1 rfl ?_
    refine lv_goto (tgt := pc + 8) hx hb d2 (by omega) ?_
    have K1 := K H locs ls hP hD hS hl
    rw [bI_t q0] at K1
    exact K1
theorem gl_eq (F : LF p s m meth c D cI cZ cJ tR tU b L xs) {z : Int} {off : Int} (d0 : decode cL_law pc = .ok (.if_icmp .eq off, 3)) (ht : (pc : Int) + off = (1066 : Nat)) (K : GL p l e s m b below meth c D aa bb cI cZ cJ σ τ 1066 lv st) : GL p l e s m b below meth c D aa bb cI cZ cJ σ τ pc lv (.int (xI z) :: .int (xI z) :: st) := by
  obtain ⟨hx, hb, -⟩ := F
  intro H locs ls hP hD hS hl
  exact lv_icmp_eq (tgt := 1066) hx hb d0 ht (fun _ => K H locs ls hP hD hS hl) (fun q => absurd rfl q)
variable {y : MethodName} {ws : List Cond} {rm : Room} {index maxL n : Nat} {bytes : ByteArray} {rt : Option FieldType} {As : List Value}
theorem gl_callX (F : LF p s m meth c D cI cZ cJ tR tU b L xs) {Post : Int → xSt → Prop} (hM : MI l D (tyL cI cZ cJ) (cX aa cI cZ cJ) tR tU y ws rm (.ref (aa 0) :: As) σ Post) (cwp : CallW room_1 s #[Value.ref b] RL RX9 index y bytes maxL rt ws rm 0 0 n) (hn : As.length = n) (hst : st = As.reverse ++ .ref (aa 0) :: rest) (hW : (rest.map fun v => v.category).sum ≤ 8) (hdg : decode cL_law pc = .ok (.invokevirtual index, 3)) (K : ∀ (r : Int) (σ' : xSt), Post r σ' → GL p l e s m b below meth c D aa bb cI cZ cJ σ' τ (pc + 3) lv (.int (xI r) :: rest)) : GL p l e s m b below meth c D aa bb cI cZ cJ σ τ pc lv st := by
  obtain ⟨hx, hb, hml, hown, hts, hK, hZ, hX, hbl, -⟩ := F
  intro H locs ls hP hD hS hl
  have hA : ∀ q : Nat, s.heap.size ≤ q → (fun q : Nat => s.heap.size ≤ q) q := fun _ h => h
  have hPc := pw_l hP
  have hDc := dw_l hD
  have hF := gg_free (cw := cX aa cI cZ cJ) hDc hS hA
  refine va_calli (va_runV (As := As) (rest := rest) ⟨hx, hb, hml, hown, hts⟩ (hM H.size) cwp ⟨MPre.blind, va_recv hK hPc (ci := 9) (q0 := 0) rfl rfl, fun U hU hW => ⟨rfl, gg_pre hPc hDc hS hA hK hZ hU hW⟩⟩ rfl hn hl.1 hst (lv_room hW) hdg ⟨Nat.le_of_ble_eq_true rfl, Nat.le_of_ble_eq_true rfl⟩) hS (fun q _ h => hF q h) hF (fun r u t H1 locs1 ht hvm hw hB hz1 hk1 hS1 => ?_)
  obtain ⟨hr, hp⟩ := hw
  obtain ⟨hP1, hD1⟩ := hB
  rw [ht] at hP1
  rw [hr]
  obtain ⟨hP2, hD2⟩ := jw_l hP hD hk1 hF hP1 hD1
  exact K u.1 u.2 hp H1 locs1 ls hP2 hD2 hS1 hl
theorem gl_callM (F : LF p s m meth c D cI cZ cJ tR tU b L xs) {Post : Int → xSt → Prop} (hM : MI l D (tyL cI cZ cJ) (cM bb cI cZ cJ) tR tU y ws rm (.ref (bb 0) :: As) τ Post) (cwp : CallW room_1 s #[Value.ref b] RL RX10 index y bytes maxL rt ws rm 0 0 n) (hn : As.length = n) (hst : st = As.reverse ++ .ref (bb 0) :: rest) (hW : (rest.map fun v => v.category).sum ≤ 8) (hdg : decode cL_law pc = .ok (.invokevirtual index, 3)) (K : ∀ (r : Int) (τ' : xSt), Post r τ' → GL p l e s m b below meth c D aa bb cI cZ cJ σ τ' (pc + 3) lv (.int (xI r) :: rest)) : GL p l e s m b below meth c D aa bb cI cZ cJ σ τ pc lv st := by
  obtain ⟨hx, hb, hml, hown, hts, hK, hZ, hX, hbl, -⟩ := F
  intro H locs ls hP hD hS hl
  have hA : ∀ q : Nat, s.heap.size ≤ q → (fun q : Nat => s.heap.size ≤ q) q := fun _ h => h
  have hPc := pw_r hP
  have hDc := dw_r hD
  have hF := gg_free (cw := cM bb cI cZ cJ) hDc hS hA
  refine va_calli (va_runV (As := As) (rest := rest) ⟨hx, hb, hml, hown, hts⟩ (hM H.size) cwp ⟨MPre.blind, va_recv hK hPc (ci := 10) (q0 := 0) rfl rfl, fun U hU hW => ⟨rfl, gg_pre hPc hDc hS hA hK hZ hU hW⟩⟩ rfl hn hl.1 hst (lv_room hW) hdg ⟨Nat.le_of_ble_eq_true rfl, Nat.le_of_ble_eq_true rfl⟩) hS (fun q _ h => hF q h) hF (fun r u t H1 locs1 ht hvm hw hB hz1 hk1 hS1 => ?_)
  obtain ⟨hr, hp⟩ := hw
  obtain ⟨hP1, hD1⟩ := hB
  rw [ht] at hP1
  rw [hr]
  obtain ⟨hP2, hD2⟩ := jw_r hP hD hk1 hF hP1 hD1
  exact K u.1 u.2 hp H1 locs1 ls hP2 hD2 hS1 hl
end GLS
