def tyL (cI cZ cJ : ClassId) : List (ClassId × FieldType) := [(cI, .int), (cZ, .boolean), (cJ, .long)]
def cX (aa : Nat → Nat) (cI cZ cJ : ClassId) (σ : xSt) : va_W := [(aa 0, .inr (9, [.ref (aa 1), .ref (aa 5), .ref (aa 7), .ref (aa 9), .ref (aa 13), .ref (aa 15), .ref (aa 18), .ref (aa 20), .ref (aa 21)])),
  (aa 1, .inr (6, [.ref (aa 2), .ref (aa 3), .ref (aa 4), .int (xI (σ 1 3))])),
  (aa 2, .inl (cI, 60, .inl (fun j => xI (σ 2 j)))),
  (aa 3, .inl (cI, 61, .inl (fun j => xI (σ 3 j)))),
  (aa 4, .inl (cI, 61, .inl (fun j => xI (σ 4 j)))),
  (aa 5, .inr (5, [.ref (aa 6), .int (xI (σ 5 1)), .int (xI (σ 5 2)), .int (xI (σ 5 3)), .int (xI (σ 5 4)), .int (xI (σ 5 5)), .int (xI (σ 5 6))])),
  (aa 6, .inl (cI, 61, .inl (fun j => xI (σ 6 j)))),
  (aa 7, .inr (2, [.ref (aa 8), .int (xI (σ 7 1)), .int (xI (σ 7 2))])),
  (aa 8, .inl (cZ, 144, .inl (fun j => xI (σ 8 j)))),
  (aa 9, .inr (4, [.ref (aa 10), .ref (aa 11), .ref (aa 12)])),
  (aa 10, .inl (cI, 144, .inl (fun j => xI (σ 10 j)))),
  (aa 11, .inl (cI, 144, .inl (fun j => xI (σ 11 j)))),
  (aa 12, .inl (cZ, 144, .inl (fun j => xI (σ 12 j)))),
  (aa 13, .inr (8, [.ref (aa 14)])),
  (aa 14, .inl (cZ, 144, .inl (fun j => xI (σ 14 j)))),
  (aa 15, .inr (3, [.ref (aa 16), .ref (aa 17), .int (xI (σ 15 2))])),
  (aa 16, .inl (cI, 24, .inl (fun j => xI (σ 16 j)))),
  (aa 17, .inl (cI, 24, .inl (fun j => xI (σ 17 j)))),
  (aa 18, .inr (0, [.ref (aa 19)])),
  (aa 19, .inl (cI, 144, .inl (fun j => xI (σ 19 j)))),
  (aa 20, .inr (1, [.int (xI (σ 20 0)), .int (xI (σ 20 1)), .int (xI (σ 20 2))])),
  (aa 21, .inr (7, [.ref (aa 22)])),
  (aa 22, .inl (cZ, 144, .inl (fun j => xI (σ 22 j))))]
theorem cX_set_1_3 (aa : Nat → Nat) (cI cZ cJ : ClassId) (σ : xSt) (z : Int) : (cX aa cI cZ cJ σ).set 1 (aa 1, .inr (6, ([.ref (aa 2), .ref (aa 3), .ref (aa 4), .int (xI (σ 1 3))] : List Value).set 3 (.int (xI z)))) = cX aa cI cZ cJ (xU σ 1 3 z) := rfl
theorem cX_st_2 (aa : Nat → Nat) (cI cZ cJ : ClassId) (σ : xSt) (z : Int) (j : Nat) : (cX aa cI cZ cJ σ).set 2 (aa 2, .inl (cI, 60, .inl (upd (fun j => xI (σ 2 j)) j (xI z)))) = cX aa cI cZ cJ (xU σ 2 j z) := by
  rw [xU_arr σ 2 j z]
  rfl
theorem cX_st_3 (aa : Nat → Nat) (cI cZ cJ : ClassId) (σ : xSt) (z : Int) (j : Nat) : (cX aa cI cZ cJ σ).set 3 (aa 3, .inl (cI, 61, .inl (upd (fun j => xI (σ 3 j)) j (xI z)))) = cX aa cI cZ cJ (xU σ 3 j z) := by
  rw [xU_arr σ 3 j z]
  rfl
theorem cX_st_4 (aa : Nat → Nat) (cI cZ cJ : ClassId) (σ : xSt) (z : Int) (j : Nat) : (cX aa cI cZ cJ σ).set 4 (aa 4, .inl (cI, 61, .inl (upd (fun j => xI (σ 4 j)) j (xI z)))) = cX aa cI cZ cJ (xU σ 4 j z) := by
  rw [xU_arr σ 4 j z]
  rfl
theorem cX_set_5_1 (aa : Nat → Nat) (cI cZ cJ : ClassId) (σ : xSt) (z : Int) : (cX aa cI cZ cJ σ).set 5 (aa 5, .inr (5, ([.ref (aa 6), .int (xI (σ 5 1)), .int (xI (σ 5 2)), .int (xI (σ 5 3)), .int (xI (σ 5 4)), .int (xI (σ 5 5)), .int (xI (σ 5 6))] : List Value).set 1 (.int (xI z)))) = cX aa cI cZ cJ (xU σ 5 1 z) := rfl
theorem cX_set_5_2 (aa : Nat → Nat) (cI cZ cJ : ClassId) (σ : xSt) (z : Int) : (cX aa cI cZ cJ σ).set 5 (aa 5, .inr (5, ([.ref (aa 6), .int (xI (σ 5 1)), .int (xI (σ 5 2)), .int (xI (σ 5 3)), .int (xI (σ 5 4)), .int (xI (σ 5 5)), .int (xI (σ 5 6))] : List Value).set 2 (.int (xI z)))) = cX aa cI cZ cJ (xU σ 5 2 z) := rfl
theorem cX_set_5_3 (aa : Nat → Nat) (cI cZ cJ : ClassId) (σ : xSt) (z : Int) : (cX aa cI cZ cJ σ).set 5 (aa 5, .inr (5, ([.ref (aa 6), .int (xI (σ 5 1)), .int (xI (σ 5 2)), .int (xI (σ 5 3)), .int (xI (σ 5 4)), .int (xI (σ 5 5)), .int (xI (σ 5 6))] : List Value).set 3 (.int (xI z)))) = cX aa cI cZ cJ (xU σ 5 3 z) := rfl
theorem cX_set_5_4 (aa : Nat → Nat) (cI cZ cJ : ClassId) (σ : xSt) (z : Int) : (cX aa cI cZ cJ σ).set 5 (aa 5, .inr (5, ([.ref (aa 6), .int (xI (σ 5 1)), .int (xI (σ 5 2)), .int (xI (σ 5 3)), .int (xI (σ 5 4)), .int (xI (σ 5 5)), .int (xI (σ 5 6))] : List Value).set 4 (.int (xI z)))) = cX aa cI cZ cJ (xU σ 5 4 z) := rfl
theorem cX_set_5_5 (aa : Nat → Nat) (cI cZ cJ : ClassId) (σ : xSt) (z : Int) : (cX aa cI cZ cJ σ).set 5 (aa 5, .inr (5, ([.ref (aa 6), .int (xI (σ 5 1)), .int (xI (σ 5 2)), .int (xI (σ 5 3)), .int (xI (σ 5 4)), .int (xI (σ 5 5)), .int (xI (σ 5 6))] : List Value).set 5 (.int (xI z)))) = cX aa cI cZ cJ (xU σ 5 5 z) := rfl
theorem cX_set_5_6 (aa : Nat → Nat) (cI cZ cJ : ClassId) (σ : xSt) (z : Int) : (cX aa cI cZ cJ σ).set 5 (aa 5, .inr (5, ([.ref (aa 6), .int (xI (σ 5 1)), .int (xI (σ 5 2)), .int (xI (σ 5 3)), .int (xI (σ 5 4)), .int (xI (σ 5 5)), .int (xI (σ 5 6))] : List Value).set 6 (.int (xI z)))) = cX aa cI cZ cJ (xU σ 5 6 z) := rfl
theorem cX_st_6 (aa : Nat → Nat) (cI cZ cJ : ClassId) (σ : xSt) (z : Int) (j : Nat) : (cX aa cI cZ cJ σ).set 6 (aa 6, .inl (cI, 61, .inl (upd (fun j => xI (σ 6 j)) j (xI z)))) = cX aa cI cZ cJ (xU σ 6 j z) := by
  rw [xU_arr σ 6 j z]
  rfl
theorem cX_set_7_1 (aa : Nat → Nat) (cI cZ cJ : ClassId) (σ : xSt) (z : Int) : (cX aa cI cZ cJ σ).set 7 (aa 7, .inr (2, ([.ref (aa 8), .int (xI (σ 7 1)), .int (xI (σ 7 2))] : List Value).set 1 (.int (xI z)))) = cX aa cI cZ cJ (xU σ 7 1 z) := rfl
theorem cX_set_7_2 (aa : Nat → Nat) (cI cZ cJ : ClassId) (σ : xSt) (z : Int) : (cX aa cI cZ cJ σ).set 7 (aa 7, .inr (2, ([.ref (aa 8), .int (xI (σ 7 1)), .int (xI (σ 7 2))] : List Value).set 2 (.int (xI z)))) = cX aa cI cZ cJ (xU σ 7 2 z) := rfl
theorem cX_st_8 (aa : Nat → Nat) (cI cZ cJ : ClassId) (σ : xSt) (z : Int) (j : Nat) : (cX aa cI cZ cJ σ).set 8 (aa 8, .inl (cZ, 144, .inl (upd (fun j => xI (σ 8 j)) j (xI z)))) = cX aa cI cZ cJ (xU σ 8 j z) := by
  rw [xU_arr σ 8 j z]
  rfl
theorem cX_st_10 (aa : Nat → Nat) (cI cZ cJ : ClassId) (σ : xSt) (z : Int) (j : Nat) : (cX aa cI cZ cJ σ).set 10 (aa 10, .inl (cI, 144, .inl (upd (fun j => xI (σ 10 j)) j (xI z)))) = cX aa cI cZ cJ (xU σ 10 j z) := by
  rw [xU_arr σ 10 j z]
  rfl
theorem cX_st_11 (aa : Nat → Nat) (cI cZ cJ : ClassId) (σ : xSt) (z : Int) (j : Nat) : (cX aa cI cZ cJ σ).set 11 (aa 11, .inl (cI, 144, .inl (upd (fun j => xI (σ 11 j)) j (xI z)))) = cX aa cI cZ cJ (xU σ 11 j z) := by
  rw [xU_arr σ 11 j z]
  rfl
theorem cX_st_12 (aa : Nat → Nat) (cI cZ cJ : ClassId) (σ : xSt) (z : Int) (j : Nat) : (cX aa cI cZ cJ σ).set 12 (aa 12, .inl (cZ, 144, .inl (upd (fun j => xI (σ 12 j)) j (xI z)))) = cX aa cI cZ cJ (xU σ 12 j z) := by
  rw [xU_arr σ 12 j z]
  rfl
theorem cX_st_14 (aa : Nat → Nat) (cI cZ cJ : ClassId) (σ : xSt) (z : Int) (j : Nat) : (cX aa cI cZ cJ σ).set 14 (aa 14, .inl (cZ, 144, .inl (upd (fun j => xI (σ 14 j)) j (xI z)))) = cX aa cI cZ cJ (xU σ 14 j z) := by
  rw [xU_arr σ 14 j z]
  rfl
theorem cX_set_15_2 (aa : Nat → Nat) (cI cZ cJ : ClassId) (σ : xSt) (z : Int) : (cX aa cI cZ cJ σ).set 15 (aa 15, .inr (3, ([.ref (aa 16), .ref (aa 17), .int (xI (σ 15 2))] : List Value).set 2 (.int (xI z)))) = cX aa cI cZ cJ (xU σ 15 2 z) := rfl
theorem cX_st_16 (aa : Nat → Nat) (cI cZ cJ : ClassId) (σ : xSt) (z : Int) (j : Nat) : (cX aa cI cZ cJ σ).set 16 (aa 16, .inl (cI, 24, .inl (upd (fun j => xI (σ 16 j)) j (xI z)))) = cX aa cI cZ cJ (xU σ 16 j z) := by
  rw [xU_arr σ 16 j z]
  rfl
theorem cX_st_17 (aa : Nat → Nat) (cI cZ cJ : ClassId) (σ : xSt) (z : Int) (j : Nat) : (cX aa cI cZ cJ σ).set 17 (aa 17, .inl (cI, 24, .inl (upd (fun j => xI (σ 17 j)) j (xI z)))) = cX aa cI cZ cJ (xU σ 17 j z) := by
  rw [xU_arr σ 17 j z]
  rfl
theorem cX_st_19 (aa : Nat → Nat) (cI cZ cJ : ClassId) (σ : xSt) (z : Int) (j : Nat) : (cX aa cI cZ cJ σ).set 19 (aa 19, .inl (cI, 144, .inl (upd (fun j => xI (σ 19 j)) j (xI z)))) = cX aa cI cZ cJ (xU σ 19 j z) := by
  rw [xU_arr σ 19 j z]
  rfl
theorem cX_set_20_0 (aa : Nat → Nat) (cI cZ cJ : ClassId) (σ : xSt) (z : Int) : (cX aa cI cZ cJ σ).set 20 (aa 20, .inr (1, ([.int (xI (σ 20 0)), .int (xI (σ 20 1)), .int (xI (σ 20 2))] : List Value).set 0 (.int (xI z)))) = cX aa cI cZ cJ (xU σ 20 0 z) := rfl
theorem cX_set_20_1 (aa : Nat → Nat) (cI cZ cJ : ClassId) (σ : xSt) (z : Int) : (cX aa cI cZ cJ σ).set 20 (aa 20, .inr (1, ([.int (xI (σ 20 0)), .int (xI (σ 20 1)), .int (xI (σ 20 2))] : List Value).set 1 (.int (xI z)))) = cX aa cI cZ cJ (xU σ 20 1 z) := rfl
theorem cX_set_20_2 (aa : Nat → Nat) (cI cZ cJ : ClassId) (σ : xSt) (z : Int) : (cX aa cI cZ cJ σ).set 20 (aa 20, .inr (1, ([.int (xI (σ 20 0)), .int (xI (σ 20 1)), .int (xI (σ 20 2))] : List Value).set 2 (.int (xI z)))) = cX aa cI cZ cJ (xU σ 20 2 z) := rfl
theorem cX_st_22 (aa : Nat → Nat) (cI cZ cJ : ClassId) (σ : xSt) (z : Int) (j : Nat) : (cX aa cI cZ cJ σ).set 22 (aa 22, .inl (cZ, 144, .inl (upd (fun j => xI (σ 22 j)) j (xI z)))) = cX aa cI cZ cJ (xU σ 22 j z) := by
  rw [xU_arr σ 22 j z]
  rfl
def cM (aa : Nat → Nat) (cI cZ cJ : ClassId) (σ : xSt) : va_W := [(aa 0, .inr (10, [.int (xI (σ 0 0)), .int (xI (σ 0 1)), .ref (aa 1), .ref (aa 2), .ref (aa 3), .int (xI (σ 0 5)), .int (xI (σ 0 6)), .ref (aa 4), .ref (aa 5), .ref (aa 6), .ref (aa 7), .ref (aa 8), .ref (aa 9), .ref (aa 10), .ref (aa 11), .int (xI (σ 0 15)), .int (xI (σ 0 16)), .int (xI (σ 0 17))])),
  (aa 1, .inl (cI, 60, .inl (fun j => xI (σ 1 j)))),
  (aa 2, .inl (cJ, 2, .inr (.inl (fun j => xJ (σ 2 j))))),
  (aa 3, .inl (cJ, 2, .inr (.inl (fun j => xJ (σ 3 j))))),
  (aa 4, .inl (cZ, 144, .inl (fun j => xI (σ 4 j)))),
  (aa 5, .inl (cZ, 144, .inl (fun j => xI (σ 5 j)))),
  (aa 6, .inl (cI, 144, .inl (fun j => xI (σ 6 j)))),
  (aa 7, .inl (cI, 144, .inl (fun j => xI (σ 7 j)))),
  (aa 8, .inl (cZ, 144, .inl (fun j => xI (σ 8 j)))),
  (aa 9, .inl (cI, 300, .inl (fun j => xI (σ 9 j)))),
  (aa 10, .inl (cZ, 9, .inl (fun j => xI (σ 10 j)))),
  (aa 11, .inl (cI, 9, .inl (fun j => xI (σ 11 j))))]
theorem cM_set_0_0 (aa : Nat → Nat) (cI cZ cJ : ClassId) (σ : xSt) (z : Int) : (cM aa cI cZ cJ σ).set 0 (aa 0, .inr (10, ([.int (xI (σ 0 0)), .int (xI (σ 0 1)), .ref (aa 1), .ref (aa 2), .ref (aa 3), .int (xI (σ 0 5)), .int (xI (σ 0 6)), .ref (aa 4), .ref (aa 5), .ref (aa 6), .ref (aa 7), .ref (aa 8), .ref (aa 9), .ref (aa 10), .ref (aa 11), .int (xI (σ 0 15)), .int (xI (σ 0 16)), .int (xI (σ 0 17))] : List Value).set 0 (.int (xI z)))) = cM aa cI cZ cJ (xU σ 0 0 z) := rfl
theorem cM_set_0_1 (aa : Nat → Nat) (cI cZ cJ : ClassId) (σ : xSt) (z : Int) : (cM aa cI cZ cJ σ).set 0 (aa 0, .inr (10, ([.int (xI (σ 0 0)), .int (xI (σ 0 1)), .ref (aa 1), .ref (aa 2), .ref (aa 3), .int (xI (σ 0 5)), .int (xI (σ 0 6)), .ref (aa 4), .ref (aa 5), .ref (aa 6), .ref (aa 7), .ref (aa 8), .ref (aa 9), .ref (aa 10), .ref (aa 11), .int (xI (σ 0 15)), .int (xI (σ 0 16)), .int (xI (σ 0 17))] : List Value).set 1 (.int (xI z)))) = cM aa cI cZ cJ (xU σ 0 1 z) := rfl
theorem cM_set_0_5 (aa : Nat → Nat) (cI cZ cJ : ClassId) (σ : xSt) (z : Int) : (cM aa cI cZ cJ σ).set 0 (aa 0, .inr (10, ([.int (xI (σ 0 0)), .int (xI (σ 0 1)), .ref (aa 1), .ref (aa 2), .ref (aa 3), .int (xI (σ 0 5)), .int (xI (σ 0 6)), .ref (aa 4), .ref (aa 5), .ref (aa 6), .ref (aa 7), .ref (aa 8), .ref (aa 9), .ref (aa 10), .ref (aa 11), .int (xI (σ 0 15)), .int (xI (σ 0 16)), .int (xI (σ 0 17))] : List Value).set 5 (.int (xI z)))) = cM aa cI cZ cJ (xU σ 0 5 z) := rfl
theorem cM_set_0_6 (aa : Nat → Nat) (cI cZ cJ : ClassId) (σ : xSt) (z : Int) : (cM aa cI cZ cJ σ).set 0 (aa 0, .inr (10, ([.int (xI (σ 0 0)), .int (xI (σ 0 1)), .ref (aa 1), .ref (aa 2), .ref (aa 3), .int (xI (σ 0 5)), .int (xI (σ 0 6)), .ref (aa 4), .ref (aa 5), .ref (aa 6), .ref (aa 7), .ref (aa 8), .ref (aa 9), .ref (aa 10), .ref (aa 11), .int (xI (σ 0 15)), .int (xI (σ 0 16)), .int (xI (σ 0 17))] : List Value).set 6 (.int (xI z)))) = cM aa cI cZ cJ (xU σ 0 6 z) := rfl
theorem cM_set_0_15 (aa : Nat → Nat) (cI cZ cJ : ClassId) (σ : xSt) (z : Int) : (cM aa cI cZ cJ σ).set 0 (aa 0, .inr (10, ([.int (xI (σ 0 0)), .int (xI (σ 0 1)), .ref (aa 1), .ref (aa 2), .ref (aa 3), .int (xI (σ 0 5)), .int (xI (σ 0 6)), .ref (aa 4), .ref (aa 5), .ref (aa 6), .ref (aa 7), .ref (aa 8), .ref (aa 9), .ref (aa 10), .ref (aa 11), .int (xI (σ 0 15)), .int (xI (σ 0 16)), .int (xI (σ 0 17))] : List Value).set 15 (.int (xI z)))) = cM aa cI cZ cJ (xU σ 0 15 z) := rfl
theorem cM_set_0_16 (aa : Nat → Nat) (cI cZ cJ : ClassId) (σ : xSt) (z : Int) : (cM aa cI cZ cJ σ).set 0 (aa 0, .inr (10, ([.int (xI (σ 0 0)), .int (xI (σ 0 1)), .ref (aa 1), .ref (aa 2), .ref (aa 3), .int (xI (σ 0 5)), .int (xI (σ 0 6)), .ref (aa 4), .ref (aa 5), .ref (aa 6), .ref (aa 7), .ref (aa 8), .ref (aa 9), .ref (aa 10), .ref (aa 11), .int (xI (σ 0 15)), .int (xI (σ 0 16)), .int (xI (σ 0 17))] : List Value).set 16 (.int (xI z)))) = cM aa cI cZ cJ (xU σ 0 16 z) := rfl
theorem cM_set_0_17 (aa : Nat → Nat) (cI cZ cJ : ClassId) (σ : xSt) (z : Int) : (cM aa cI cZ cJ σ).set 0 (aa 0, .inr (10, ([.int (xI (σ 0 0)), .int (xI (σ 0 1)), .ref (aa 1), .ref (aa 2), .ref (aa 3), .int (xI (σ 0 5)), .int (xI (σ 0 6)), .ref (aa 4), .ref (aa 5), .ref (aa 6), .ref (aa 7), .ref (aa 8), .ref (aa 9), .ref (aa 10), .ref (aa 11), .int (xI (σ 0 15)), .int (xI (σ 0 16)), .int (xI (σ 0 17))] : List Value).set 17 (.int (xI z)))) = cM aa cI cZ cJ (xU σ 0 17 z) := rfl
theorem cM_st_1 (aa : Nat → Nat) (cI cZ cJ : ClassId) (σ : xSt) (z : Int) (j : Nat) : (cM aa cI cZ cJ σ).set 1 (aa 1, .inl (cI, 60, .inl (upd (fun j => xI (σ 1 j)) j (xI z)))) = cM aa cI cZ cJ (xU σ 1 j z) := by
  rw [xU_arr σ 1 j z]
  rfl
theorem cM_st_2 (aa : Nat → Nat) (cI cZ cJ : ClassId) (σ : xSt) (z : Int) (j : Nat) : (cM aa cI cZ cJ σ).set 2 (aa 2, .inl (cJ, 2, .inr (.inl (vp_updL (fun j => xJ (σ 2 j)) j (xJ z))))) = cM aa cI cZ cJ (xU σ 2 j z) := by
  rw [xU_arrJ σ 2 j z]
  rfl
theorem cM_st_3 (aa : Nat → Nat) (cI cZ cJ : ClassId) (σ : xSt) (z : Int) (j : Nat) : (cM aa cI cZ cJ σ).set 3 (aa 3, .inl (cJ, 2, .inr (.inl (vp_updL (fun j => xJ (σ 3 j)) j (xJ z))))) = cM aa cI cZ cJ (xU σ 3 j z) := by
  rw [xU_arrJ σ 3 j z]
  rfl
theorem cM_st_4 (aa : Nat → Nat) (cI cZ cJ : ClassId) (σ : xSt) (z : Int) (j : Nat) : (cM aa cI cZ cJ σ).set 4 (aa 4, .inl (cZ, 144, .inl (upd (fun j => xI (σ 4 j)) j (xI z)))) = cM aa cI cZ cJ (xU σ 4 j z) := by
  rw [xU_arr σ 4 j z]
  rfl
theorem cM_st_5 (aa : Nat → Nat) (cI cZ cJ : ClassId) (σ : xSt) (z : Int) (j : Nat) : (cM aa cI cZ cJ σ).set 5 (aa 5, .inl (cZ, 144, .inl (upd (fun j => xI (σ 5 j)) j (xI z)))) = cM aa cI cZ cJ (xU σ 5 j z) := by
  rw [xU_arr σ 5 j z]
  rfl
theorem cM_st_6 (aa : Nat → Nat) (cI cZ cJ : ClassId) (σ : xSt) (z : Int) (j : Nat) : (cM aa cI cZ cJ σ).set 6 (aa 6, .inl (cI, 144, .inl (upd (fun j => xI (σ 6 j)) j (xI z)))) = cM aa cI cZ cJ (xU σ 6 j z) := by
  rw [xU_arr σ 6 j z]
  rfl
theorem cM_st_7 (aa : Nat → Nat) (cI cZ cJ : ClassId) (σ : xSt) (z : Int) (j : Nat) : (cM aa cI cZ cJ σ).set 7 (aa 7, .inl (cI, 144, .inl (upd (fun j => xI (σ 7 j)) j (xI z)))) = cM aa cI cZ cJ (xU σ 7 j z) := by
  rw [xU_arr σ 7 j z]
  rfl
theorem cM_st_8 (aa : Nat → Nat) (cI cZ cJ : ClassId) (σ : xSt) (z : Int) (j : Nat) : (cM aa cI cZ cJ σ).set 8 (aa 8, .inl (cZ, 144, .inl (upd (fun j => xI (σ 8 j)) j (xI z)))) = cM aa cI cZ cJ (xU σ 8 j z) := by
  rw [xU_arr σ 8 j z]
  rfl
theorem cM_st_9 (aa : Nat → Nat) (cI cZ cJ : ClassId) (σ : xSt) (z : Int) (j : Nat) : (cM aa cI cZ cJ σ).set 9 (aa 9, .inl (cI, 300, .inl (upd (fun j => xI (σ 9 j)) j (xI z)))) = cM aa cI cZ cJ (xU σ 9 j z) := by
  rw [xU_arr σ 9 j z]
  rfl
theorem cM_st_10 (aa : Nat → Nat) (cI cZ cJ : ClassId) (σ : xSt) (z : Int) (j : Nat) : (cM aa cI cZ cJ σ).set 10 (aa 10, .inl (cZ, 9, .inl (upd (fun j => xI (σ 10 j)) j (xI z)))) = cM aa cI cZ cJ (xU σ 10 j z) := by
  rw [xU_arr σ 10 j z]
  rfl
theorem cM_st_11 (aa : Nat → Nat) (cI cZ cJ : ClassId) (σ : xSt) (z : Int) (j : Nat) : (cM aa cI cZ cJ σ).set 11 (aa 11, .inl (cI, 9, .inl (upd (fun j => xI (σ 11 j)) j (xI z)))) = cM aa cI cZ cJ (xU σ 11 j z) := by
  rw [xU_arr σ 11 j z]
  rfl
def wp_X6_steps (σ : xSt) (Post : Int → Prop) : Prop :=
  Post (σ 1 3)

def wp_X6_append (a1 : Int) (σ : xSt) (Post : xSt → Prop) : Prop :=
  xR (σ 1 3) ∧ (60 ≤ (σ 1 3) →
      Post σ) ∧
  ((σ 1 3) < 60 →
      xR a1 ∧ (a1 < 0 →
          Post σ) ∧
      (0 ≤ a1 →
          xR a1 ∧ (a1 < 8 →
              (0 ≤ (σ 1 3) ∧ (σ 1 3) < (60 : Nat)) ∧ ∀ σ_29 : xSt, σ_29 = xU σ 2 (((σ 1 3)).toNat) a1 →
              (0 ≤ (σ_29 1 3) ∧ (σ_29 1 3) < (61 : Nat)) ∧
              (0 ≤ a1 ∧ a1 < (8 : Nat)) ∧
              (0 ≤ ((σ_29 1 3) + 1) ∧ ((σ_29 1 3) + 1) < (61 : Nat)) ∧ ∀ σ_55 : xSt, σ_55 = xU σ_29 3 ((((σ_29 1 3) + 1)).toNat) ((σ_29 3 (σ_29 1 3).toNat) + (xRt (a1).toNat)) →
              (0 ≤ (σ_55 1 3) ∧ (σ_55 1 3) < (61 : Nat)) ∧
              (0 ≤ a1 ∧ a1 < (8 : Nat)) ∧
              (0 ≤ ((σ_55 1 3) + 1) ∧ ((σ_55 1 3) + 1) < (61 : Nat)) ∧ ∀ σ_81 : xSt, σ_81 = xU σ_55 4 ((((σ_55 1 3) + 1)).toNat) ((σ_55 4 (σ_55 1 3).toNat) + (xUp (a1).toNat)) →
              ∀ σ_89 : xSt, σ_89 = xU σ_81 1 3 ((σ_81 1 3) + 1) →
              Post σ_89) ∧
          (8 ≤ a1 →
              Post σ)))

def wp_X9_step (a1 : Int) (σ : xSt) (Post : Int → xSt → Prop) : Prop :=
  xR a1 ∧ (a1 < 0 →
      Post (-1002) σ) ∧
  (0 ≤ a1 →
      xR a1 ∧ (a1 < 8 →
          wp_X6_steps σ (fun r18 =>
          xR r18 ∧ (r18 < 60 →
              wp_X6_append a1 σ (fun t35 =>
              wp_X6_steps t35 (fun r42 =>
              Post r42 t35))) ∧
          (60 ≤ r18 →
              Post (-1004) σ))) ∧
      (8 ≤ a1 →
          Post (-1002) σ))

def wp_X6_shorten (a1 : Int) (σ : xSt) (Post : xSt → Prop) : Prop :=
  xR a1 ∧ (a1 < 0 →
      Post σ) ∧
  (0 ≤ a1 →
      xR a1 ∧ xR (σ 1 3) ∧ ((σ 1 3) < a1 →
          Post σ) ∧
      (a1 ≤ (σ 1 3) →
          ∀ σ_19 : xSt, σ_19 = xU σ 1 3 ((σ 1 3) - a1) →
          Post σ_19))

def wp_X9_back (a1 : Int) (σ : xSt) (Post : Int → xSt → Prop) : Prop :=
  xR a1 ∧ (a1 < 1 →
      Post (-1002) σ) ∧
  (1 ≤ a1 →
      xR a1 ∧ (a1 ≤ 60 →
          wp_X6_steps σ (fun r20 =>
          xR a1 ∧ xR r20 ∧ (a1 ≤ r20 →
              wp_X6_shorten a1 σ (fun t35 =>
              wp_X6_steps t35 (fun r42 =>
              Post r42 t35))) ∧
          (r20 < a1 →
              Post (-1003) σ))) ∧
      (60 < a1 →
          Post (-1002) σ))

def wp_X6_hasStep (a1 : Int) (σ : xSt) (Post : Int → Prop) : Prop :=
  xR a1 ∧ (a1 < 0 →
      Post 0) ∧
  (0 ≤ a1 →
      xR a1 ∧ xR (σ 1 3) ∧ ((σ 1 3) ≤ a1 →
          Post 0) ∧
      (a1 < (σ 1 3) →
          Post 1))

def wp_X6_wayOf (a1 : Int) (σ : xSt) (Post : Int → Prop) : Prop :=
  wp_X6_hasStep a1 σ (fun r2 =>
  xR r2 ∧ (r2 = 0 →
      Post 0) ∧
  (r2 ≠ 0 →
      (0 ≤ a1 ∧ a1 < (60 : Nat)) ∧
      Post (σ 2 (a1).toNat)))

def wp_X9_way (a1 : Int) (σ : xSt) (Post : Int → Prop) : Prop :=
  wp_X6_hasStep a1 σ (fun r5 =>
  xR r5 ∧ (r5 = 0 →
      Post (-1001)) ∧
  (r5 ≠ 0 →
      wp_X6_wayOf a1 σ (fun r16 =>
      Post r16)))

def wp_X6_hasPlace (a1 : Int) (σ : xSt) (Post : Int → Prop) : Prop :=
  xR a1 ∧ (a1 < 0 →
      Post 0) ∧
  (0 ≤ a1 →
      xR a1 ∧ xR (σ 1 3) ∧ ((σ 1 3) < a1 →
          Post 0) ∧
      (a1 ≤ (σ 1 3) →
          Post 1))

def wp_X6_yOf (a1 : Int) (σ : xSt) (Post : Int → Prop) : Prop :=
  wp_X6_hasPlace a1 σ (fun r2 =>
  xR r2 ∧ (r2 = 0 →
      Post 0) ∧
  (r2 ≠ 0 →
      (0 ≤ a1 ∧ a1 < (61 : Nat)) ∧
      Post (σ 4 (a1).toNat)))

def wp_X6_xOf (a1 : Int) (σ : xSt) (Post : Int → Prop) : Prop :=
  wp_X6_hasPlace a1 σ (fun r2 =>
  xR r2 ∧ (r2 = 0 →
      Post 0) ∧
  (r2 ≠ 0 →
      (0 ≤ a1 ∧ a1 < (61 : Nat)) ∧
      Post (σ 3 (a1).toNat)))

def wp_X9_place (a1 : Int) (a2 : Int) (σ : xSt) (Post : Int → Prop) : Prop :=
  wp_X6_hasPlace a1 σ (fun r5 =>
  xR r5 ∧ (r5 ≠ 0 →
      xR a2 ∧ (a2 = 0 →
          wp_X6_xOf a1 σ (fun r35 =>
          Post r35)) ∧
      (a2 ≠ 0 →
          wp_X6_yOf a1 σ (fun r24 =>
          Post r24))) ∧
  (r5 = 0 →
      Post (-1001)))

def wp_J9_floorDiv_7cf53 (a0 : Int) (a1 : Int) (σ : xSt) (Post : Int → Prop) : Prop :=
  xR a0 ∧ xR a1 ∧ a1 ≠ (0 : Int) ∧
  xR (xXor a0 a1) ∧ (0 ≤ (xXor a0 a1) →
      Post (Int.tdiv a0 a1)) ∧
  ((xXor a0 a1) < 0 →
      xR ((Int.tdiv a0 a1) * a1) ∧ xR a0 ∧ (((Int.tdiv a0 a1) * a1) = a0 →
          Post (Int.tdiv a0 a1)) ∧
      (((Int.tdiv a0 a1) * a1) ≠ a0 →
          Post ((Int.tdiv a0 a1) - 1)))

def wp_X6_nearest (a0 : Int) (a1 : Int) (σ : xSt) (Post : Int → Prop) : Prop :=
  xR a1 ∧ (a1 ≤ 0 →
      Post 0) ∧
  (0 < a1 →
      wp_J9_floorDiv_7cf53 ((2 * a0) + a1) (2 * a1) σ (fun r12 =>
      Post r12))

def wp_X6_wayBy (a0 : Int) (a1 : Int) (σ : xSt) (Post : Int → Prop) : Prop :=
  ∀ k2 : Int → Prop, (∀ (x2_2 : Int),
(      xR x2_2 ∧ (8 ≤ x2_2 →
          Post (-999)) ∧
      (x2_2 < 8 →
          (0 ≤ x2_2 ∧ x2_2 < (8 : Nat)) ∧
          xR (xRt (x2_2).toNat) ∧ xR a0 ∧ ((xRt (x2_2).toNat) ≠ a0 →
              k2 (x2_2 + 1)) ∧
          ((xRt (x2_2).toNat) = a0 →
              (0 ≤ x2_2 ∧ x2_2 < (8 : Nat)) ∧
              xR (xUp (x2_2).toNat) ∧ xR a1 ∧ ((xUp (x2_2).toNat) ≠ a1 →
                  k2 (x2_2 + 1)) ∧
              ((xUp (x2_2).toNat) = a1 →
                  Post x2_2)))) → k2 x2_2) →
  k2 0

def wp_X6_appendLine (a1 : Int) (a2 : Int) (a3 : Int) (σ : xSt) (Post : xSt → Prop) : Prop :=
  ∀ k9 : Int → Int → Int → xSt → Prop, (∀ (x4_9 x5_9 x6_9 : Int) (s9 : xSt),
(      xR x6_9 ∧ xR a3 ∧ (a3 < x6_9 →
          Post s9) ∧
      (x6_9 ≤ a3 →
          wp_X6_nearest (a1 * x6_9) a3 s9 (fun r20 =>
          wp_X6_nearest (a2 * x6_9) a3 s9 (fun r30 =>
          wp_X6_wayBy (r20 - x4_9) (r30 - x5_9) s9 (fun r46 =>
          wp_X6_append r46 s9 (fun t49 =>
          k9 r20 r30 (x6_9 + 1) t49)))))) → k9 x4_9 x5_9 x6_9 s9) →
  k9 0 0 1 σ

def wp_X9_draw (a1 : Int) (a2 : Int) (σ : xSt) (Post : Int → xSt → Prop) : Prop :=
  xR a1 ∧ (a1 < (-60) →
      Post (-1002) σ) ∧
  ((-60) ≤ a1 →
      xR a1 ∧ (60 < a1 →
          Post (-1002) σ) ∧
      (a1 ≤ 60 →
          xR a2 ∧ (a2 < (-60) →
              Post (-1002) σ) ∧
          ((-60) ≤ a2 →
              xR a2 ∧ (a2 ≤ 60 →
                  xR a1 ∧
                  xR a2 ∧
                  xR (xAbs a1) ∧ xR (xAbs a2) ∧
                  ∀ z3_39 : Int, z3_39 = (xMax (xAbs a1) (xAbs a2)) →
                  xR z3_39 ∧ (z3_39 ≠ 0 →
                      wp_X6_steps σ (fun r52 =>
                      xR (r52 + z3_39) ∧ ((r52 + z3_39) ≤ 60 →
                          wp_X6_appendLine a1 a2 z3_39 σ (fun t73 =>
                          wp_X6_steps t73 (fun r80 =>
                          Post r80 t73))) ∧
                      (60 < (r52 + z3_39) →
                          Post (-1004) σ))) ∧
                  (z3_39 = 0 →
                      Post (-1002) σ)) ∧
              (60 < a2 →
                  Post (-1002) σ))))

def wp_X9_word (a1 : Int) (a2 : Int) (a3 : Int) (σ : xSt) (Post : Int → Prop) : Prop :=
  xR a1 ∧ (a1 < 1 →
      Post (-1002)) ∧
  (1 ≤ a1 →
      xR a1 ∧ (60 < a1 →
          Post (-1002)) ∧
      (a1 ≤ 60 →
          xR a2 ∧ (a2 < 0 →
              Post (-1002)) ∧
          (0 ≤ a2 →
              xR a2 ∧ xR a1 ∧ (a1 < a2 →
                  Post (-1002)) ∧
              (a2 ≤ a1 →
                  xR a3 ∧ (a3 < 0 →
                      Post (-1002)) ∧
                  (0 ≤ a3 →
                      xR a3 ∧ xR a1 ∧ (a3 < a1 →
                          xR ((a3 + 1) * a2) ∧ xR a1 ∧ a1 ≠ (0 : Int) ∧
                          xR (a3 * a2) ∧ xR a1 ∧ a1 ≠ (0 : Int) ∧
                          xR (Int.tdiv ((a3 + 1) * a2) a1) ∧ xR (Int.tdiv (a3 * a2) a1) ∧ ((Int.tdiv ((a3 + 1) * a2) a1) ≤ (Int.tdiv (a3 * a2) a1) →
                              Post 0) ∧
                          ((Int.tdiv (a3 * a2) a1) < (Int.tdiv ((a3 + 1) * a2) a1) →
                              Post 1)) ∧
                      (a1 ≤ a3 →
                          Post (-1002)))))))

def wp_X9_refusalOfPiece (a1 : Int) (a2 : Int) (σ : xSt) (Post : Int → Prop) : Prop :=
  wp_X6_hasPlace a1 σ (fun r5 =>
  xR r5 ∧ (r5 = 0 →
      Post (-1001)) ∧
  (r5 ≠ 0 →
      wp_X6_hasPlace a2 σ (fun r16 =>
      xR r16 ∧ (r16 ≠ 0 →
          xR a2 ∧ xR a1 ∧ (a1 ≤ a2 →
              Post 0) ∧
          (a2 < a1 →
              Post (-1002))) ∧
      (r16 = 0 →
          Post (-1001)))))

def wp_X5_begin (σ : xSt) (Post : xSt → Prop) : Prop :=
  ∀ σ_2 : xSt, σ_2 = xU σ 5 1 0 →
  ∀ σ_7 : xSt, σ_7 = xU σ_2 5 2 0 →
  ∀ σ_12 : xSt, σ_12 = xU σ_7 5 3 (-1) →
  ∀ σ_17 : xSt, σ_17 = xU σ_12 5 4 1 →
  ∀ σ_22 : xSt, σ_22 = xU σ_17 5 5 2 →
  ∀ σ_27 : xSt, σ_27 = xU σ_22 5 6 1 →
  Post σ_27

def wp_X5_narrow (a1 : Int) (a2 : Int) (σ : xSt) (Post : xSt → Prop) : Prop :=
  ∀ k29 : xSt → Prop, (∀ (s29 : xSt),
(      xR ((a1 + 1) * (s29 5 6)) ∧ xR ((s29 5 5) * a2) ∧ (((s29 5 5) * a2) ≤ ((a1 + 1) * (s29 5 6)) →
          Post s29) ∧
      (((a1 + 1) * (s29 5 6)) < ((s29 5 5) * a2) →
          ∀ σ_50 : xSt, σ_50 = xU s29 5 5 (a1 + 1) →
          ∀ σ_55 : xSt, σ_55 = xU σ_50 5 6 a2 →
          Post σ_55)) → k29 s29) →
  xR ((a1 - 1) * (σ 5 4)) ∧ xR ((σ 5 3) * a2) ∧ (((a1 - 1) * (σ 5 4)) ≤ ((σ 5 3) * a2) →
      k29 σ) ∧
  (((σ 5 3) * a2) < ((a1 - 1) * (σ 5 4)) →
      ∀ σ_21 : xSt, σ_21 = xU σ 5 3 (a1 - 1) →
      ∀ σ_26 : xSt, σ_26 = xU σ_21 5 4 a2 →
      k29 σ_26)

def wp_X5_grow (a1 : Int) (σ : xSt) (Post : xSt → Prop) : Prop :=
  xR (σ 5 1) ∧ (60 ≤ (σ 5 1) →
      Post σ) ∧
  ((σ 5 1) < 60 →
      xR a1 ∧ (a1 < 0 →
          Post σ) ∧
      (0 ≤ a1 →
          xR a1 ∧ (a1 < 8 →
              ∀ σ_29 : xSt, σ_29 = xU σ 5 2 (xOr (σ 5 2) (xShl 1 a1)) →
              (0 ≤ (σ_29 5 1) ∧ (σ_29 5 1) < (61 : Nat)) ∧
              xR a1 ∧ xR 2 ∧ 2 ≠ (0 : Int) ∧
              (0 ≤ ((σ_29 5 1) + 1) ∧ ((σ_29 5 1) + 1) < (61 : Nat)) ∧ ∀ σ_55 : xSt, σ_55 = xU σ_29 6 ((((σ_29 5 1) + 1)).toNat) ((σ_29 6 (σ_29 5 1).toNat) + (Int.tmod a1 2)) →
              ∀ σ_63 : xSt, σ_63 = xU σ_55 5 1 ((σ_55 5 1) + 1) →
              ∀ k68 : Int → xSt → Prop, (∀ (x2_68 : Int) (s68 : xSt),
(                  xR x2_68 ∧ xR (s68 5 1) ∧ ((s68 5 1) ≤ x2_68 →
                      Post s68) ∧
                  (x2_68 < (s68 5 1) →
                      (0 ≤ (s68 5 1) ∧ (s68 5 1) < (61 : Nat)) ∧
                      (0 ≤ x2_68 ∧ x2_68 < (61 : Nat)) ∧
                      wp_X5_narrow ((s68 6 (s68 5 1).toNat) - (s68 6 (x2_68).toNat)) ((s68 5 1) - x2_68) s68 (fun t99 =>
                      k68 (x2_68 + 1) t99))) → k68 x2_68 s68) →
              k68 0 σ_63) ∧
          (8 ≤ a1 →
              Post σ)))

def wp_X5_measure (a2 : Int) (a3 : Int) (σ : xSt) (Post : xSt → Prop) : Prop :=
  wp_X5_begin σ (fun t1 =>
  ∀ k7 : Int → xSt → Prop, (∀ (x4_7 : Int) (s7 : xSt),
(      xR x4_7 ∧ xR a3 ∧ (a3 ≤ x4_7 →
          Post s7) ∧
      (x4_7 < a3 →
          wp_X6_wayOf x4_7 s7 (fun r17 =>
          wp_X5_grow r17 s7 (fun t20 =>
          k7 (x4_7 + 1) t20)))) → k7 x4_7 s7) →
  k7 a2 t1)

def wp_X5_waysFit (σ : xSt) (Post : Int → Prop) : Prop :=
  ∀ k2 : Int → Prop, (∀ (x1_2 : Int),
(      xR x1_2 ∧ (8 ≤ x1_2 →
          Post 0) ∧
      (x1_2 < 8 →
          xR (x1_2 + 1) ∧ xR 8 ∧ 8 ≠ (0 : Int) ∧
          ∀ z2_20 : Int, z2_20 = (xOr (xShl 1 x1_2) (xShl 1 (Int.tmod (x1_2 + 1) 8))) →
          xR (xAnd (σ 5 2) (xXor z2_20 (-1))) ∧ ((xAnd (σ 5 2) (xXor z2_20 (-1))) ≠ 0 →
              k2 (x1_2 + 1)) ∧
          ((xAnd (σ 5 2) (xXor z2_20 (-1))) = 0 →
              Post 1))) → k2 x1_2) →
  k2 0

def wp_X5_isStraight (σ : xSt) (Post : Int → Prop) : Prop :=
  xR ((σ 5 3) * (σ 5 6)) ∧ xR ((σ 5 5) * (σ 5 4)) ∧ (((σ 5 5) * (σ 5 4)) ≤ ((σ 5 3) * (σ 5 6)) →
      Post 0) ∧
  (((σ 5 3) * (σ 5 6)) < ((σ 5 5) * (σ 5 4)) →
      wp_X5_waysFit σ (fun r22 =>
      xR r22 ∧ (r22 = 0 →
          Post 0) ∧
      (r22 ≠ 0 →
          Post 1)))

def wp_X9_straight (a1 : Int) (a2 : Int) (σ : xSt) (Post : Int → xSt → Prop) : Prop :=
  wp_X9_refusalOfPiece a1 a2 σ (fun r3 =>
  xR r3 ∧ (r3 = 0 →
      wp_X5_measure a1 a2 σ (fun t23 =>
      wp_X5_isStraight t23 (fun r30 =>
      xR r30 ∧ (r30 = 0 →
          Post 0 t23) ∧
      (r30 ≠ 0 →
          Post 1 t23)))) ∧
  (r3 ≠ 0 →
      Post r3 σ))

def wp_X5_commonDivisor (a0 : Int) (a1 : Int) (σ : xSt) (Post : Int → Prop) : Prop :=
  ∀ k7 : Int → Int → Int → Prop, (∀ (x2_7 x3_7 x4_7 : Int),
(      xR x4_7 ∧ (120 ≤ x4_7 →
          Post x2_7) ∧
      (x4_7 < 120 →
          xR x3_7 ∧ (x3_7 = 0 →
              Post x2_7) ∧
          (x3_7 ≠ 0 →
              xR x2_7 ∧ xR x3_7 ∧ x3_7 ≠ (0 : Int) ∧
              k7 x3_7 (Int.tmod x2_7 x3_7) (x4_7 + 1)))) → k7 x2_7 x3_7 x4_7) →
  k7 a0 a1 0

def wp_X5_inLeastTerms (a0 : Int) (a1 : Int) (a2 : Int) (σ : xSt) (Post : Int → Prop) : Prop :=
  xR a0 ∧
  wp_X5_commonDivisor (xAbs a0) a1 σ (fun r5 =>
  xR r5 ∧ (0 < r5 →
      xR a2 ∧ (a2 = 0 →
          xR a1 ∧ xR r5 ∧ r5 ≠ (0 : Int) ∧
          Post (Int.tdiv a1 r5)) ∧
      (a2 ≠ 0 →
          xR a0 ∧ xR r5 ∧ r5 ≠ (0 : Int) ∧
          Post (Int.tdiv a0 r5))) ∧
  (r5 ≤ 0 →
      Post (-1003)))

def wp_X5_highEnd (a1 : Int) (σ : xSt) (Post : Int → Prop) : Prop :=
  wp_X5_inLeastTerms (σ 5 5) (σ 5 6) a1 σ (fun r9 =>
  Post r9)

def wp_X5_lowEnd (a1 : Int) (σ : xSt) (Post : Int → Prop) : Prop :=
  wp_X5_inLeastTerms (σ 5 3) (σ 5 4) a1 σ (fun r9 =>
  Post r9)

def wp_X9_span (a1 : Int) (a2 : Int) (a3 : Int) (a4 : Int) (σ : xSt) (Post : Int → xSt → Prop) : Prop :=
  wp_X9_refusalOfPiece a1 a2 σ (fun r3 =>
  xR r3 ∧ (r3 = 0 →
      wp_X5_measure a1 a2 σ (fun t26 =>
      wp_X5_waysFit t26 (fun r33 =>
      xR r33 ∧ (r33 ≠ 0 →
          xR a3 ∧ (a3 = 0 →
              wp_X5_lowEnd a4 t26 (fun r65 =>
              Post r65 t26)) ∧
          (a3 ≠ 0 →
              wp_X5_highEnd a4 t26 (fun r53 =>
              Post r53 t26))) ∧
      (r33 = 0 →
          Post (-1003) t26)))) ∧
  (r3 ≠ 0 →
      Post r3 σ))

def wp_X5_plainSlope (a1 : Int) (σ : xSt) (Post : Int → Prop) : Prop :=
  ∀ k4 : Int → Int → Prop, (∀ (x2_4 x3_4 : Int),
(      ∀ k10 : Int → Prop, (∀ (x2_10 : Int),
(          ∀ k36 : Prop, (
(              xR x2_10 ∧ xR x3_4 ∧ (x3_4 < x2_10 →
                  k4 x2_10 (x3_4 + 1)) ∧
              (x2_10 ≤ x3_4 →
                  xR (x2_10 * (σ 5 6)) ∧ xR ((σ 5 5) * x3_4) ∧ (((σ 5 5) * x3_4) ≤ (x2_10 * (σ 5 6)) →
                      k4 x2_10 (x3_4 + 1)) ∧
                  ((x2_10 * (σ 5 6)) < ((σ 5 5) * x3_4) →
                      xR a1 ∧ (a1 = 0 →
                          Post x3_4) ∧
                      (a1 ≠ 0 →
                          Post x2_10)))) → k36) →
          xR x2_10 ∧ xR x3_4 ∧ (x3_4 < x2_10 →
              k36) ∧
          (x2_10 ≤ x3_4 →
              xR (x2_10 * (σ 5 4)) ∧ xR ((σ 5 3) * x3_4) ∧ (((σ 5 3) * x3_4) < (x2_10 * (σ 5 4)) →
                  k36) ∧
              ((x2_10 * (σ 5 4)) ≤ ((σ 5 3) * x3_4) →
                  k10 (x2_10 + 1)))) → k10 x2_10) →
      xR x3_4 ∧ (120 < x3_4 →
          Post (-1003)) ∧
      (x3_4 ≤ 120 →
          k10 x2_4)) → k4 x2_4 x3_4) →
  k4 0 1

def wp_X9_plain (a1 : Int) (a2 : Int) (a3 : Int) (σ : xSt) (Post : Int → xSt → Prop) : Prop :=
  wp_X9_refusalOfPiece a1 a2 σ (fun r3 =>
  xR r3 ∧ (r3 = 0 →
      wp_X5_measure a1 a2 σ (fun t26 =>
      wp_X5_isStraight t26 (fun r33 =>
      xR r33 ∧ (r33 ≠ 0 →
          wp_X5_plainSlope a3 t26 (fun r48 =>
          Post r48 t26)) ∧
      (r33 = 0 →
          Post (-1003) t26)))) ∧
  (r3 ≠ 0 →
      Post r3 σ))

def wp_X5_farthest (a2 : Int) (σ : xSt) (Post : Int → xSt → Prop) : Prop :=
  wp_X5_begin σ (fun t1 =>
  ∀ k6 : Int → xSt → Prop, (∀ (x3_6 : Int) (s6 : xSt),
(      wp_X6_steps s6 (fun r8 =>
      xR x3_6 ∧ xR r8 ∧ (r8 ≤ x3_6 →
          Post x3_6 s6) ∧
      (x3_6 < r8 →
          wp_X6_wayOf x3_6 s6 (fun r17 =>
          wp_X5_grow r17 s6 (fun t20 =>
          wp_X5_isStraight t20 (fun r24 =>
          xR r24 ∧ (r24 ≠ 0 →
              k6 (x3_6 + 1) t20) ∧
          (r24 = 0 →
              Post x3_6 t20))))))) → k6 x3_6 s6) →
  k6 a2 t1)

def wp_X9_longest (a1 : Int) (σ : xSt) (Post : Int → xSt → Prop) : Prop :=
  ∀ k7 : Int → Int → Int → xSt → Prop, (∀ (x2_7 x3_7 x4_7 : Int) (s7 : xSt),
(      wp_X6_steps s7 (fun r15 =>
      xR (x4_7 + x2_7) ∧ xR r15 ∧ (r15 ≤ (x4_7 + x2_7) →
          xR a1 ∧ (a1 = 0 →
              Post x2_7 s7) ∧
          (a1 ≠ 0 →
              Post x3_7 s7)) ∧
      ((x4_7 + x2_7) < r15 →
          wp_X5_farthest x4_7 s7 (fun r31 t31 =>
          xR (r31 - x4_7) ∧ xR x2_7 ∧ ((r31 - x4_7) ≤ x2_7 →
              k7 x2_7 x3_7 (x4_7 + 1) t31) ∧
          (x2_7 < (r31 - x4_7) →
              k7 (r31 - x4_7) x4_7 (x4_7 + 1) t31))))) → k7 x2_7 x3_7 x4_7 s7) →
  k7 0 0 0 σ

def wp_X9_pieces (σ : xSt) (Post : Int → xSt → Prop) : Prop :=
  ∀ k4 : Int → Int → xSt → Prop, (∀ (x1_4 x2_4 : Int) (s4 : xSt),
(      wp_X6_steps s4 (fun r9 =>
      xR x2_4 ∧ xR r9 ∧ (r9 ≤ x2_4 →
          Post x1_4 s4) ∧
      (x2_4 < r9 →
          xR x1_4 ∧ (60 ≤ x1_4 →
              Post x1_4 s4) ∧
          (x1_4 < 60 →
              wp_X5_farthest x2_4 s4 (fun r30 t30 =>
              k4 (x1_4 + 1) r30 t30))))) → k4 x1_4 x2_4 s4) →
  k4 0 0 σ

def wp_X9_pieceEnd (a1 : Int) (σ : xSt) (Post : Int → xSt → Prop) : Prop :=
  ∀ k4 : Int → Int → xSt → Prop, (∀ (x2_4 x3_4 : Int) (s4 : xSt),
(      xR x3_4 ∧ (60 ≤ x3_4 →
          Post (-999) s4) ∧
      (x3_4 < 60 →
          wp_X6_steps s4 (fun r15 =>
          xR x2_4 ∧ xR r15 ∧ (r15 ≤ x2_4 →
              Post (-999) s4) ∧
          (x2_4 < r15 →
              wp_X5_farthest x2_4 s4 (fun r30 t30 =>
              xR x3_4 ∧ xR a1 ∧ (x3_4 ≠ a1 →
                  k4 r30 (x3_4 + 1) t30) ∧
              (x3_4 = a1 →
                  Post r30 t30)))))) → k4 x2_4 x3_4 s4) →
  k4 0 0 σ

def wp_X2_lay (a1 : Int) (a2 : Int) (σ : xSt) (Post : xSt → Prop) : Prop :=
  ∀ σ_2 : xSt, σ_2 = xU σ 7 1 a1 →
  ∀ σ_7 : xSt, σ_7 = xU σ_2 7 2 a2 →
  ∀ k12 : Int → xSt → Prop, (∀ (x3_12 : Int) (s12 : xSt),
(      xR x3_12 ∧ (144 ≤ x3_12 →
          Post s12) ∧
      (x3_12 < 144 →
          (0 ≤ x3_12 ∧ x3_12 < (144 : Nat)) ∧ ∀ σ_25 : xSt, σ_25 = xU s12 8 ((x3_12).toNat) 0 →
          k12 (x3_12 + 1) σ_25)) → k12 x3_12 s12) →
  k12 0 σ_7

def wp_X2_fields (σ : xSt) (Post : Int → Prop) : Prop :=
  Post ((σ 7 1) * (σ 7 2))

def wp_X9_ground (a1 : Int) (a2 : Int) (σ : xSt) (Post : Int → xSt → Prop) : Prop :=
  xR a1 ∧ (a1 < 1 →
      Post (-1002) σ) ∧
  (1 ≤ a1 →
      xR a1 ∧ (12 < a1 →
          Post (-1002) σ) ∧
      (a1 ≤ 12 →
          xR a2 ∧ (a2 < 1 →
              Post (-1002) σ) ∧
          (1 ≤ a2 →
              xR a2 ∧ (a2 ≤ 12 →
                  wp_X2_lay a1 a2 σ (fun t32 =>
                  wp_X2_fields t32 (fun r39 =>
                  Post r39 t32))) ∧
              (12 < a2 →
                  Post (-1002) σ))))

def wp_X2_knows (a1 : Int) (σ : xSt) (Post : Int → Prop) : Prop :=
  xR a1 ∧ (a1 < 0 →
      Post 0) ∧
  (0 ≤ a1 →
      wp_X2_fields σ (fun r6 =>
      xR a1 ∧ xR r6 ∧ (r6 ≤ a1 →
          Post 0) ∧
      (a1 < r6 →
          Post 1)))

def wp_X2_holds (a1 : Int) (σ : xSt) (Post : Int → Prop) : Prop :=
  wp_X2_knows a1 σ (fun r2 =>
  xR r2 ∧ (r2 = 0 →
      Post 0) ∧
  (r2 ≠ 0 →
      (0 ≤ a1 ∧ a1 < (144 : Nat)) ∧
      xR (σ 8 (a1).toNat) ∧ ((σ 8 (a1).toNat) = 0 →
          Post 0) ∧
      ((σ 8 (a1).toNat) ≠ 0 →
          Post 1)))

def wp_X2_put (a1 : Int) (a2 : Int) (σ : xSt) (Post : xSt → Prop) : Prop :=
  wp_X2_knows a1 σ (fun r2 =>
  xR r2 ∧ (r2 = 0 →
      Post σ) ∧
  (r2 ≠ 0 →
      (0 ≤ a1 ∧ a1 < (144 : Nat)) ∧ (a2 = 0 ∨ a2 = 1) ∧ ∀ σ_14 : xSt, σ_14 = xU σ 8 ((a1).toNat) a2 →
      Post σ_14))

def wp_X9_set (a1 : Int) (a2 : Int) (σ : xSt) (Post : Int → xSt → Prop) : Prop :=
  wp_X2_knows a1 σ (fun r5 =>
  xR r5 ∧ (r5 ≠ 0 →
      wp_X2_holds a1 σ (fun r20 =>
      ∀ k31 : Int → Prop, (∀ (y0_31 : Int),
(          wp_X2_put a1 a2 σ (fun t38 =>
          Post y0_31 t38)) → k31 y0_31) →
      xR r20 ∧ (r20 = 0 →
          k31 0) ∧
      (r20 ≠ 0 →
          k31 1))) ∧
  (r5 = 0 →
      Post (-1001) σ))

def wp_X9_has (a1 : Int) (σ : xSt) (Post : Int → Prop) : Prop :=
  wp_X2_knows a1 σ (fun r5 =>
  xR r5 ∧ (r5 ≠ 0 →
      wp_X2_holds a1 σ (fun r20 =>
      xR r20 ∧ (r20 = 0 →
          Post 0) ∧
      (r20 ≠ 0 →
          Post 1))) ∧
  (r5 = 0 →
      Post (-1001)))

def wp_X2_columnOf (a1 : Int) (σ : xSt) (Post : Int → Prop) : Prop :=
  xR (σ 7 1) ∧ ((σ 7 1) ≤ 0 →
      Post 0) ∧
  (0 < (σ 7 1) →
      xR a1 ∧ xR (σ 7 1) ∧ (σ 7 1) ≠ (0 : Int) ∧
      Post (Int.tmod a1 (σ 7 1)))

def wp_X2_lineOf (a1 : Int) (σ : xSt) (Post : Int → Prop) : Prop :=
  xR (σ 7 1) ∧ ((σ 7 1) ≤ 0 →
      Post 0) ∧
  (0 < (σ 7 1) →
      xR a1 ∧ xR (σ 7 1) ∧ (σ 7 1) ≠ (0 : Int) ∧
      Post (Int.tdiv a1 (σ 7 1)))

def wp_X2_fieldAt (a1 : Int) (a2 : Int) (σ : xSt) (Post : Int → Prop) : Prop :=
  xR a1 ∧ (a1 < 0 →
      Post (-999)) ∧
  (0 ≤ a1 →
      xR a1 ∧ xR (σ 7 1) ∧ ((σ 7 1) ≤ a1 →
          Post (-999)) ∧
      (a1 < (σ 7 1) →
          xR a2 ∧ (a2 < 0 →
              Post (-999)) ∧
          (0 ≤ a2 →
              xR a2 ∧ xR (σ 7 2) ∧ ((σ 7 2) ≤ a2 →
                  Post (-999)) ∧
              (a2 < (σ 7 2) →
                  Post ((a2 * (σ 7 1)) + a1)))))

def wp_X8_follow (a3 : Int) (σ : xSt) (Post : Int → xSt → Prop) : Prop :=
  ∀ k3 : Int → xSt → Prop, (∀ (x4_3 : Int) (s3 : xSt),
(      xR x4_3 ∧ (144 ≤ x4_3 →
          wp_X2_columnOf a3 s3 (fun r27 =>
          wp_X2_lineOf a3 s3 (fun r34 =>
          ∀ k42 : Int → xSt → Prop, (∀ (x6_42 : Int) (s42 : xSt),
(              wp_X6_steps s42 (fun r45 =>
              xR x6_42 ∧ xR r45 ∧ (r45 < x6_42 →
                  Post 1 s42) ∧
              (x6_42 ≤ r45 →
                  wp_X6_xOf x6_42 s42 (fun r57 =>
                  wp_X6_yOf x6_42 s42 (fun r66 =>
                  wp_X2_fieldAt (r27 + r57) (r34 + r66) s42 (fun r70 =>
                  wp_X2_knows r70 s42 (fun r78 =>
                  xR r78 ∧ (r78 ≠ 0 →
                      (0 ≤ r70 ∧ r70 < (144 : Nat)) ∧ ∀ σ_93 : xSt, σ_93 = xU s42 14 ((r70).toNat) 1 →
                      k42 (x6_42 + 1) σ_93) ∧
                  (r78 = 0 →
                      Post 0 s42)))))))) → k42 x6_42 s42) →
          k42 0 s3))) ∧
      (x4_3 < 144 →
          (0 ≤ x4_3 ∧ x4_3 < (144 : Nat)) ∧ ∀ σ_18 : xSt, σ_18 = xU s3 14 ((x4_3).toNat) 0 →
          k3 (x4_3 + 1) σ_18)) → k3 x4_3 s3) →
  k3 0 σ

def wp_X6_comesBack (σ : xSt) (Post : Int → Prop) : Prop :=
  wp_X6_xOf (σ 1 3) σ (fun r5 =>
  xR r5 ∧ (r5 ≠ 0 →
      Post 0) ∧
  (r5 = 0 →
      wp_X6_yOf (σ 1 3) σ (fun r16 =>
      xR r16 ∧ (r16 ≠ 0 →
          Post 0) ∧
      (r16 = 0 →
          Post 1))))

def wp_X4_gather (ka : Nat) (a3 : Int) (a4 : Int) (σ : xSt) (Post : xSt → Prop) : Prop :=
  (0 ≤ a3 ∧ a3 < (144 : Nat)) ∧ ∀ σ_6 : xSt, σ_6 = xU σ 10 ((a3).toNat) a3 →
  ∀ σ_13 : xSt, σ_13 = xU σ_6 11 0 a3 →
  ∀ k20 : Int → Int → xSt → Prop, (∀ (x5_20 x6_20 : Int) (s20 : xSt),
(      xR x6_20 ∧ xR x5_20 ∧ (x5_20 ≤ x6_20 →
          Post s20) ∧
      (x6_20 < x5_20 →
          xR x6_20 ∧ (144 ≤ x6_20 →
              Post s20) ∧
          (x6_20 < 144 →
              (0 ≤ x6_20 ∧ x6_20 < (144 : Nat)) ∧
              wp_X2_columnOf (s20 11 (x6_20).toNat) s20 (fun r43 =>
              (0 ≤ x6_20 ∧ x6_20 < (144 : Nat)) ∧
              wp_X2_lineOf (s20 11 (x6_20).toNat) s20 (fun r56 =>
              ∀ k64 : Int → Int → xSt → Prop, (∀ (x5_64 x9_64 : Int) (s64 : xSt),
(                  xR x9_64 ∧ (8 ≤ x9_64 →
                      k20 x5_64 (x6_20 + 1) s64) ∧
                  (x9_64 < 8 →
                      (0 ≤ x9_64 ∧ x9_64 < (8 : Nat)) ∧
                      (0 ≤ x9_64 ∧ x9_64 < (8 : Nat)) ∧
                      wp_X2_fieldAt (r43 + (xRt (x9_64).toNat)) (r56 + (xUp (x9_64).toNat)) s64 (fun r90 =>
                      wp_X2_knows r90 s64 (fun r98 =>
                      ∀ k132 : Int → Prop, (∀ (y0_132 : Int),
(                          ∀ k167 : Int → xSt → Prop, (∀ (x5_167 : Int) (s167 : xSt),
(                              xR a4 ∧ (a4 = 0 →
                                  k64 x5_167 (x9_64 + 2) s167) ∧
                              (a4 ≠ 0 →
                                  k64 x5_167 (x9_64 + 1) s167)) → k167 x5_167 s167) →
                          xR y0_132 ∧ (y0_132 = 0 →
                              k167 x5_64 s64) ∧
                          (y0_132 ≠ 0 →
                              xR x5_64 ∧ (144 ≤ x5_64 →
                                  k167 x5_64 s64) ∧
                              (x5_64 < 144 →
                                  (0 ≤ r90 ∧ r90 < (144 : Nat)) ∧ ∀ σ_154 : xSt, σ_154 = xU s64 10 ((r90).toNat) a3 →
                                  (0 ≤ x5_64 ∧ x5_64 < (144 : Nat)) ∧ ∀ σ_163 : xSt, σ_163 = xU σ_154 11 ((x5_64).toNat) r90 →
                                  k167 (x5_64 + 1) σ_163))) → k132 y0_132) →
                      xR r98 ∧ (r98 = 0 →
                          k132 0) ∧
                      (r98 ≠ 0 →
                          (0 ≤ r90 ∧ r90 < (144 : Nat)) ∧
                          (0 ≤ a3 ∧ a3 < (144 : Nat)) ∧
                          xR (s64 ka (r90).toNat) ∧ xR (s64 ka (a3).toNat) ∧ ((s64 ka (r90).toNat) ≠ (s64 ka (a3).toNat) →
                              k132 0) ∧
                          ((s64 ka (r90).toNat) = (s64 ka (a3).toNat) →
                              (0 ≤ r90 ∧ r90 < (144 : Nat)) ∧
                              xR (s64 10 (r90).toNat) ∧ ((s64 10 (r90).toNat) ≠ (-999) →
                                  k132 0) ∧
                              ((s64 10 (r90).toNat) = (-999) →
                                  k132 1))))))) → k64 x5_64 x9_64 s64) →
              k64 x5_20 0 s20))))) → k20 x5_20 x6_20 s20) →
  k20 1 0 σ_13

def wp_X4_split (ka : Nat) (a3 : Int) (a4 : Int) (σ : xSt) (Post : Int → xSt → Prop) : Prop :=
  wp_X2_fields σ (fun r1 =>
  xR r1 ∧ xR 144 ∧
  ∀ k14 : Int → xSt → Prop, (∀ (x6_14 : Int) (s14 : xSt),
(      xR x6_14 ∧ xR (xMin r1 144) ∧ ((xMin r1 144) ≤ x6_14 →
          ∀ k43 : Int → Int → xSt → Prop, (∀ (x6_43 x7_43 : Int) (s43 : xSt),
(              xR x7_43 ∧ xR (xMin r1 144) ∧ ((xMin r1 144) ≤ x7_43 →
                  Post x6_43 s43) ∧
              (x7_43 < (xMin r1 144) →
                  (0 ≤ x7_43 ∧ x7_43 < (144 : Nat)) ∧
                  xR (s43 ka (x7_43).toNat) ∧ xR a3 ∧ ((s43 ka (x7_43).toNat) ≠ a3 →
                      k43 x6_43 (x7_43 + 1) s43) ∧
                  ((s43 ka (x7_43).toNat) = a3 →
                      (0 ≤ x7_43 ∧ x7_43 < (144 : Nat)) ∧
                      xR (s43 10 (x7_43).toNat) ∧ ((s43 10 (x7_43).toNat) ≠ (-999) →
                          k43 x6_43 (x7_43 + 1) s43) ∧
                      ((s43 10 (x7_43).toNat) = (-999) →
                          wp_X4_gather ka x7_43 a4 s43 (fun t78 =>
                          k43 (x6_43 + 1) (x7_43 + 1) t78))))) → k43 x6_43 x7_43 s43) →
          k43 0 0 s14) ∧
      (x6_14 < (xMin r1 144) →
          (0 ≤ x6_14 ∧ x6_14 < (144 : Nat)) ∧ ∀ σ_30 : xSt, σ_30 = xU s14 10 ((x6_14).toNat) (-999) →
          k14 (x6_14 + 1) σ_30)) → k14 x6_14 s14) →
  k14 0 σ)

def wp_X2_onEdge (a1 : Int) (σ : xSt) (Post : Int → Prop) : Prop :=
  wp_X2_columnOf a1 σ (fun r2 =>
  wp_X2_lineOf a1 σ (fun r8 =>
  xR r2 ∧ (r2 = 0 →
      Post 1) ∧
  (r2 ≠ 0 →
      xR r8 ∧ (r8 = 0 →
          Post 1) ∧
      (r8 ≠ 0 →
          xR r2 ∧ xR ((σ 7 1) - 1) ∧ (r2 = ((σ 7 1) - 1) →
              Post 1) ∧
          (r2 ≠ ((σ 7 1) - 1) →
              xR r8 ∧ xR ((σ 7 2) - 1) ∧ (r8 ≠ ((σ 7 2) - 1) →
                  Post 0) ∧
              (r8 = ((σ 7 2) - 1) →
                  Post 1))))))

def wp_X4_findOpen (σ : xSt) (Post : xSt → Prop) : Prop :=
  ∀ k2 : Int → xSt → Prop, (∀ (x2_2 : Int) (s2 : xSt),
(      wp_X2_fields s2 (fun r4 =>
      xR x2_2 ∧ xR r4 ∧ (r4 ≤ x2_2 →
          ∀ k25 : Int → xSt → Prop, (∀ (x2_25 : Int) (s25 : xSt),
(              wp_X2_fields s25 (fun r27 =>
              xR x2_25 ∧ xR r27 ∧ (r27 ≤ x2_25 →
                  Post s25) ∧
              (x2_25 < r27 →
                  (0 ≤ x2_25 ∧ x2_25 < (144 : Nat)) ∧
                  xR (s25 10 (x2_25).toNat) ∧ ((s25 10 (x2_25).toNat) < 0 →
                      k25 (x2_25 + 1) s25) ∧
                  (0 ≤ (s25 10 (x2_25).toNat) →
                      xR (s25 10 (x2_25).toNat) ∧ (144 ≤ (s25 10 (x2_25).toNat) →
                          k25 (x2_25 + 1) s25) ∧
                      ((s25 10 (x2_25).toNat) < 144 →
                          wp_X2_onEdge x2_25 s25 (fun r53 =>
                          xR r53 ∧ (r53 = 0 →
                              k25 (x2_25 + 1) s25) ∧
                          (r53 ≠ 0 →
                              (0 ≤ (s25 10 (x2_25).toNat) ∧ (s25 10 (x2_25).toNat) < (144 : Nat)) ∧ ∀ σ_65 : xSt, σ_65 = xU s25 12 (((s25 10 (x2_25).toNat)).toNat) 1 →
                              k25 (x2_25 + 1) σ_65))))))) → k25 x2_25 s25) →
          k25 0 s2) ∧
      (x2_2 < r4 →
          (0 ≤ x2_2 ∧ x2_2 < (144 : Nat)) ∧ ∀ σ_16 : xSt, σ_16 = xU s2 12 ((x2_2).toNat) 0 →
          k2 (x2_2 + 1) σ_16))) → k2 x2_2 s2) →
  k2 0 σ

def wp_X4_leastOf (a1 : Int) (σ : xSt) (Post : Int → Prop) : Prop :=
  xR a1 ∧ (a1 < 0 →
      Post (-999)) ∧
  (0 ≤ a1 →
      xR a1 ∧ (144 ≤ a1 →
          Post (-999)) ∧
      (a1 < 144 →
          (0 ≤ a1 ∧ a1 < (144 : Nat)) ∧
          Post (σ 10 (a1).toNat)))

def wp_X4_comesToEdge (a1 : Int) (σ : xSt) (Post : Int → Prop) : Prop :=
  wp_X4_leastOf a1 σ (fun r2 =>
  xR r2 ∧ (r2 < 0 →
      Post 0) ∧
  (0 ≤ r2 →
      xR r2 ∧ (144 ≤ r2 →
          Post 0) ∧
      (r2 < 144 →
          (0 ≤ r2 ∧ r2 < (144 : Nat)) ∧
          xR (σ 12 (r2).toNat) ∧ ((σ 12 (r2).toNat) = 0 →
              Post 0) ∧
          ((σ 12 (r2).toNat) ≠ 0 →
              Post 1))))

def wp_X8_shutIn (σ : xSt) (Post : xSt → Prop) : Prop :=
  wp_X4_split 14 0 0 σ (fun r8 t8 =>
  wp_X4_findOpen t8 (fun t14 =>
  ∀ k19 : Int → xSt → Prop, (∀ (x3_19 : Int) (s19 : xSt),
(      wp_X2_fields s19 (fun r21 =>
      xR x3_19 ∧ xR r21 ∧ (r21 ≤ x3_19 →
          Post s19) ∧
      (x3_19 < r21 →
          wp_X4_comesToEdge x3_19 s19 (fun r29 =>
          xR r29 ∧ (r29 ≠ 0 →
              k19 (x3_19 + 1) s19) ∧
          (r29 = 0 →
              (0 ≤ x3_19 ∧ x3_19 < (144 : Nat)) ∧ ∀ σ_41 : xSt, σ_41 = xU s19 14 ((x3_19).toNat) 1 →
              k19 (x3_19 + 1) σ_41))))) → k19 x3_19 s19) →
  k19 0 t14))

def wp_X8_pourInto (σ : xSt) (Post : xSt → Prop) : Prop :=
  ∀ k2 : Int → xSt → Prop, (∀ (x2_2 : Int) (s2 : xSt),
(      wp_X2_fields s2 (fun r4 =>
      xR x2_2 ∧ xR r4 ∧ (r4 ≤ x2_2 →
          Post s2) ∧
      (x2_2 < r4 →
          (0 ≤ x2_2 ∧ x2_2 < (144 : Nat)) ∧
          xR (s2 14 (x2_2).toNat) ∧ ((s2 14 (x2_2).toNat) = 0 →
              k2 (x2_2 + 1) s2) ∧
          ((s2 14 (x2_2).toNat) ≠ 0 →
              wp_X2_put x2_2 1 s2 (fun t22 =>
              k2 (x2_2 + 1) t22))))) → k2 x2_2 s2) →
  k2 0 σ

def wp_X2_heapSize (σ : xSt) (Post : Int → Prop) : Prop :=
  ∀ k4 : Int → Int → Prop, (∀ (x1_4 x2_4 : Int),
(      wp_X2_fields σ (fun r6 =>
      xR x2_4 ∧ xR r6 ∧ (r6 ≤ x2_4 →
          Post x1_4) ∧
      (x2_4 < r6 →
          wp_X2_holds x2_4 σ (fun r14 =>
          xR r14 ∧ (r14 = 0 →
              k4 x1_4 (x2_4 + 1)) ∧
          (r14 ≠ 0 →
              k4 (x1_4 + 1) (x2_4 + 1)))))) → k4 x1_4 x2_4) →
  k4 0 0

def wp_X9_fill (a1 : Int) (a2 : Int) (σ : xSt) (Post : Int → xSt → Prop) : Prop :=
  wp_X2_knows a1 σ (fun r5 =>
  xR r5 ∧ (r5 ≠ 0 →
      wp_X8_follow a1 σ (fun r28 t28 =>
      xR r28 ∧ (r28 ≠ 0 →
          ∀ k56 : Prop, (
(              ∀ k75 : xSt → Prop, (∀ (s75 : xSt),
(                  wp_X8_pourInto s75 (fun t83 =>
                  wp_X2_heapSize t83 (fun r90 =>
                  Post r90 t83))) → k75 s75) →
              xR a2 ∧ (a2 = 0 →
                  k75 t28) ∧
              (a2 ≠ 0 →
                  wp_X8_shutIn t28 (fun t72 =>
                  k75 t72))) → k56) →
          xR a2 ∧ (a2 = 0 →
              k56) ∧
          (a2 ≠ 0 →
              wp_X6_comesBack t28 (fun r46 =>
              xR r46 ∧ (r46 ≠ 0 →
                  k56) ∧
              (r46 = 0 →
                  Post (-1003) t28)))) ∧
      (r28 = 0 →
          Post (-1002) t28))) ∧
  (r5 = 0 →
      Post (-1001) σ))

def wp_X2_members (σ : xSt) (Post : Prop) : Prop :=
  Post

def wp_X4_shutParts (σ : xSt) (Post : Int → xSt → Prop) : Prop :=
  wp_X4_findOpen σ (fun t2 =>
  ∀ k9 : Int → Int → Prop, (∀ (x2_9 x3_9 : Int),
(      wp_X2_fields t2 (fun r11 =>
      xR x3_9 ∧ xR r11 ∧ (r11 ≤ x3_9 →
          Post x2_9 t2) ∧
      (x3_9 < r11 →
          (0 ≤ x3_9 ∧ x3_9 < (144 : Nat)) ∧
          xR (t2 10 (x3_9).toNat) ∧ xR x3_9 ∧ ((t2 10 (x3_9).toNat) ≠ x3_9 →
              k9 x2_9 (x3_9 + 1)) ∧
          ((t2 10 (x3_9).toNat) = x3_9 →
              (0 ≤ x3_9 ∧ x3_9 < (144 : Nat)) ∧
              xR (t2 12 (x3_9).toNat) ∧ ((t2 12 (x3_9).toNat) ≠ 0 →
                  k9 x2_9 (x3_9 + 1)) ∧
              ((t2 12 (x3_9).toNat) = 0 →
                  k9 (x2_9 + 1) (x3_9 + 1)))))) → k9 x2_9 x3_9) →
  k9 0 0)

def wp_X2_holdsAt (a1 : Int) (a2 : Int) (σ : xSt) (Post : Int → Prop) : Prop :=
  wp_X2_fieldAt a1 a2 σ (fun r4 =>
  wp_X2_holds r4 σ (fun r7 =>
  (r7 = 0 ∨ r7 = 1) ∧ Post r7))

def wp_X2_eightAbout (a1 : Int) (σ : xSt) (Post : Int → Prop) : Prop :=
  wp_X2_columnOf a1 σ (fun r2 =>
  wp_X2_lineOf a1 σ (fun r8 =>
  ∀ k18 : Int → Int → Prop, (∀ (x4_18 x5_18 : Int),
(      xR x5_18 ∧ (8 ≤ x5_18 →
          Post x4_18) ∧
      (x5_18 < 8 →
          (0 ≤ x5_18 ∧ x5_18 < (8 : Nat)) ∧
          (0 ≤ x5_18 ∧ x5_18 < (8 : Nat)) ∧
          wp_X2_holdsAt (r2 + (xRt (x5_18).toNat)) (r8 + (xUp (x5_18).toNat)) σ (fun r42 =>
          xR r42 ∧ (r42 = 0 →
              k18 x4_18 (x5_18 + 1)) ∧
          (r42 ≠ 0 →
              ∀ z4_55 : Int, z4_55 = (xOr x4_18 (xShl 1 x5_18)) →
              k18 z4_55 (x5_18 + 1))))) → k18 x4_18 x5_18) →
  k18 0 0))

def wp_J6_bitCount_0f7a4 (a0 : Int) (σ : xSt) (Post : Int → Prop) : Prop :=
  ∀ z0_9 : Int, z0_9 = (a0 - (xAnd (xUshr a0 1) 1431655765)) →
  ∀ z0_23 : Int, z0_23 = ((xAnd z0_9 858993459) + (xAnd (xUshr z0_9 2) 858993459)) →
  ∀ z0_33 : Int, z0_33 = (xAnd (z0_23 + (xUshr z0_23 4)) 252645135) →
  ∀ z0_40 : Int, z0_40 = (z0_33 + (xUshr z0_33 8)) →
  ∀ z0_47 : Int, z0_47 = (z0_40 + (xUshr z0_40 16)) →
  Post (xAnd z0_47 63)

def wp_X2_rims (σ : xSt) (Post : Int → Prop) : Prop :=
  ∀ k4 : Int → Int → Prop, (∀ (x1_4 x2_4 : Int),
(      wp_X2_fields σ (fun r6 =>
      xR x2_4 ∧ xR r6 ∧ (r6 ≤ x2_4 →
          Post x1_4) ∧
      (x2_4 < r6 →
          wp_X2_holds x2_4 σ (fun r14 =>
          xR r14 ∧ (r14 = 0 →
              k4 x1_4 (x2_4 + 1)) ∧
          (r14 ≠ 0 →
              wp_X2_eightAbout x2_4 σ (fun r24 =>
              wp_J6_bitCount_0f7a4 (xAnd r24 85) σ (fun r30 =>
              k4 (x1_4 + (4 - r30)) (x2_4 + 1)))))))) → k4 x1_4 x2_4) →
  k4 0 0

def wp_X2_width (σ : xSt) (Post : Int → Prop) : Prop :=
  Post (σ 7 1)

def wp_X2_height (σ : xSt) (Post : Int → Prop) : Prop :=
  Post (σ 7 2)

def wp_X3_side (a1 : Int) (a2 : Int) (a3 : Int) (a4 : Int) (σ : xSt) (Post : Int → Prop) : Prop :=
  xR a1 ∧ (a1 < 0 →
      Post 0) ∧
  (0 ≤ a1 →
      xR a2 ∧ (a2 < 0 →
          Post 0) ∧
      (0 ≤ a2 →
          xR a1 ∧ (24 ≤ a1 →
              Post 0) ∧
          (a1 < 24 →
              xR a2 ∧ (a2 < 24 →
                  (0 ≤ a2 ∧ a2 < (24 : Nat)) ∧
                  (0 ≤ a1 ∧ a1 < (24 : Nat)) ∧
                  (0 ≤ a1 ∧ a1 < (24 : Nat)) ∧
                  (0 ≤ a2 ∧ a2 < (24 : Nat)) ∧
                  (0 ≤ a1 ∧ a1 < (24 : Nat)) ∧
                  (0 ≤ a1 ∧ a1 < (24 : Nat)) ∧
                  Post ((((σ 16 (a2).toNat) - (σ 16 (a1).toNat)) * (a4 - (σ 17 (a1).toNat))) - (((σ 17 (a2).toNat) - (σ 17 (a1).toNat)) * (a3 - (σ 16 (a1).toNat))))) ∧
              (24 ≤ a2 →
                  Post 0))))

def wp_X3_add (a1 : Int) (a2 : Int) (a3 : Int) (σ : xSt) (Post : xSt → Prop) : Prop :=
  ∀ k0 : xSt → Prop, (∀ (s0 : xSt),
(      ∀ k44 : Prop, (
(          xR (s0 15 2) ∧ (24 ≤ (s0 15 2) →
              Post s0) ∧
          ((s0 15 2) < 24 →
              (0 ≤ (s0 15 2) ∧ (s0 15 2) < (24 : Nat)) ∧ ∀ σ_62 : xSt, σ_62 = xU s0 16 (((s0 15 2)).toNat) a1 →
              (0 ≤ (σ_62 15 2) ∧ (σ_62 15 2) < (24 : Nat)) ∧ ∀ σ_72 : xSt, σ_72 = xU σ_62 17 (((σ_62 15 2)).toNat) a2 →
              ∀ σ_80 : xSt, σ_80 = xU σ_72 15 2 ((σ_72 15 2) + 1) →
              Post σ_80)) → k44) →
      xR ((s0 15 2) - a3) ∧ (((s0 15 2) - a3) < 2 →
          k44) ∧
      (2 ≤ ((s0 15 2) - a3) →
          wp_X3_side ((s0 15 2) - 2) ((s0 15 2) - 1) a1 a2 s0 (fun r25 =>
          xR r25 ∧ (0 < r25 →
              k44) ∧
          (r25 ≤ 0 →
              ∀ σ_38 : xSt, σ_38 = xU s0 15 2 ((s0 15 2) - 1) →
              k0 σ_38)))) → k0 s0) →
  k0 σ

def wp_X3_addLowest (a2 : Int) (σ : xSt) (Post : xSt → Prop) : Prop :=
  ∀ k2 : Int → Prop, (∀ (x3_2 : Int),
(      wp_X2_height σ (fun r4 =>
      xR x3_2 ∧ xR r4 ∧ (r4 ≤ x3_2 →
          Post σ) ∧
      (x3_2 < r4 →
          wp_X2_holdsAt a2 x3_2 σ (fun r13 =>
          xR r13 ∧ (r13 = 0 →
              k2 (x3_2 + 1)) ∧
          (r13 ≠ 0 →
              wp_X3_add a2 x3_2 0 σ (fun t23 =>
              Post t23)))))) → k2 x3_2) →
  k2 0

def wp_X3_addHighest (a2 : Int) (a3 : Int) (σ : xSt) (Post : xSt → Prop) : Prop :=
  wp_X2_height σ (fun r1 =>
  ∀ k8 : Int → Prop, (∀ (x4_8 : Int),
(      xR x4_8 ∧ (x4_8 < 0 →
          Post σ) ∧
      (0 ≤ x4_8 →
          wp_X2_holdsAt a2 x4_8 σ (fun r17 =>
          xR r17 ∧ (r17 = 0 →
              k8 (x4_8 + (-1))) ∧
          (r17 ≠ 0 →
              wp_X3_add a2 x4_8 a3 σ (fun t28 =>
              Post t28))))) → k8 x4_8) →
  k8 (r1 - 1))

def wp_X3_wrap (σ : xSt) (Post : xSt → Prop) : Prop :=
  ∀ σ_2 : xSt, σ_2 = xU σ 15 2 0 →
  ∀ k7 : Int → xSt → Prop, (∀ (x2_7 : Int) (s7 : xSt),
(      wp_X2_width s7 (fun r9 =>
      xR x2_7 ∧ xR r9 ∧ (r9 ≤ x2_7 →
          xR ((s7 15 2) - 1) ∧ xR 0 ∧
          wp_X2_width s7 (fun r39 =>
          ∀ k45 : Int → xSt → Prop, (∀ (x3_45 : Int) (s45 : xSt),
(              xR x3_45 ∧ (x3_45 < 0 →
                  xR (s45 15 2) ∧ ((s45 15 2) ≤ 1 →
                      Post s45) ∧
                  (1 < (s45 15 2) →
                      (0 ≤ ((s45 15 2) - 1) ∧ ((s45 15 2) - 1) < (24 : Nat)) ∧
                      xR (s45 16 ((s45 15 2) - 1).toNat) ∧ xR (s45 16 0) ∧ ((s45 16 ((s45 15 2) - 1).toNat) ≠ (s45 16 0) →
                          Post s45) ∧
                      ((s45 16 ((s45 15 2) - 1).toNat) = (s45 16 0) →
                          (0 ≤ ((s45 15 2) - 1) ∧ ((s45 15 2) - 1) < (24 : Nat)) ∧
                          xR (s45 17 ((s45 15 2) - 1).toNat) ∧ xR (s45 17 0) ∧ ((s45 17 ((s45 15 2) - 1).toNat) ≠ (s45 17 0) →
                              Post s45) ∧
                          ((s45 17 ((s45 15 2) - 1).toNat) = (s45 17 0) →
                              ∀ σ_117 : xSt, σ_117 = xU s45 15 2 ((s45 15 2) - 1) →
                              Post σ_117)))) ∧
              (0 ≤ x3_45 →
                  wp_X3_addHighest x3_45 (xMax ((s7 15 2) - 1) 0) s45 (fun t53 =>
                  k45 (x3_45 + (-1)) t53))) → k45 x3_45 s45) →
          k45 (r39 - 1) s7)) ∧
      (x2_7 < r9 →
          wp_X3_addLowest x2_7 s7 (fun t18 =>
          k7 (x2_7 + 1) t18)))) → k7 x2_7 s7) →
  k7 0 σ_2

def wp_X3_inBox (a1 : Int) (a2 : Int) (σ : xSt) (Post : Int → Prop) : Prop :=
  ∀ k14 : Int → Int → Int → Int → Int → Prop, (∀ (x3_14 x4_14 x5_14 x6_14 x7_14 : Int),
(      xR x7_14 ∧ xR (σ 15 2) ∧ ((σ 15 2) ≤ x7_14 →
          xR x3_14 ∧ (x3_14 = 0 →
              Post 0) ∧
          (x3_14 ≠ 0 →
              xR x4_14 ∧ (x4_14 = 0 →
                  Post 0) ∧
              (x4_14 ≠ 0 →
                  xR x5_14 ∧ (x5_14 = 0 →
                      Post 0) ∧
                  (x5_14 ≠ 0 →
                      xR x6_14 ∧ (x6_14 = 0 →
                          Post 0) ∧
                      (x6_14 ≠ 0 →
                          Post 1))))) ∧
      (x7_14 < (σ 15 2) →
          ∀ k43 : Int → Prop, (∀ (y0_43 : Int),
(              ∀ k65 : Int → Prop, (∀ (y0_65 : Int),
(                  ∀ k88 : Int → Prop, (∀ (y0_88 : Int),
(                      xR x6_14 ∧ (x6_14 ≠ 0 →
                          k14 y0_43 y0_65 y0_88 1 (x7_14 + 1)) ∧
                      (x6_14 = 0 →
                          (0 ≤ x7_14 ∧ x7_14 < (24 : Nat)) ∧
                          xR a2 ∧ xR (σ 17 (x7_14).toNat) ∧ ((σ 17 (x7_14).toNat) < a2 →
                              k14 y0_43 y0_65 y0_88 0 (x7_14 + 1)) ∧
                          (a2 ≤ (σ 17 (x7_14).toNat) →
                              k14 y0_43 y0_65 y0_88 1 (x7_14 + 1)))) → k88 y0_88) →
                  xR x5_14 ∧ (x5_14 ≠ 0 →
                      k88 1) ∧
                  (x5_14 = 0 →
                      (0 ≤ x7_14 ∧ x7_14 < (24 : Nat)) ∧
                      xR a2 ∧ xR (σ 17 (x7_14).toNat) ∧ (a2 < (σ 17 (x7_14).toNat) →
                          k88 0) ∧
                      ((σ 17 (x7_14).toNat) ≤ a2 →
                          k88 1))) → k65 y0_65) →
              xR x4_14 ∧ (x4_14 ≠ 0 →
                  k65 1) ∧
              (x4_14 = 0 →
                  (0 ≤ x7_14 ∧ x7_14 < (24 : Nat)) ∧
                  xR a1 ∧ xR (σ 16 (x7_14).toNat) ∧ ((σ 16 (x7_14).toNat) < a1 →
                      k65 0) ∧
                  (a1 ≤ (σ 16 (x7_14).toNat) →
                      k65 1))) → k43 y0_43) →
          xR x3_14 ∧ (x3_14 ≠ 0 →
              k43 1) ∧
          (x3_14 = 0 →
              (0 ≤ x7_14 ∧ x7_14 < (24 : Nat)) ∧
              xR a1 ∧ xR (σ 16 (x7_14).toNat) ∧ (a1 < (σ 16 (x7_14).toNat) →
                  k43 0) ∧
              ((σ 16 (x7_14).toNat) ≤ a1 →
                  k43 1)))) → k14 x3_14 x4_14 x5_14 x6_14 x7_14) →
  k14 0 0 0 0 0

def wp_X3_covers (a1 : Int) (a2 : Int) (σ : xSt) (Post : Int → Prop) : Prop :=
  ∀ k2 : Int → Prop, (∀ (x3_2 : Int),
(      xR x3_2 ∧ xR (σ 15 2) ∧ ((σ 15 2) ≤ x3_2 →
          wp_X3_inBox a1 a2 σ (fun r52 =>
          (r52 = 0 ∨ r52 = 1) ∧ Post r52)) ∧
      (x3_2 < (σ 15 2) →
          ∀ k27 : Int → Prop, (∀ (y0_27 : Int),
(              wp_X3_side x3_2 y0_27 a1 a2 σ (fun r35 =>
              xR r35 ∧ (0 ≤ r35 →
                  k2 (x3_2 + 1)) ∧
              (r35 < 0 →
                  Post 0))) → k27 y0_27) →
          xR (x3_2 + 1) ∧ xR (σ 15 2) ∧ ((σ 15 2) ≤ (x3_2 + 1) →
              k27 0) ∧
          ((x3_2 + 1) < (σ 15 2) →
              k27 (x3_2 + 1)))) → k2 x3_2) →
  k2 0

def wp_X3_lacks (σ : xSt) (Post : Int → Prop) : Prop :=
  ∀ k4 : Int → Int → Prop, (∀ (x2_4 x3_4 : Int),
(      wp_X2_fields σ (fun r6 =>
      xR x3_4 ∧ xR r6 ∧ (r6 ≤ x3_4 →
          Post x2_4) ∧
      (x3_4 < r6 →
          wp_X2_holds x3_4 σ (fun r14 =>
          xR r14 ∧ (r14 ≠ 0 →
              k4 x2_4 (x3_4 + 1)) ∧
          (r14 = 0 →
              wp_X2_columnOf x3_4 σ (fun r23 =>
              wp_X2_lineOf x3_4 σ (fun r28 =>
              wp_X3_covers r23 r28 σ (fun r31 =>
              xR r31 ∧ (r31 = 0 →
                  k4 x2_4 (x3_4 + 1)) ∧
              (r31 ≠ 0 →
                  k4 (x2_4 + 1) (x3_4 + 1)))))))))) → k4 x2_4 x3_4) →
  k4 0 0

def wp_X9_heap (a1 : Int) (σ : xSt) (Post : Int → xSt → Prop) : Prop :=
  xR a1 ∧
  (a1 = 0 →
      wp_X2_heapSize σ (fun r40 =>
      Post r40 σ)) ∧
  (a1 = 1 →
      wp_X2_members σ (
      wp_X4_split 8 1 1 σ (fun r61 t61 =>
      Post r61 t61))) ∧
  (a1 = 2 →
      wp_X2_members σ (
      wp_X4_split 8 0 0 σ (fun r82 t82 =>
      wp_X4_shutParts t82 (fun r94 t94 =>
      Post r94 t94)))) ∧
  (a1 = 3 →
      wp_X2_rims σ (fun r102 =>
      Post r102 σ)) ∧
  (a1 = 4 →
      wp_X3_wrap σ (fun t114 =>
      wp_X3_lacks t114 (fun r125 =>
      Post r125 t114))) ∧
  (a1 < 0 ∨ 4 < a1 →
      Post (-1002) σ)

def wp_X2_runsFrom (a1 : Int) (a2 : Int) (a3 : Int) (σ : xSt) (Post : Int → Prop) : Prop :=
  ∀ k9 : Int → Int → Int → Prop, (∀ (x4_9 x5_9 x6_9 : Int),
(      xR x6_9 ∧ (12 ≤ x6_9 →
          Post x4_9) ∧
      (x6_9 < 12 →
          (0 ≤ a3 ∧ a3 < (8 : Nat)) ∧
          (0 ≤ a3 ∧ a3 < (8 : Nat)) ∧
          wp_X2_holdsAt (a1 + (x6_9 * (xRt (a3).toNat))) (a2 + (x6_9 * (xUp (a3).toNat))) σ (fun r37 =>
          xR r37 ∧ (r37 = 0 →
              k9 x4_9 r37 (x6_9 + 1)) ∧
          (r37 ≠ 0 →
              xR x5_9 ∧ (x5_9 ≠ 0 →
                  k9 x4_9 r37 (x6_9 + 1)) ∧
              (x5_9 = 0 →
                  k9 (x4_9 + 1) r37 (x6_9 + 1)))))) → k9 x4_9 x5_9 x6_9) →
  k9 0 0 0

def wp_X2_hasStairs (σ : xSt) (Post : Int → Prop) : Prop :=
  ∀ k2 : Int → Prop, (∀ (x1_2 : Int),
(      xR x1_2 ∧ xR (σ 7 1) ∧ ((σ 7 1) ≤ x1_2 →
          ∀ k31 : Int → Prop, (∀ (x1_31 : Int),
(              xR x1_31 ∧ xR (σ 7 2) ∧ ((σ 7 2) ≤ x1_31 →
                  Post 1) ∧
              (x1_31 < (σ 7 2) →
                  wp_X2_runsFrom 0 x1_31 0 σ (fun r43 =>
                  xR r43 ∧ (r43 ≤ 1 →
                      k31 (x1_31 + 1)) ∧
                  (1 < r43 →
                      Post 0)))) → k31 x1_31) →
          k31 0) ∧
      (x1_2 < (σ 7 1) →
          wp_X2_runsFrom x1_2 0 2 σ (fun r14 =>
          xR r14 ∧ (r14 ≤ 1 →
              k2 (x1_2 + 1)) ∧
          (1 < r14 →
              Post 0)))) → k2 x1_2) →
  k2 0

def wp_X1_squareAbout (a1 : Int) (a2 : Int) (σ : xSt) (Post : Int → Prop) : Prop :=
  ∀ k10 : Int → Int → Int → Prop, (∀ (x3_10 x4_10 x5_10 : Int),
(      wp_X2_fields σ (fun r13 =>
      xR x5_10 ∧ xR r13 ∧ (r13 ≤ x5_10 →
          Post x3_10) ∧
      (x5_10 < r13 →
          wp_X2_columnOf x5_10 σ (fun r23 =>
          wp_X2_lineOf x5_10 σ (fun r35 =>
          ∀ z8_54 : Int, z8_54 = ((((2 * r23) - a1) * ((2 * r23) - a1)) + (((2 * r35) - a2) * ((2 * r35) - a2))) →
          wp_X2_holds x5_10 σ (fun r59 =>
          ∀ k84 : Int → Int → Prop, (∀ (x3_84 x4_84 : Int),
(              xR x3_84 ∧ xR x4_84 ∧ (x3_84 < x4_84 →
                  k10 x3_84 x4_84 (x5_10 + 1)) ∧
              (x4_84 ≤ x3_84 →
                  Post (-999))) → k84 x3_84 x4_84) →
          xR r59 ∧ (r59 = 0 →
              xR x4_10 ∧ xR z8_54 ∧
              k84 x3_10 (xMin x4_10 z8_54)) ∧
          (r59 ≠ 0 →
              xR x3_10 ∧ xR z8_54 ∧
              k84 (xMax x3_10 z8_54) x4_10))))))) → k10 x3_10 x4_10 x5_10) →
  k10 0 1152 0

def wp_X1_find (σ : xSt) (Post : Int → xSt → Prop) : Prop :=
  wp_X2_heapSize σ (fun r1 =>
  xR r1 ∧ (r1 ≠ 0 →
      ∀ k11 : Int → Prop, (∀ (x2_11 : Int),
(          wp_X2_height σ (fun r14 =>
          xR x2_11 ∧ xR ((2 * r14) - 2) ∧ (((2 * r14) - 2) < x2_11 →
              Post 0 σ) ∧
          (x2_11 ≤ ((2 * r14) - 2) →
              ∀ k25 : Int → Prop, (∀ (x3_25 : Int),
(                  wp_X2_width σ (fun r28 =>
                  xR x3_25 ∧ xR ((2 * r28) - 2) ∧ (((2 * r28) - 2) < x3_25 →
                      k11 (x2_11 + 1)) ∧
                  (x3_25 ≤ ((2 * r28) - 2) →
                      wp_X1_squareAbout x3_25 x2_11 σ (fun r40 =>
                      xR r40 ∧ (r40 = (-999) →
                          k25 (x3_25 + 1)) ∧
                      (r40 ≠ (-999) →
                          ∀ σ_55 : xSt, σ_55 = xU σ 20 0 x3_25 →
                          ∀ σ_60 : xSt, σ_60 = xU σ_55 20 1 x2_11 →
                          ∀ σ_66 : xSt, σ_66 = xU σ_60 20 2 r40 →
                          Post 1 σ_66))))) → k25 x3_25) →
              k25 0))) → k11 x2_11) →
      k11 0) ∧
  (r1 = 0 →
      Post 0 σ))

def wp_X9_is (a1 : Int) (σ : xSt) (Post : Int → xSt → Prop) : Prop :=
  ∀ k92 : Int → xSt → Prop, (∀ (x2_92 : Int) (s92 : xSt),
(      xR x2_92 ∧ (x2_92 = 0 →
          Post 0 s92) ∧
      (x2_92 ≠ 0 →
          Post 1 s92)) → k92 x2_92 s92) →
  xR a1 ∧
  (a1 = 0 →
      wp_X3_wrap σ (fun t36 =>
      wp_X3_lacks t36 (fun r47 =>
      xR r47 ∧ (r47 ≠ 0 →
          k92 0 t36) ∧
      (r47 = 0 →
          k92 1 t36)))) ∧
  (a1 = 1 →
      wp_X2_hasStairs σ (fun r66 =>
      k92 r66 σ)) ∧
  (a1 = 2 →
      wp_X1_find σ (fun r81 t81 =>
      k92 r81 t81)) ∧
  (a1 < 0 ∨ 2 < a1 →
      Post (-1002) σ)

def wp_X1_greatestSquare (σ : xSt) (Post : Int → Prop) : Prop :=
  Post (σ 20 2)

def wp_X1_middleX (σ : xSt) (Post : Int → Prop) : Prop :=
  Post (σ 20 0)

def wp_X1_middleY (σ : xSt) (Post : Int → Prop) : Prop :=
  Post (σ 20 1)

def wp_X9_disc (a1 : Int) (σ : xSt) (Post : Int → xSt → Prop) : Prop :=
  xR a1 ∧ (a1 < 0 →
      Post (-1002) σ) ∧
  (0 ≤ a1 →
      xR a1 ∧ (a1 ≤ 2 →
          wp_X1_find σ (fun r21 t21 =>
          xR r21 ∧ (r21 ≠ 0 →
              xR a1 ∧ (a1 ≠ 2 →
                  xR a1 ∧ (a1 ≠ 0 →
                      wp_X1_middleY t21 (fun r62 =>
                      Post r62 t21)) ∧
                  (a1 = 0 →
                      wp_X1_middleX t21 (fun r52 =>
                      Post r52 t21))) ∧
              (a1 = 2 →
                  wp_X1_greatestSquare t21 (fun r40 =>
                  Post r40 t21))) ∧
          (r21 = 0 →
              Post (-999) t21))) ∧
      (2 < a1 →
          Post (-1002) σ))

def wp_X9_part (a1 : Int) (σ : xSt) (Post : Int → xSt → Prop) : Prop :=
  wp_X2_knows a1 σ (fun r5 =>
  xR r5 ∧ (r5 ≠ 0 →
      wp_X2_holds a1 σ (fun r20 =>
      xR r20 ∧ (r20 ≠ 0 →
          wp_X2_members σ (
          wp_X4_split 8 1 1 σ (fun r47 t47 =>
          wp_X4_leastOf a1 t47 (fun r56 =>
          Post r56 t47)))) ∧
      (r20 = 0 →
          Post (-999) σ))) ∧
  (r5 = 0 →
      Post (-1001) σ))

def wp_X3_size (σ : xSt) (Post : Int → Prop) : Prop :=
  Post (σ 15 2)

def wp_X9_hull (σ : xSt) (Post : Int → xSt → Prop) : Prop :=
  wp_X3_wrap σ (fun t8 =>
  wp_X3_size t8 (fun r15 =>
  Post r15 t8))

def wp_X3_fieldOf (a2 : Int) (σ : xSt) (Post : Int → Prop) : Prop :=
  xR a2 ∧ (a2 < 0 →
      Post (-999)) ∧
  (0 ≤ a2 →
      xR a2 ∧ xR (σ 15 2) ∧ ((σ 15 2) ≤ a2 →
          Post (-999)) ∧
      (a2 < (σ 15 2) →
          (0 ≤ a2 ∧ a2 < (24 : Nat)) ∧
          (0 ≤ a2 ∧ a2 < (24 : Nat)) ∧
          wp_X2_fieldAt (σ 16 (a2).toNat) (σ 17 (a2).toNat) σ (fun r25 =>
          Post r25)))

def wp_X9_corner (a1 : Int) (σ : xSt) (Post : Int → xSt → Prop) : Prop :=
  wp_X3_wrap σ (fun t8 =>
  xR a1 ∧ (a1 < 0 →
      Post (-999) t8) ∧
  (0 ≤ a1 →
      wp_X3_size t8 (fun r20 =>
      xR a1 ∧ xR r20 ∧ (r20 ≤ a1 →
          Post (-999) t8) ∧
      (a1 < r20 →
          wp_X3_fieldOf a1 t8 (fun r35 =>
          Post r35 t8)))))

def wp_X0_depthOf (a2 : Int) (σ : xSt) (Post : Int → Prop) : Prop :=
  wp_X2_holds a2 σ (fun r2 =>
  xR r2 ∧ (r2 ≠ 0 →
      wp_X2_columnOf a2 σ (fun r12 =>
      wp_X2_lineOf a2 σ (fun r18 =>
      wp_X2_width σ (fun r27 =>
      xR (r12 + 1) ∧ xR (r27 - r12) ∧
      ∀ z5_35 : Int, z5_35 = (xMin (r12 + 1) (r27 - r12)) →
      wp_X2_height σ (fun r42 =>
      xR (r18 + 1) ∧ xR (r42 - r18) ∧
      ∀ z6_51 : Int, z6_51 = (xMin (r18 + 1) (r42 - r18)) →
      xR z5_35 ∧ xR z6_51 ∧
      ∀ z8_67 : Int, z8_67 = ((xMin z5_35 z6_51) * (xMin z5_35 z6_51)) →
      ∀ k75 : Int → Int → Prop, (∀ (x8_75 x9_75 : Int),
(          xR x9_75 ∧ xR (xMin z5_35 z6_51) ∧ ((xMin z5_35 z6_51) ≤ x9_75 →
              Post x8_75) ∧
          (x9_75 < (xMin z5_35 z6_51) →
              ∀ k88 : Int → Int → Prop, (∀ (x8_88 x10_88 : Int),
(                  xR x10_88 ∧ xR (xMin z5_35 z6_51) ∧ ((xMin z5_35 z6_51) ≤ x10_88 →
                      k75 x8_88 (x9_75 + 1)) ∧
                  (x10_88 < (xMin z5_35 z6_51) →
                      ∀ z11_106 : Int, z11_106 = ((x10_88 * x10_88) + (x9_75 * x9_75)) →
                      xR z11_106 ∧ xR x8_88 ∧ (x8_88 ≤ z11_106 →
                          k88 x8_88 (x10_88 + 1)) ∧
                      (z11_106 < x8_88 →
                          wp_X2_holdsAt (r12 + x10_88) (r18 + x9_75) σ (fun r125 =>
                          xR r125 ∧ (r125 ≠ 0 →
                              k88 x8_88 (x10_88 + 1)) ∧
                          (r125 = 0 →
                              k88 z11_106 (x10_88 + 1)))))) → k88 x8_88 x10_88) →
              k88 x8_75 (1 - (xMin z5_35 z6_51)))) → k75 x8_75 x9_75) →
      k75 z8_67 (1 - (xMin z5_35 z6_51))))))) ∧
  (r2 = 0 →
      Post 0))

def wp_X9_deep (a1 : Int) (σ : xSt) (Post : Int → Prop) : Prop :=
  wp_X2_knows a1 σ (fun r5 =>
  xR r5 ∧ (r5 = 0 →
      Post (-1001)) ∧
  (r5 ≠ 0 →
      wp_X0_depthOf a1 σ (fun r20 =>
      Post r20)))

def wp_X9_deepest (a1 : Int) (σ : xSt) (Post : Int → Prop) : Prop :=
  ∀ k9 : Int → Int → Int → Prop, (∀ (x2_9 x3_9 x4_9 : Int),
(      wp_X2_fields σ (fun r15 =>
      xR x4_9 ∧ xR r15 ∧ (r15 ≤ x4_9 →
          xR a1 ∧ (a1 = 0 →
              Post x2_9) ∧
          (a1 ≠ 0 →
              Post x3_9)) ∧
      (x4_9 < r15 →
          wp_X0_depthOf x4_9 σ (fun r31 =>
          xR r31 ∧ xR x2_9 ∧ (r31 ≤ x2_9 →
              k9 x2_9 x3_9 (x4_9 + 1)) ∧
          (x2_9 < r31 →
              k9 r31 x4_9 (x4_9 + 1)))))) → k9 x2_9 x3_9 x4_9) →
  k9 0 (-999) 0

def wp_X0_measure (σ : xSt) (Post : xSt → Prop) : Prop :=
  ∀ k2 : Int → xSt → Prop, (∀ (x2_2 : Int) (s2 : xSt),
(      wp_X2_fields s2 (fun r4 =>
      xR x2_2 ∧ xR r4 ∧ (r4 ≤ x2_2 →
          Post s2) ∧
      (x2_2 < r4 →
          wp_X0_depthOf x2_2 s2 (fun r18 =>
          (0 ≤ x2_2 ∧ x2_2 < (144 : Nat)) ∧ ∀ σ_21 : xSt, σ_21 = xU s2 19 ((x2_2).toNat) r18 →
          k2 (x2_2 + 1) σ_21)))) → k2 x2_2 s2) →
  k2 0 σ

def wp_X0_ballHolds (a2 : Int) (a3 : Int) (σ : xSt) (Post : Int → Prop) : Prop :=
  wp_X2_columnOf a2 σ (fun r2 =>
  wp_X2_columnOf a3 σ (fun r7 =>
  wp_X2_lineOf a2 σ (fun r15 =>
  wp_X2_lineOf a3 σ (fun r20 =>
  ∀ z6_37 : Int, z6_37 = (((r2 - r7) * (r2 - r7)) + ((r15 - r20) * (r15 - r20))) →
  (0 ≤ a2 ∧ a2 < (144 : Nat)) ∧
  (0 ≤ a3 ∧ a3 < (144 : Nat)) ∧
  ∀ z7_55 : Int, z7_55 = (((σ 19 (a2).toNat) - z6_37) - (σ 19 (a3).toNat)) →
  xR z7_55 ∧ (z7_55 < 0 →
      Post 0) ∧
  (0 ≤ z7_55 →
      (0 ≤ a3 ∧ a3 < (144 : Nat)) ∧
      xR (z7_55 * z7_55) ∧ xR ((4 * z6_37) * (σ 19 (a3).toNat)) ∧ ((z7_55 * z7_55) < ((4 * z6_37) * (σ 19 (a3).toNat)) →
          Post 0) ∧
      (((4 * z6_37) * (σ 19 (a3).toNat)) ≤ (z7_55 * z7_55) →
          Post 1))))))

def wp_X0_isNeeded (a2 : Int) (σ : xSt) (Post : Int → Prop) : Prop :=
  wp_X2_holds a2 σ (fun r2 =>
  xR r2 ∧ (r2 ≠ 0 →
      ∀ k12 : Int → Prop, (∀ (x3_12 : Int),
(          wp_X2_fields σ (fun r14 =>
          xR x3_12 ∧ xR r14 ∧ (r14 ≤ x3_12 →
              Post 1) ∧
          (x3_12 < r14 →
              (0 ≤ x3_12 ∧ x3_12 < (144 : Nat)) ∧
              (0 ≤ a2 ∧ a2 < (144 : Nat)) ∧
              xR (σ 19 (x3_12).toNat) ∧ xR (σ 19 (a2).toNat) ∧ ((σ 19 (x3_12).toNat) ≤ (σ 19 (a2).toNat) →
                  k12 (x3_12 + 1)) ∧
              ((σ 19 (a2).toNat) < (σ 19 (x3_12).toNat) →
                  wp_X0_ballHolds x3_12 a2 σ (fun r39 =>
                  xR r39 ∧ (r39 = 0 →
                      k12 (x3_12 + 1)) ∧
                  (r39 ≠ 0 →
                      Post 0)))))) → k12 x3_12) →
      k12 0) ∧
  (r2 = 0 →
      Post 0))

def wp_X9_needed (a1 : Int) (σ : xSt) (Post : Int → xSt → Prop) : Prop :=
  wp_X2_knows a1 σ (fun r5 =>
  xR r5 ∧ (r5 ≠ 0 →
      wp_X0_measure σ (fun t23 =>
      wp_X0_isNeeded a1 t23 (fun r35 =>
      xR r35 ∧ (r35 = 0 →
          Post 0 t23) ∧
      (r35 ≠ 0 →
          Post 1 t23)))) ∧
  (r5 = 0 →
      Post (-1001) σ))

def wp_X9_balls (σ : xSt) (Post : Int → xSt → Prop) : Prop :=
  wp_X0_measure σ (fun t8 =>
  ∀ k15 : Int → Int → Prop, (∀ (x1_15 x2_15 : Int),
(      wp_X2_fields t8 (fun r20 =>
      xR x2_15 ∧ xR r20 ∧ (r20 ≤ x2_15 →
          Post x1_15 t8) ∧
      (x2_15 < r20 →
          wp_X0_isNeeded x2_15 t8 (fun r35 =>
          xR r35 ∧ (r35 = 0 →
              k15 x1_15 (x2_15 + 1)) ∧
          (r35 ≠ 0 →
              k15 (x1_15 + 1) (x2_15 + 1)))))) → k15 x1_15 x2_15) →
  k15 0 0)

def wp_X7_turned (a0 : Int) (a1 : Int) (σ : xSt) (Post : Int → Prop) : Prop :=
  Post (xAnd (xOr (xShl a0 a1) (xShr a0 (8 - a1))) 255)

def wp_X7_partWith (a0 : Int) (a1 : Int) (a2 : Int) (σ : xSt) (Post : Int → Prop) : Prop :=
  ∀ k5 : Int → Int → Prop, (∀ (x3_5 x4_5 : Int),
(      xR x4_5 ∧ (8 ≤ x4_5 →
          Post x3_5) ∧
      (x4_5 < 8 →
          wp_X7_turned x3_5 1 σ (fun r14 =>
          wp_X7_turned x3_5 7 σ (fun r20 =>
          ∀ k53 : Int → Prop, (∀ (x5_53 : Int),
(              ∀ z3_59 : Int, z3_59 = (xOr x3_5 (xAnd x5_53 a1)) →
              k5 z3_59 (x4_5 + 1)) → k53 x5_53) →
          xR a2 ∧ (a2 = 0 →
              k53 (xOr r14 r20)) ∧
          (a2 ≠ 0 →
              wp_X7_turned (xAnd x3_5 85) 2 σ (fun r37 =>
              wp_X7_turned (xAnd x3_5 85) 6 σ (fun r46 =>
              ∀ z5_51 : Int, z5_51 = (xOr (xOr r14 r20) (xOr r37 r46)) →
              k53 z5_51))))))) → k5 x3_5 x4_5) →
  k5 a0 0

def wp_X7_eightLetGo (a0 : Int) (σ : xSt) (Post : Int → Prop) : Prop :=
  ∀ z1_7 : Int, z1_7 = (xAnd 255 (xXor a0 (-1))) →
  xR a0 ∧ (a0 = 0 →
      Post 0) ∧
  (a0 ≠ 0 →
      xR (xAnd z1_7 85) ∧ ((xAnd z1_7 85) ≠ 0 →
          wp_X7_partWith (xAnd a0 (-a0)) a0 1 σ (fun r29 =>
          ∀ k41 : Int → Prop, (∀ (y0_41 : Int),
(              wp_X7_partWith (xAnd (xAnd z1_7 85) (-(xAnd z1_7 85))) z1_7 0 σ (fun r48 =>
              xR y0_41 ∧ (y0_41 = 0 →
                  Post 0) ∧
              (y0_41 ≠ 0 →
                  xR (xAnd (xAnd z1_7 85) (xXor r48 (-1))) ∧ ((xAnd (xAnd z1_7 85) (xXor r48 (-1))) ≠ 0 →
                      Post 0) ∧
                  ((xAnd (xAnd z1_7 85) (xXor r48 (-1))) = 0 →
                      Post 1)))) → k41 y0_41) →
          xR r29 ∧ xR a0 ∧ (r29 ≠ a0 →
              k41 0) ∧
          (r29 = a0 →
              k41 1))) ∧
      ((xAnd z1_7 85) = 0 →
          Post 0))

def wp_X7_isLoose (a2 : Int) (σ : xSt) (Post : Int → Prop) : Prop :=
  wp_X2_holds a2 σ (fun r2 =>
  xR r2 ∧ (r2 = 0 →
      Post 0) ∧
  (r2 ≠ 0 →
      wp_X2_eightAbout a2 σ (fun r10 =>
      wp_X7_eightLetGo r10 σ (fun r13 =>
      xR r13 ∧ (r13 = 0 →
          Post 0) ∧
      (r13 ≠ 0 →
          Post 1)))))

def wp_X9_loose (a1 : Int) (σ : xSt) (Post : Int → Prop) : Prop :=
  wp_X2_knows a1 σ (fun r5 =>
  xR r5 ∧ (r5 ≠ 0 →
      wp_X7_isLoose a1 σ (fun r24 =>
      xR r24 ∧ (r24 = 0 →
          Post 0) ∧
      (r24 ≠ 0 →
          Post 1))) ∧
  (r5 = 0 →
      Post (-1001)))

def wp_X7_mayGo (a0 : Int) (σ : xSt) (Post : Int → Prop) : Prop :=
  wp_J6_bitCount_0f7a4 a0 σ (fun r1 =>
  xR r1 ∧ (r1 = 1 →
      Post 0) ∧
  (r1 ≠ 1 →
      wp_X7_eightLetGo a0 σ (fun r9 =>
      xR r9 ∧ (r9 = 0 →
          Post 0) ∧
      (r9 ≠ 0 →
          Post 1))))

def wp_X7_takeOnce (σ : xSt) (Post : Int → xSt → Prop) : Prop :=
  ∀ k2 : Int → xSt → Prop, (∀ (x2_2 : Int) (s2 : xSt),
(      wp_X2_fields s2 (fun r4 =>
      xR x2_2 ∧ xR r4 ∧ (r4 ≤ x2_2 →
          ∀ k52 : Int → Int → xSt → Prop, (∀ (x2_52 x3_52 : Int) (s52 : xSt),
(              wp_X2_fields s52 (fun r54 =>
              xR x3_52 ∧ xR r54 ∧ (r54 ≤ x3_52 →
                  Post x2_52 s52) ∧
              (x3_52 < r54 →
                  (0 ≤ x3_52 ∧ x3_52 < (144 : Nat)) ∧
                  xR (s52 22 (x3_52).toNat) ∧ ((s52 22 (x3_52).toNat) = 0 →
                      k52 x2_52 (x3_52 + 1) s52) ∧
                  ((s52 22 (x3_52).toNat) ≠ 0 →
                      wp_X2_eightAbout x3_52 s52 (fun r71 =>
                      wp_X7_mayGo r71 s52 (fun r74 =>
                      xR r74 ∧ (r74 = 0 →
                          k52 x2_52 (x3_52 + 1) s52) ∧
                      (r74 ≠ 0 →
                          wp_X2_put x3_52 0 s52 (fun t83 =>
                          k52 (x2_52 + 1) (x3_52 + 1) t83)))))))) → k52 x2_52 x3_52 s52) →
          k52 0 0 s2) ∧
      (x2_2 < r4 →
          wp_X2_holds x2_2 s2 (fun r17 =>
          xR r17 ∧ (r17 = 0 →
              (0 ≤ x2_2 ∧ x2_2 < (144 : Nat)) ∧ ∀ σ_41 : xSt, σ_41 = xU s2 22 ((x2_2).toNat) 0 →
              k2 (x2_2 + 1) σ_41) ∧
          (r17 ≠ 0 →
              wp_X2_eightAbout x2_2 s2 (fun r25 =>
              xR (xAnd r25 85) ∧ ((xAnd r25 85) = 85 →
                  (0 ≤ x2_2 ∧ x2_2 < (144 : Nat)) ∧ ∀ σ_41 : xSt, σ_41 = xU s2 22 ((x2_2).toNat) 0 →
                  k2 (x2_2 + 1) σ_41) ∧
              ((xAnd r25 85) ≠ 85 →
                  (0 ≤ x2_2 ∧ x2_2 < (144 : Nat)) ∧ ∀ σ_41 : xSt, σ_41 = xU s2 22 ((x2_2).toNat) 1 →
                  k2 (x2_2 + 1) σ_41))))))) → k2 x2_2 s2) →
  k2 0 σ

def wp_X9_thinning (σ : xSt) (Post : Int → xSt → Prop) : Prop :=
  wp_X7_takeOnce σ (fun r8 t8 =>
  Post r8 t8)

def wp_X9_thin (σ : xSt) (Post : Int → xSt → Prop) : Prop :=
  ∀ k4 : Int → Int → xSt → Prop, (∀ (x1_4 x2_4 : Int) (s4 : xSt),
(      xR x2_4 ∧ (144 < x2_4 →
          Post x1_4 s4) ∧
      (x2_4 ≤ 144 →
          wp_X7_takeOnce s4 (fun r19 t19 =>
          xR r19 ∧ (r19 ≠ 0 →
              k4 (x1_4 + r19) (x2_4 + 1) t19) ∧
          (r19 = 0 →
              Post x1_4 t19)))) → k4 x1_4 x2_4 s4) →
  k4 0 0 σ

def wp_X6_evenSteps (σ : xSt) (Post : Int → Prop) : Prop :=
  ∀ k4 : Int → Int → Prop, (∀ (x1_4 x2_4 : Int),
(      xR x2_4 ∧ xR (σ 1 3) ∧ ((σ 1 3) ≤ x2_4 →
          Post x1_4) ∧
      (x2_4 < (σ 1 3) →
          (0 ≤ x2_4 ∧ x2_4 < (60 : Nat)) ∧
          xR (σ 2 (x2_4).toNat) ∧ xR 2 ∧ 2 ≠ (0 : Int) ∧
          xR (Int.tmod (σ 2 (x2_4).toNat) 2) ∧ ((Int.tmod (σ 2 (x2_4).toNat) 2) ≠ 0 →
              k4 x1_4 (x2_4 + 1)) ∧
          ((Int.tmod (σ 2 (x2_4).toNat) 2) = 0 →
              k4 (x1_4 + 1) (x2_4 + 1)))) → k4 x1_4 x2_4) →
  k4 0 0

def wp_X2_heapOnEdge (σ : xSt) (Post : Int → Prop) : Prop :=
  ∀ k4 : Int → Int → Prop, (∀ (x1_4 x2_4 : Int),
(      wp_X2_fields σ (fun r6 =>
      xR x2_4 ∧ xR r6 ∧ (r6 ≤ x2_4 →
          Post x1_4) ∧
      (x2_4 < r6 →
          wp_X2_holds x2_4 σ (fun r14 =>
          xR r14 ∧ (r14 = 0 →
              k4 x1_4 (x2_4 + 1)) ∧
          (r14 ≠ 0 →
              wp_X2_onEdge x2_4 σ (fun r22 =>
              xR r22 ∧ (r22 = 0 →
                  k4 x1_4 (x2_4 + 1)) ∧
              (r22 ≠ 0 →
                  k4 (x1_4 + 1) (x2_4 + 1)))))))) → k4 x1_4 x2_4) →
  k4 0 0

def wp_X9_count (a1 : Int) (σ : xSt) (Post : Int → Prop) : Prop :=
  xR a1 ∧
  (a1 = 0 →
      wp_X6_steps σ (fun r40 =>
      Post r40)) ∧
  (a1 = 1 →
      wp_X2_width σ (fun r48 =>
      Post r48)) ∧
  (a1 = 2 →
      wp_X2_height σ (fun r56 =>
      Post r56)) ∧
  (a1 = 3 →
      wp_X6_evenSteps σ (fun r64 =>
      Post r64)) ∧
  (a1 = 4 →
      wp_X2_heapOnEdge σ (fun r72 =>
      Post r72)) ∧
  (a1 < 0 ∨ 4 < a1 →
      Post (-1002))

def wp_X10_in (a0 : Int) (a2 : Int) (a4 : Int) (σ : xSt) (Post : Int → Prop) : Prop :=
  xS a0 ∧ xS a2 ∧ (a0 < a2 →
      Post 0) ∧
  (a2 ≤ a0 →
      xS a0 ∧ xS a4 ∧ (a4 < a0 →
          Post 0) ∧
      (a0 ≤ a4 →
          Post 1))

def wp_X10_size (a0 : Int) (σ : xSt) (Post : Int → Prop) : Prop :=
  xR a0 ∧ (0 ≤ a0 →
      Post a0) ∧
  (a0 < 0 →
      Post (-a0))

def wp_X10_stepX (a0 : Int) (σ : xSt) (Post : Int → Prop) : Prop :=
  xR a0 ∧ (a0 < 2 →
      Post 1) ∧
  (2 ≤ a0 →
      xR a0 ∧ (a0 ≠ 7 →
          xR a0 ∧ (a0 ≤ 2 →
              Post 0) ∧
          (2 < a0 →
              xR a0 ∧ (6 ≤ a0 →
                  Post 0) ∧
              (a0 < 6 →
                  Post (-1)))) ∧
      (a0 = 7 →
          Post 1))

def wp_X10_stepY (a0 : Int) (σ : xSt) (Post : Int → Prop) : Prop :=
  ∀ k13 : Prop, (
(      xR a0 ∧ (a0 ≤ 4 →
          Post 0) ∧
      (4 < a0 →
          Post (-1))) → k13) →
  xR a0 ∧ (a0 ≤ 0 →
      k13) ∧
  (0 < a0 →
      xR a0 ∧ (4 ≤ a0 →
          k13) ∧
      (a0 < 4 →
          Post 1))

def wp_X10_placeOf (a1 : Int) (a2 : Int) (σ : xSt) (Post : Int → Prop) : Prop :=
  ∀ k5 : Int → Int → Prop, (∀ (x3_5 x4_5 : Int),
(      xR x4_5 ∧ xR a1 ∧ (a1 ≤ x4_5 →
          Post x3_5) ∧
      (x4_5 < a1 →
          xR a2 ∧ (a2 = 0 →
              (0 ≤ x4_5 ∧ x4_5 < (60 : Nat)) ∧
              wp_X10_stepX (σ 1 (x4_5).toNat) σ (fun r36 =>
              k5 (x3_5 + r36) (x4_5 + 1))) ∧
          (a2 ≠ 0 →
              (0 ≤ x4_5 ∧ x4_5 < (60 : Nat)) ∧
              wp_X10_stepY (σ 1 (x4_5).toNat) σ (fun r23 =>
              k5 (x3_5 + r23) (x4_5 + 1))))) → k5 x3_5 x4_5) →
  k5 0 0

def wp_X10_step (a1 : Int) (σ : xSt) (Post : Int → xSt → Prop) : Prop :=
  ∀ σ_2 : xSt, σ_2 = xU σ 0 0 0 →
  xR a1 ∧
  wp_X10_in a1 0 7 σ_2 (fun r11 =>
  xR r11 ∧ (r11 ≠ 0 →
      xR (σ_2 0 1) ∧ ((σ_2 0 1) ≠ 60 →
          (0 ≤ (σ_2 0 1) ∧ (σ_2 0 1) < (60 : Nat)) ∧ ∀ σ_43 : xSt, σ_43 = xU σ_2 1 (((σ_2 0 1)).toNat) a1 →
          ∀ σ_51 : xSt, σ_51 = xU σ_43 0 1 ((σ_43 0 1) + 1) →
          Post (σ_51 0 1) σ_51) ∧
      ((σ_2 0 1) = 60 →
          Post (-1004) σ_2)) ∧
  (r11 = 0 →
      Post (-1002) σ_2))

def wp_X10_back (a1 : Int) (σ : xSt) (Post : Int → xSt → Prop) : Prop :=
  ∀ σ_2 : xSt, σ_2 = xU σ 0 0 0 →
  xR a1 ∧
  wp_X10_in a1 1 60 σ_2 (fun r11 =>
  xR r11 ∧ (r11 ≠ 0 →
      xR a1 ∧ xR (σ_2 0 1) ∧ (a1 ≤ (σ_2 0 1) →
          ∀ σ_40 : xSt, σ_40 = xU σ_2 0 1 ((σ_2 0 1) - a1) →
          Post (σ_40 0 1) σ_40) ∧
      ((σ_2 0 1) < a1 →
          Post (-1003) σ_2)) ∧
  (r11 = 0 →
      Post (-1002) σ_2))

def wp_X10_way (a1 : Int) (σ : xSt) (Post : Int → xSt → Prop) : Prop :=
  ∀ σ_2 : xSt, σ_2 = xU σ 0 0 0 →
  xR a1 ∧
  xR ((σ_2 0 1) - 1) ∧
  wp_X10_in a1 0 ((σ_2 0 1) - 1) σ_2 (fun r15 =>
  xR r15 ∧ (r15 = 0 →
      Post (-1001) σ_2) ∧
  (r15 ≠ 0 →
      (0 ≤ a1 ∧ a1 < (60 : Nat)) ∧
      Post (σ_2 1 (a1).toNat) σ_2))

def wp_X10_noPlace (a1 : Int) (σ : xSt) (Post : Int → Prop) : Prop :=
  xR a1 ∧
  xR (σ 0 1) ∧
  wp_X10_in a1 0 (σ 0 1) σ (fun r8 =>
  xR r8 ∧ (r8 ≠ 0 →
      Post 0) ∧
  (r8 = 0 →
      Post 1))

def wp_X10_place (a1 : Int) (a2 : Int) (σ : xSt) (Post : Int → xSt → Prop) : Prop :=
  ∀ σ_2 : xSt, σ_2 = xU σ 0 0 0 →
  wp_X10_noPlace a1 σ_2 (fun r7 =>
  xR r7 ∧ (r7 = 0 →
      wp_X10_placeOf a1 a2 σ_2 (fun r22 =>
      Post r22 σ_2)) ∧
  (r7 ≠ 0 →
      Post (-1001) σ_2))

def wp_X10_near (a0 : Int) (a1 : Int) (σ : xSt) (Post : Int → Prop) : Prop :=
  xR ((2 * a0) + a1) ∧ (((2 * a0) + a1) < 0 →
      xR (((2 * a1) - 1) - ((2 * a0) + a1)) ∧ xR (2 * a1) ∧ (2 * a1) ≠ (0 : Int) ∧
      Post (-(Int.tdiv (((2 * a1) - 1) - ((2 * a0) + a1)) (2 * a1)))) ∧
  (0 ≤ ((2 * a0) + a1) →
      xR ((2 * a0) + a1) ∧ xR (2 * a1) ∧ (2 * a1) ≠ (0 : Int) ∧
      Post (Int.tdiv ((2 * a0) + a1) (2 * a1)))

def wp_X10_wayOf (a0 : Int) (a1 : Int) (σ : xSt) (Post : Int → Prop) : Prop :=
  ∀ k4 : Int → Int → Prop, (∀ (x2_4 x3_4 : Int),
(      xR x3_4 ∧ (8 ≤ x3_4 →
          Post x2_4) ∧
      (x3_4 < 8 →
          wp_X10_stepX x3_4 σ (fun r11 =>
          xR r11 ∧ xR a0 ∧ (r11 ≠ a0 →
              k4 x2_4 (x3_4 + 1)) ∧
          (r11 = a0 →
              wp_X10_stepY x3_4 σ (fun r19 =>
              xR r19 ∧ xR a1 ∧ (r19 ≠ a1 →
                  k4 x2_4 (x3_4 + 1)) ∧
              (r19 = a1 →
                  k4 x3_4 (x3_4 + 1))))))) → k4 x2_4 x3_4) →
  k4 0 0

def wp_X10_draw (a1 : Int) (a2 : Int) (σ : xSt) (Post : Int → xSt → Prop) : Prop :=
  ∀ σ_2 : xSt, σ_2 = xU σ 0 0 0 →
  xR a1 ∧
  wp_X10_in a1 (-60) 60 σ_2 (fun r13 =>
  xR r13 ∧ (r13 = 0 →
      Post (-1002) σ_2) ∧
  (r13 ≠ 0 →
      xR a2 ∧
      wp_X10_in a2 (-60) 60 σ_2 (fun r27 =>
      xR r27 ∧ (r27 = 0 →
          Post (-1002) σ_2) ∧
      (r27 ≠ 0 →
          ∀ k45 : Prop, (
(              wp_X10_size a1 σ_2 (fun r46 =>
              wp_X10_size a2 σ_2 (fun r50 =>
              ∀ k67 : Int → Prop, (∀ (y0_67 : Int),
(                  xR ((σ_2 0 1) + y0_67) ∧ (((σ_2 0 1) + y0_67) ≤ 60 →
                      ∀ k86 : Int → xSt → Prop, (∀ (x4_86 : Int) (s86 : xSt),
(                          xR x4_86 ∧ xR y0_67 ∧ (y0_67 < x4_86 →
                              Post (s86 0 1) s86) ∧
                          (x4_86 ≤ y0_67 →
                              wp_X10_near (a1 * x4_86) y0_67 s86 (fun r97 =>
                              wp_X10_near (a1 * (x4_86 - 1)) y0_67 s86 (fun r107 =>
                              wp_X10_near (a2 * x4_86) y0_67 s86 (fun r118 =>
                              wp_X10_near (a2 * (x4_86 - 1)) y0_67 s86 (fun r128 =>
                              wp_X10_wayOf (r97 - r107) (r118 - r128) s86 (fun r146 =>
                              (0 ≤ (s86 0 1) ∧ (s86 0 1) < (60 : Nat)) ∧ ∀ σ_149 : xSt, σ_149 = xU s86 1 (((s86 0 1)).toNat) r146 →
                              ∀ σ_157 : xSt, σ_157 = xU σ_149 0 1 ((σ_149 0 1) + 1) →
                              k86 (x4_86 + 1) σ_157))))))) → k86 x4_86 s86) →
                      k86 1 σ_2) ∧
                  (60 < ((σ_2 0 1) + y0_67) →
                      Post (-1004) σ_2)) → k67 y0_67) →
              xR r46 ∧ xR r50 ∧ (r46 ≤ r50 →
                  wp_X10_size a2 σ_2 (fun r64 =>
                  k67 r64)) ∧
              (r50 < r46 →
                  wp_X10_size a1 σ_2 (fun r57 =>
                  k67 r57))))) → k45) →
          xR a1 ∧ (a1 ≠ 0 →
              k45) ∧
          (a1 = 0 →
              xR a2 ∧ (a2 ≠ 0 →
                  k45) ∧
              (a2 = 0 →
                  Post (-1002) σ_2))))))

def wp_X10_word (a1 : Int) (a2 : Int) (a3 : Int) (σ : xSt) (Post : Int → xSt → Prop) : Prop :=
  ∀ σ_2 : xSt, σ_2 = xU σ 0 0 0 →
  xR a1 ∧
  wp_X10_in a1 1 60 σ_2 (fun r11 =>
  xR r11 ∧ (r11 = 0 →
      Post (-1002) σ_2) ∧
  (r11 ≠ 0 →
      xR a2 ∧
      xR a1 ∧
      wp_X10_in a2 0 a1 σ_2 (fun r22 =>
      xR r22 ∧ (r22 = 0 →
          Post (-1002) σ_2) ∧
      (r22 ≠ 0 →
          xR a3 ∧
          xR (a1 - 1) ∧
          wp_X10_in a3 0 (a1 - 1) σ_2 (fun r35 =>
          xR r35 ∧ (r35 ≠ 0 →
              xR ((a3 + 1) * a2) ∧ xR a1 ∧ a1 ≠ (0 : Int) ∧
              xR (a3 * a2) ∧ xR a1 ∧ a1 ≠ (0 : Int) ∧
              xR (Int.tdiv ((a3 + 1) * a2) a1) ∧ xR (Int.tdiv (a3 * a2) a1) ∧ ((Int.tdiv ((a3 + 1) * a2) a1) ≤ (Int.tdiv (a3 * a2) a1) →
                  Post 0 σ_2) ∧
              ((Int.tdiv (a3 * a2) a1) < (Int.tdiv ((a3 + 1) * a2) a1) →
                  Post 1 σ_2)) ∧
          (r35 = 0 →
              Post (-1002) σ_2))))))

def wp_X10_isSo (a1 : Int) (a2 : Int) (σ : xSt) (Post : Int → Prop) : Prop :=
  ∀ k12 : Int → Int → Int → Prop, (∀ (x3_12 x4_12 x5_12 : Int),
(      xR x5_12 ∧ xR a2 ∧ (a2 ≤ x5_12 →
          ∀ k103 : Int → Prop, (∀ (y0_103 : Int),
(              xR x4_12 ∧ (x4_12 = 0 →
                  Post 0) ∧
              (x4_12 ≠ 0 →
                  xR y0_103 ∧ (y0_103 = 1 →
                      Post 1) ∧
                  (y0_103 ≠ 1 →
                      xR y0_103 ∧ (y0_103 ≠ 7 →
                          Post 0) ∧
                      (y0_103 = 7 →
                          Post 1)))) → k103 y0_103) →
          xR x3_12 ∧ (x3_12 ≠ (-999) →
              (0 ≤ a1 ∧ a1 < (60 : Nat)) ∧
              xR ((x3_12 - (σ 1 (a1).toNat)) + 8) ∧ xR 8 ∧ 8 ≠ (0 : Int) ∧
              k103 (Int.tmod ((x3_12 - (σ 1 (a1).toNat)) + 8) 8)) ∧
          (x3_12 = (-999) →
              k103 1)) ∧
      (x5_12 < a2 →
          (0 ≤ x5_12 ∧ x5_12 < (60 : Nat)) ∧
          (0 ≤ a1 ∧ a1 < (60 : Nat)) ∧
          xR (σ 1 (x5_12).toNat) ∧ xR (σ 1 (a1).toNat) ∧ ((σ 1 (x5_12).toNat) = (σ 1 (a1).toNat) →
              k12 x3_12 x4_12 (x5_12 + 1)) ∧
          ((σ 1 (x5_12).toNat) ≠ (σ 1 (a1).toNat) →
              ∀ k62 : Int → Prop, (∀ (y0_62 : Int),
(                  (0 ≤ x5_12 ∧ x5_12 < (60 : Nat)) ∧
                  k12 (σ 1 (x5_12).toNat) y0_62 (x5_12 + 1)) → k62 y0_62) →
              xR x4_12 ∧ (x4_12 = 0 →
                  k62 0) ∧
              (x4_12 ≠ 0 →
                  xR x3_12 ∧ (x3_12 = (-999) →
                      k62 1) ∧
                  (x3_12 ≠ (-999) →
                      (0 ≤ x5_12 ∧ x5_12 < (60 : Nat)) ∧
                      xR x3_12 ∧ xR (σ 1 (x5_12).toNat) ∧ (x3_12 ≠ (σ 1 (x5_12).toNat) →
                          k62 0) ∧
                      (x3_12 = (σ 1 (x5_12).toNat) →
                          k62 1)))))) → k12 x3_12 x4_12 x5_12) →
  k12 (-999) 1 (a1 + 1)

def wp_X10_spans (a1 : Int) (a2 : Int) (σ : xSt) (Post : Int → xSt → Prop) : Prop :=
  ∀ σ_8 : xSt, σ_8 = xU σ 2 0 (-1) →
  ∀ σ_15 : xSt, σ_15 = xU σ_8 2 1 1 →
  ∀ σ_24 : xSt, σ_24 = xU σ_15 3 0 2 →
  ∀ σ_31 : xSt, σ_31 = xU σ_24 3 1 1 →
  ∀ k37 : Int → Int → xSt → Prop, (∀ (x3_37 x4_37 : Int) (s37 : xSt),
(      xR x4_37 ∧ xR a2 ∧ (a2 ≤ x4_37 →
          xS ((s37 2 0) * (s37 3 1)) ∧ xS ((s37 3 0) * (s37 2 1)) ∧ (((s37 3 0) * (s37 2 1)) ≤ ((s37 2 0) * (s37 3 1)) →
              Post 0 s37) ∧
          (((s37 2 0) * (s37 3 1)) < ((s37 3 0) * (s37 2 1)) →
              Post 1 s37)) ∧
      (x4_37 < a2 →
          ∀ k52 : Int → Int → Int → xSt → Prop, (∀ (x3_52 x5_52 x6_52 : Int) (s52 : xSt),
(              xR x6_52 ∧ xR a2 ∧ (a2 < x6_52 →
                  k37 x3_52 (x4_37 + 1) s52) ∧
              (x6_52 ≤ a2 →
                  (0 ≤ (x6_52 - 1) ∧ (x6_52 - 1) < (60 : Nat)) ∧
                  xR (s52 1 (x6_52 - 1).toNat) ∧ xR 2 ∧ 2 ≠ (0 : Int) ∧
                  ∀ z5_72 : Int, z5_72 = (x5_52 + (Int.tmod (s52 1 (x6_52 - 1).toNat) 2)) →
                  ∀ k130 : xSt → Prop, (∀ (s130 : xSt),
(                      ∀ k163 : Prop, (
(                          xR (z5_72 + 1) ∧
                          ∀ σ_173 : xSt, σ_173 = xU s130 3 0 (z5_72 + 1) →
                          xR (x6_52 - x4_37) ∧
                          ∀ σ_185 : xSt, σ_185 = xU σ_173 3 1 (x6_52 - x4_37) →
                          k52 0 z5_72 (x6_52 + 1) σ_185) → k163) →
                      xR x3_52 ∧ (x3_52 ≠ 0 →
                          k163) ∧
                      (x3_52 = 0 →
                          xR (z5_72 + 1) ∧
                          xR (x6_52 - x4_37) ∧
                          xS ((z5_72 + 1) * (s130 3 1)) ∧ xS ((s130 3 0) * (x6_52 - x4_37)) ∧ (((s130 3 0) * (x6_52 - x4_37)) ≤ ((z5_72 + 1) * (s130 3 1)) →
                              k52 0 z5_72 (x6_52 + 1) s130) ∧
                          (((z5_72 + 1) * (s130 3 1)) < ((s130 3 0) * (x6_52 - x4_37)) →
                              k163))) → k130 s130) →
                  ∀ k107 : Prop, (
(                      xR (z5_72 - 1) ∧
                      ∀ σ_117 : xSt, σ_117 = xU s52 2 0 (z5_72 - 1) →
                      xR (x6_52 - x4_37) ∧
                      ∀ σ_129 : xSt, σ_129 = xU σ_117 2 1 (x6_52 - x4_37) →
                      k130 σ_129) → k107) →
                  xR x3_52 ∧ (x3_52 ≠ 0 →
                      k107) ∧
                  (x3_52 = 0 →
                      xR (z5_72 - 1) ∧
                      xR (x6_52 - x4_37) ∧
                      xS ((z5_72 - 1) * (s52 2 1)) ∧ xS ((s52 2 0) * (x6_52 - x4_37)) ∧ (((z5_72 - 1) * (s52 2 1)) ≤ ((s52 2 0) * (x6_52 - x4_37)) →
                          k130 s52) ∧
                      (((s52 2 0) * (x6_52 - x4_37)) < ((z5_72 - 1) * (s52 2 1)) →
                          k107)))) → k52 x3_52 x5_52 x6_52 s52) →
          k52 x3_37 0 (x4_37 + 1) s37)) → k37 x3_37 x4_37 s37) →
  k37 1 a1 σ_31

def wp_X10_isStraight (a1 : Int) (a2 : Int) (σ : xSt) (Post : Int → xSt → Prop) : Prop :=
  wp_X10_isSo a1 a2 σ (fun r3 =>
  xR r3 ∧ (r3 = 0 →
      Post 0 σ) ∧
  (r3 ≠ 0 →
      wp_X10_spans a1 a2 σ (fun r12 t12 =>
      xR r12 ∧ (r12 = 0 →
          Post 0 t12) ∧
      (r12 ≠ 0 →
          Post 1 t12))))

def wp_X10_noPiece (a1 : Int) (a2 : Int) (σ : xSt) (Post : Int → Prop) : Prop :=
  wp_X10_noPlace a1 σ (fun r2 =>
  xR r2 ∧ (r2 ≠ 0 →
      Post (-1001)) ∧
  (r2 = 0 →
      wp_X10_noPlace a2 σ (fun r10 =>
      xR r10 ∧ (r10 = 0 →
          xR a2 ∧ xR a1 ∧ (a1 ≤ a2 →
              Post 0) ∧
          (a2 < a1 →
              Post (-1002))) ∧
      (r10 ≠ 0 →
          Post (-1001)))))

def wp_X10_straight (a1 : Int) (a2 : Int) (σ : xSt) (Post : Int → xSt → Prop) : Prop :=
  ∀ σ_2 : xSt, σ_2 = xU σ 0 0 0 →
  wp_X10_noPiece a1 a2 σ_2 (fun r8 =>
  xR r8 ∧ (r8 = 0 →
      wp_X10_isStraight a1 a2 σ_2 (fun r23 t23 =>
      xR r23 ∧ (r23 = 0 →
          Post 0 t23) ∧
      (r23 ≠ 0 →
          Post 1 t23))) ∧
  (r8 ≠ 0 →
      Post r8 σ_2))

def wp_X10_told (a0 : Int) (a2 : Int) (a4 : Int) (σ : xSt) (Post : Int → Prop) : Prop :=
  ∀ k12 : Int → Prop, (∀ (y0_12 : Int),
(      ∀ k17 : Int → Int → Prop, (∀ (x5_17 x7_17 : Int),
(          xS x7_17 ∧ (x7_17 = 0 →
              xR a4 ∧ (a4 = 0 →
                  xS a2 ∧ xS x5_17 ∧ x5_17 ≠ (0 : Int) ∧
                  Post (Int.tdiv a2 x5_17)) ∧
              (a4 ≠ 0 →
                  xS a0 ∧ xS x5_17 ∧ x5_17 ≠ (0 : Int) ∧
                  Post (Int.tdiv a0 x5_17))) ∧
          (x7_17 ≠ 0 →
              xS x5_17 ∧ xS x7_17 ∧ x7_17 ≠ (0 : Int) ∧
              k17 x7_17 (Int.tmod x5_17 x7_17))) → k17 x5_17 x7_17) →
      k17 y0_12 a2) → k12 y0_12) →
  xS a0 ∧ (0 ≤ a0 →
      k12 a0) ∧
  (a0 < 0 →
      k12 (-a0))

def wp_X10_span (a1 : Int) (a2 : Int) (a3 : Int) (a4 : Int) (σ : xSt) (Post : Int → xSt → Prop) : Prop :=
  ∀ σ_2 : xSt, σ_2 = xU σ 0 0 0 →
  wp_X10_noPiece a1 a2 σ_2 (fun r8 =>
  xR r8 ∧ (r8 = 0 →
      wp_X10_isSo a1 a2 σ_2 (fun r24 =>
      xR r24 ∧ (r24 ≠ 0 →
          wp_X10_spans a1 a2 σ_2 (fun r37 t37 =>
          xR a3 ∧ (a3 = 0 →
              wp_X10_told (t37 2 0) (t37 2 1) a4 t37 (fun r79 =>
              Post r79 t37)) ∧
          (a3 ≠ 0 →
              wp_X10_told (t37 3 0) (t37 3 1) a4 t37 (fun r59 =>
              Post r59 t37)))) ∧
      (r24 = 0 →
          Post (-1003) σ_2))) ∧
  (r8 ≠ 0 →
      Post r8 σ_2))

def wp_X10_plain (a1 : Int) (a2 : Int) (a3 : Int) (σ : xSt) (Post : Int → xSt → Prop) : Prop :=
  ∀ σ_2 : xSt, σ_2 = xU σ 0 0 0 →
  wp_X10_noPiece a1 a2 σ_2 (fun r8 =>
  xR r8 ∧ (r8 = 0 →
      wp_X10_isStraight a1 a2 σ_2 (fun r24 t24 =>
      xR r24 ∧ (r24 ≠ 0 →
          ∀ k37 : Int → Prop, (∀ (x5_37 : Int),
(              xR x5_37 ∧ (1000 ≤ x5_37 →
                  Post (-999) t24) ∧
              (x5_37 < 1000 →
                  ∀ k48 : Int → Prop, (∀ (x6_48 : Int),
(                      xR x6_48 ∧ xR x5_37 ∧ (x5_37 < x6_48 →
                          k37 (x5_37 + 1)) ∧
                      (x6_48 ≤ x5_37 →
                          xR x5_37 ∧
                          xR x6_48 ∧
                          xS ((t24 2 0) * x5_37) ∧ xS (x6_48 * (t24 2 1)) ∧ ((x6_48 * (t24 2 1)) ≤ ((t24 2 0) * x5_37) →
                              k48 (x6_48 + 1)) ∧
                          (((t24 2 0) * x5_37) < (x6_48 * (t24 2 1)) →
                              xR x6_48 ∧
                              xR x5_37 ∧
                              xS (x6_48 * (t24 3 1)) ∧ xS ((t24 3 0) * x5_37) ∧ (((t24 3 0) * x5_37) ≤ (x6_48 * (t24 3 1)) →
                                  k48 (x6_48 + 1)) ∧
                              ((x6_48 * (t24 3 1)) < ((t24 3 0) * x5_37) →
                                  xR a3 ∧ (a3 = 0 →
                                      Post x5_37 t24) ∧
                                  (a3 ≠ 0 →
                                      Post x6_48 t24))))) → k48 x6_48) →
                  k48 0)) → k37 x5_37) →
          k37 1) ∧
      (r24 = 0 →
          Post (-1003) t24))) ∧
  (r8 ≠ 0 →
      Post r8 σ_2))

def wp_X10_endOf (a1 : Int) (σ : xSt) (Post : Int → xSt → Prop) : Prop :=
  ∀ k2 : Int → xSt → Prop, (∀ (x2_2 : Int) (s2 : xSt),
(      xR x2_2 ∧ xR (s2 0 1) ∧ ((s2 0 1) ≤ x2_2 →
          Post x2_2 s2) ∧
      (x2_2 < (s2 0 1) →
          wp_X10_isStraight a1 (x2_2 + 1) s2 (fun r15 t15 =>
          xR r15 ∧ (r15 = 0 →
              Post x2_2 t15) ∧
          (r15 ≠ 0 →
              k2 (x2_2 + 1) t15)))) → k2 x2_2 s2) →
  k2 a1 σ

def wp_X10_longest (a1 : Int) (σ : xSt) (Post : Int → xSt → Prop) : Prop :=
  ∀ σ_2 : xSt, σ_2 = xU σ 0 0 0 →
  ∀ k12 : Int → Int → Int → xSt → Prop, (∀ (x2_12 x3_12 x4_12 : Int) (s12 : xSt),
(      xR x4_12 ∧ xR (s12 0 1) ∧ ((s12 0 1) ≤ x4_12 →
          xR a1 ∧ (a1 = 0 →
              Post x2_12 s12) ∧
          (a1 ≠ 0 →
              Post x3_12 s12)) ∧
      (x4_12 < (s12 0 1) →
          wp_X10_endOf x4_12 s12 (fun r24 t24 =>
          xR (r24 - x4_12) ∧ xR x2_12 ∧ ((r24 - x4_12) ≤ x2_12 →
              k12 x2_12 x3_12 (x4_12 + 1) t24) ∧
          (x2_12 < (r24 - x4_12) →
              k12 (r24 - x4_12) x4_12 (x4_12 + 1) t24)))) → k12 x2_12 x3_12 x4_12 s12) →
  k12 0 0 0 σ_2

def wp_X10_pieces (σ : xSt) (Post : Int → xSt → Prop) : Prop :=
  ∀ σ_2 : xSt, σ_2 = xU σ 0 0 0 →
  ∀ k9 : Int → Int → xSt → Prop, (∀ (x1_9 x2_9 : Int) (s9 : xSt),
(      xR x2_9 ∧ xR (s9 0 1) ∧ ((s9 0 1) ≤ x2_9 →
          Post x1_9 s9) ∧
      (x2_9 < (s9 0 1) →
          wp_X10_endOf x2_9 s9 (fun r19 t19 =>
          k9 (x1_9 + 1) r19 t19))) → k9 x1_9 x2_9 s9) →
  k9 0 0 σ_2

def wp_X10_pieceEnd (a1 : Int) (σ : xSt) (Post : Int → xSt → Prop) : Prop :=
  ∀ σ_2 : xSt, σ_2 = xU σ 0 0 0 →
  ∀ k9 : Int → Int → xSt → Prop, (∀ (x2_9 x3_9 : Int) (s9 : xSt),
(      xR x3_9 ∧ xR (s9 0 1) ∧ ((s9 0 1) ≤ x3_9 →
          Post (-999) s9) ∧
      (x3_9 < (s9 0 1) →
          wp_X10_endOf x3_9 s9 (fun r19 t19 =>
          xR x2_9 ∧ xR a1 ∧ (x2_9 ≠ a1 →
              k9 (x2_9 + 1) r19 t19) ∧
          (x2_9 = a1 →
              Post r19 t19)))) → k9 x2_9 x3_9 s9) →
  k9 0 0 σ_2

def wp_X10_fields (σ : xSt) (Post : Int → Prop) : Prop :=
  Post ((σ 0 5) * (σ 0 6))

def wp_X10_noField (a1 : Int) (σ : xSt) (Post : Int → Prop) : Prop :=
  xR a1 ∧
  wp_X10_fields σ (fun r4 =>
  xR (r4 - 1) ∧
  wp_X10_in a1 0 (r4 - 1) σ (fun r10 =>
  xR r10 ∧ (r10 ≠ 0 →
      Post 0) ∧
  (r10 = 0 →
      Post 1)))

def wp_X10_isThere (a1 : Int) (a2 : Int) (σ : xSt) (Post : Int → Prop) : Prop :=
  xR a1 ∧
  xR ((σ 0 5) - 1) ∧
  wp_X10_in a1 0 ((σ 0 5) - 1) σ (fun r10 =>
  xR r10 ∧ (r10 = 0 →
      Post 0) ∧
  (r10 ≠ 0 →
      xR a2 ∧
      xR ((σ 0 6) - 1) ∧
      wp_X10_in a2 0 ((σ 0 6) - 1) σ (fun r26 =>
      xR r26 ∧ (r26 = 0 →
          Post 0) ∧
      (r26 ≠ 0 →
          Post 1))))

def wp_X10_isOf (a1 : Int) (a2 : Int) (σ : xSt) (Post : Int → Prop) : Prop :=
  wp_X10_isThere a1 a2 σ (fun r3 =>
  xR r3 ∧ (r3 = 0 →
      Post 0) ∧
  (r3 ≠ 0 →
      (0 ≤ ((a2 * (σ 0 5)) + a1) ∧ ((a2 * (σ 0 5)) + a1) < (144 : Nat)) ∧
      xR (σ 4 ((a2 * (σ 0 5)) + a1).toNat) ∧ ((σ 4 ((a2 * (σ 0 5)) + a1).toNat) = 0 →
          Post 0) ∧
      ((σ 4 ((a2 * (σ 0 5)) + a1).toNat) ≠ 0 →
          Post 1)))

def wp_X10_onEdge (a1 : Int) (σ : xSt) (Post : Int → Prop) : Prop :=
  xR a1 ∧ xR (σ 0 5) ∧ (σ 0 5) ≠ (0 : Int) ∧
  xR a1 ∧ xR (σ 0 5) ∧ (σ 0 5) ≠ (0 : Int) ∧
  xR (Int.tmod a1 (σ 0 5)) ∧ ((Int.tmod a1 (σ 0 5)) = 0 →
      Post 1) ∧
  ((Int.tmod a1 (σ 0 5)) ≠ 0 →
      xR (Int.tdiv a1 (σ 0 5)) ∧ ((Int.tdiv a1 (σ 0 5)) = 0 →
          Post 1) ∧
      ((Int.tdiv a1 (σ 0 5)) ≠ 0 →
          xR (Int.tmod a1 (σ 0 5)) ∧ xR ((σ 0 5) - 1) ∧ ((Int.tmod a1 (σ 0 5)) = ((σ 0 5) - 1) →
              Post 1) ∧
          ((Int.tmod a1 (σ 0 5)) ≠ ((σ 0 5) - 1) →
              xR (Int.tdiv a1 (σ 0 5)) ∧ xR ((σ 0 6) - 1) ∧ ((Int.tdiv a1 (σ 0 5)) ≠ ((σ 0 6) - 1) →
                  Post 0) ∧
              ((Int.tdiv a1 (σ 0 5)) = ((σ 0 6) - 1) →
                  Post 1))))

def wp_X10_many (σ : xSt) (Post : Int → Prop) : Prop :=
  ∀ k4 : Int → Int → Prop, (∀ (x1_4 x2_4 : Int),
(      wp_X10_fields σ (fun r6 =>
      xR x2_4 ∧ xR r6 ∧ (r6 ≤ x2_4 →
          Post x1_4) ∧
      (x2_4 < r6 →
          (0 ≤ x2_4 ∧ x2_4 < (144 : Nat)) ∧
          xR (σ 4 (x2_4).toNat) ∧ ((σ 4 (x2_4).toNat) = 0 →
              k4 (x1_4 + 0) (x2_4 + 1)) ∧
          ((σ 4 (x2_4).toNat) ≠ 0 →
              k4 (x1_4 + 1) (x2_4 + 1))))) → k4 x1_4 x2_4) →
  k4 0 0

def wp_X10_ground (a1 : Int) (a2 : Int) (σ : xSt) (Post : Int → xSt → Prop) : Prop :=
  ∀ σ_2 : xSt, σ_2 = xU σ 0 0 0 →
  xR a1 ∧
  wp_X10_in a1 1 12 σ_2 (fun r11 =>
  xR r11 ∧ (r11 = 0 →
      Post (-1002) σ_2) ∧
  (r11 ≠ 0 →
      xR a2 ∧
      wp_X10_in a2 1 12 σ_2 (fun r23 =>
      xR r23 ∧ (r23 ≠ 0 →
          ∀ σ_35 : xSt, σ_35 = xU σ_2 0 5 a1 →
          ∀ σ_40 : xSt, σ_40 = xU σ_35 0 6 a2 →
          ∀ k45 : Int → xSt → Prop, (∀ (x3_45 : Int) (s45 : xSt),
(              xR x3_45 ∧ (144 ≤ x3_45 →
                  Post (a1 * a2) s45) ∧
              (x3_45 < 144 →
                  (0 ≤ x3_45 ∧ x3_45 < (144 : Nat)) ∧ ∀ σ_58 : xSt, σ_58 = xU s45 4 ((x3_45).toNat) 0 →
                  k45 (x3_45 + 1) σ_58)) → k45 x3_45 s45) →
          k45 0 σ_40) ∧
      (r23 = 0 →
          Post (-1002) σ_2))))

def wp_X10_set (a1 : Int) (a2 : Int) (σ : xSt) (Post : Int → xSt → Prop) : Prop :=
  ∀ σ_2 : xSt, σ_2 = xU σ 0 0 0 →
  wp_X10_noField a1 σ_2 (fun r7 =>
  xR r7 ∧ (r7 = 0 →
      (0 ≤ a1 ∧ a1 < (144 : Nat)) ∧
      ∀ k31 : Int → Prop, (∀ (y0_31 : Int),
(          (0 ≤ a1 ∧ a1 < (144 : Nat)) ∧ (a2 = 0 ∨ a2 = 1) ∧ ∀ σ_38 : xSt, σ_38 = xU σ_2 4 ((a1).toNat) a2 →
          Post y0_31 σ_38) → k31 y0_31) →
      xR (σ_2 4 (a1).toNat) ∧ ((σ_2 4 (a1).toNat) = 0 →
          k31 0) ∧
      ((σ_2 4 (a1).toNat) ≠ 0 →
          k31 1)) ∧
  (r7 ≠ 0 →
      Post (-1001) σ_2))

def wp_X10_has (a1 : Int) (σ : xSt) (Post : Int → xSt → Prop) : Prop :=
  ∀ σ_2 : xSt, σ_2 = xU σ 0 0 0 →
  wp_X10_noField a1 σ_2 (fun r7 =>
  xR r7 ∧ (r7 = 0 →
      (0 ≤ a1 ∧ a1 < (144 : Nat)) ∧
      xR (σ_2 4 (a1).toNat) ∧ ((σ_2 4 (a1).toNat) = 0 →
          Post 0 σ_2) ∧
      ((σ_2 4 (a1).toNat) ≠ 0 →
          Post 1 σ_2)) ∧
  (r7 ≠ 0 →
      Post (-1001) σ_2))

def wp_X10_beside (a1 : Int) (a2 : Int) (σ : xSt) (Post : Int → Prop) : Prop :=
  xR a1 ∧ xR (σ 0 5) ∧ (σ 0 5) ≠ (0 : Int) ∧
  xR a2 ∧ xR (σ 0 5) ∧ (σ 0 5) ≠ (0 : Int) ∧
  wp_X10_size ((Int.tmod a1 (σ 0 5)) - (Int.tmod a2 (σ 0 5))) σ (fun r13 =>
  xR a1 ∧ xR (σ 0 5) ∧ (σ 0 5) ≠ (0 : Int) ∧
  xR a2 ∧ xR (σ 0 5) ∧ (σ 0 5) ≠ (0 : Int) ∧
  wp_X10_size ((Int.tdiv a1 (σ 0 5)) - (Int.tdiv a2 (σ 0 5))) σ (fun r29 =>
  xR (r13 + r29) ∧ ((r13 + r29) ≠ 1 →
      Post 0) ∧
  ((r13 + r29) = 1 →
      Post 1)))

def wp_X10_about (a1 : Int) (a2 : Int) (σ : xSt) (Post : Int → Prop) : Prop :=
  xR a1 ∧ xR a2 ∧ (a1 = a2 →
      Post 0) ∧
  (a1 ≠ a2 →
      xR a1 ∧ xR (σ 0 5) ∧ (σ 0 5) ≠ (0 : Int) ∧
      xR a2 ∧ xR (σ 0 5) ∧ (σ 0 5) ≠ (0 : Int) ∧
      wp_X10_size ((Int.tmod a1 (σ 0 5)) - (Int.tmod a2 (σ 0 5))) σ (fun r18 =>
      xR r18 ∧ (2 ≤ r18 →
          Post 0) ∧
      (r18 < 2 →
          xR a1 ∧ xR (σ 0 5) ∧ (σ 0 5) ≠ (0 : Int) ∧
          xR a2 ∧ xR (σ 0 5) ∧ (σ 0 5) ≠ (0 : Int) ∧
          wp_X10_size ((Int.tdiv a1 (σ 0 5)) - (Int.tdiv a2 (σ 0 5))) σ (fun r38 =>
          xR r38 ∧ (2 ≤ r38 →
              Post 0) ∧
          (r38 < 2 →
              Post 1)))))

def wp_X10_hang (a1 : Int) (σ : xSt) (Post : xSt → Prop) : Prop :=
  ∀ k2 : Int → xSt → Prop, (∀ (x2_2 : Int) (s2 : xSt),
(      wp_X10_fields s2 (fun r4 =>
      xR x2_2 ∧ xR r4 ∧ (r4 ≤ x2_2 →
          ∀ k56 : Int → xSt → Prop, (∀ (x2_56 : Int) (s56 : xSt),
(              xR x2_56 ∧ (x2_56 = 0 →
                  Post s56) ∧
              (x2_56 ≠ 0 →
                  ∀ k64 : Int → Int → xSt → Prop, (∀ (x2_64 x3_64 : Int) (s64 : xSt),
(                      wp_X10_fields s64 (fun r66 =>
                      xR x3_64 ∧ xR r66 ∧ (r66 ≤ x3_64 →
                          k56 x2_64 s64) ∧
                      (x3_64 < r66 →
                          ∀ k75 : Int → Int → xSt → Prop, (∀ (x2_75 x4_75 : Int) (s75 : xSt),
(                              wp_X10_fields s75 (fun r78 =>
                              xR x4_75 ∧ xR r78 ∧ (r78 ≤ x4_75 →
                                  k64 x2_75 (x3_64 + 1) s75) ∧
                              (x4_75 < r78 →
                                  (0 ≤ x3_64 ∧ x3_64 < (144 : Nat)) ∧
                                  xR (s75 6 (x3_64).toNat) ∧ ((s75 6 (x3_64).toNat) = (-999) →
                                      k64 x2_75 (x3_64 + 1) s75) ∧
                                  ((s75 6 (x3_64).toNat) ≠ (-999) →
                                      (0 ≤ x4_75 ∧ x4_75 < (144 : Nat)) ∧
                                      xR (s75 6 (x4_75).toNat) ∧ ((s75 6 (x4_75).toNat) = (-999) →
                                          k75 x2_75 (x4_75 + 1) s75) ∧
                                      ((s75 6 (x4_75).toNat) ≠ (-999) →
                                          (0 ≤ x4_75 ∧ x4_75 < (144 : Nat)) ∧
                                          (0 ≤ x3_64 ∧ x3_64 < (144 : Nat)) ∧
                                          xR (s75 6 (x4_75).toNat) ∧ xR (s75 6 (x3_64).toNat) ∧ ((s75 6 (x3_64).toNat) ≤ (s75 6 (x4_75).toNat) →
                                              k75 x2_75 (x4_75 + 1) s75) ∧
                                          ((s75 6 (x4_75).toNat) < (s75 6 (x3_64).toNat) →
                                              ∀ k152 : Prop, (
(                                                  (0 ≤ x4_75 ∧ x4_75 < (144 : Nat)) ∧
                                                  (0 ≤ x3_64 ∧ x3_64 < (144 : Nat)) ∧ ∀ σ_164 : xSt, σ_164 = xU s75 6 ((x3_64).toNat) (s75 6 (x4_75).toNat) →
                                                  k75 1 (x4_75 + 1) σ_164) → k152) →
                                              xR a1 ∧ (a1 = 0 →
                                                  wp_X10_beside x3_64 x4_75 s75 (fun r146 =>
                                                  xR r146 ∧ (r146 = 0 →
                                                      k75 x2_75 (x4_75 + 1) s75) ∧
                                                  (r146 ≠ 0 →
                                                      k152))) ∧
                                              (a1 ≠ 0 →
                                                  wp_X10_about x3_64 x4_75 s75 (fun r133 =>
                                                  xR r133 ∧ (r133 = 0 →
                                                      k75 x2_75 (x4_75 + 1) s75) ∧
                                                  (r133 ≠ 0 →
                                                      k152))))))))) → k75 x2_75 x4_75 s75) →
                          k75 x2_64 0 s64))) → k64 x2_64 x3_64 s64) →
                  k64 0 0 s56)) → k56 x2_56 s56) →
          k56 1 s2) ∧
      (x2_2 < r4 →
          xR a1 ∧ (a1 = 0 →
              (0 ≤ x2_2 ∧ x2_2 < (144 : Nat)) ∧
              xR (s2 5 (x2_2).toNat) ∧ ((s2 5 (x2_2).toNat) ≠ 0 →
                  (0 ≤ x2_2 ∧ x2_2 < (144 : Nat)) ∧ ∀ σ_47 : xSt, σ_47 = xU s2 6 ((x2_2).toNat) (-999) →
                  k2 (x2_2 + 1) σ_47) ∧
              ((s2 5 (x2_2).toNat) = 0 →
                  (0 ≤ x2_2 ∧ x2_2 < (144 : Nat)) ∧ ∀ σ_47 : xSt, σ_47 = xU s2 6 ((x2_2).toNat) x2_2 →
                  k2 (x2_2 + 1) σ_47)) ∧
          (a1 ≠ 0 →
              (0 ≤ x2_2 ∧ x2_2 < (144 : Nat)) ∧
              xR (s2 4 (x2_2).toNat) ∧ ((s2 4 (x2_2).toNat) = 0 →
                  (0 ≤ x2_2 ∧ x2_2 < (144 : Nat)) ∧ ∀ σ_47 : xSt, σ_47 = xU s2 6 ((x2_2).toNat) (-999) →
                  k2 (x2_2 + 1) σ_47) ∧
              ((s2 4 (x2_2).toNat) ≠ 0 →
                  (0 ≤ x2_2 ∧ x2_2 < (144 : Nat)) ∧ ∀ σ_47 : xSt, σ_47 = xU s2 6 ((x2_2).toNat) x2_2 →
                  k2 (x2_2 + 1) σ_47))))) → k2 x2_2 s2) →
  k2 0 σ

def wp_X10_comesOut (a1 : Int) (σ : xSt) (Post : Int → Prop) : Prop :=
  ∀ k4 : Int → Int → Prop, (∀ (x2_4 x3_4 : Int),
(      wp_X10_fields σ (fun r6 =>
      xR x3_4 ∧ xR r6 ∧ (r6 ≤ x3_4 →
          (x2_4 = 0 ∨ x2_4 = 1) ∧ Post x2_4) ∧
      (x3_4 < r6 →
          xR x2_4 ∧ (x2_4 ≠ 0 →
              k4 1 (x3_4 + 1)) ∧
          (x2_4 = 0 →
              (0 ≤ x3_4 ∧ x3_4 < (144 : Nat)) ∧
              (0 ≤ a1 ∧ a1 < (144 : Nat)) ∧
              xR (σ 6 (x3_4).toNat) ∧ xR (σ 6 (a1).toNat) ∧ ((σ 6 (x3_4).toNat) ≠ (σ 6 (a1).toNat) →
                  k4 0 (x3_4 + 1)) ∧
              ((σ 6 (x3_4).toNat) = (σ 6 (a1).toNat) →
                  wp_X10_onEdge x3_4 σ (fun r33 =>
                  xR r33 ∧ (r33 = 0 →
                      k4 0 (x3_4 + 1)) ∧
                  (r33 ≠ 0 →
                      k4 1 (x3_4 + 1)))))))) → k4 x2_4 x3_4) →
  k4 0 0

def wp_X10_fill (a1 : Int) (a2 : Int) (σ : xSt) (Post : Int → xSt → Prop) : Prop :=
  ∀ σ_2 : xSt, σ_2 = xU σ 0 0 0 →
  wp_X10_noField a1 σ_2 (fun r7 =>
  xR r7 ∧ (r7 = 0 →
      ∀ k19 : Int → xSt → Prop, (∀ (x3_19 : Int) (s19 : xSt),
(          xR x3_19 ∧ (144 ≤ x3_19 →
              ∀ k41 : Int → xSt → Prop, (∀ (x3_41 : Int) (s41 : xSt),
(                  xR x3_41 ∧ xR (s41 0 1) ∧ ((s41 0 1) < x3_41 →
                      ∀ k148 : Prop, (
(                          wp_X10_hang 0 s41 (fun t150 =>
                          ∀ k155 : Int → xSt → Prop, (∀ (x3_155 : Int) (s155 : xSt),
(                              wp_X10_fields s155 (fun r157 =>
                              xR x3_155 ∧ xR r157 ∧ (r157 ≤ x3_155 →
                                  wp_X10_many s155 (fun r211 =>
                                  Post r211 s155)) ∧
                              (x3_155 < r157 →
                                  (0 ≤ x3_155 ∧ x3_155 < (144 : Nat)) ∧
                                  xR (s155 4 (x3_155).toNat) ∧ ((s155 4 (x3_155).toNat) ≠ 0 →
                                      (0 ≤ x3_155 ∧ x3_155 < (144 : Nat)) ∧ ∀ σ_203 : xSt, σ_203 = xU s155 4 ((x3_155).toNat) 1 →
                                      k155 (x3_155 + 1) σ_203) ∧
                                  ((s155 4 (x3_155).toNat) = 0 →
                                      (0 ≤ x3_155 ∧ x3_155 < (144 : Nat)) ∧
                                      xR (s155 5 (x3_155).toNat) ∧ ((s155 5 (x3_155).toNat) ≠ 0 →
                                          (0 ≤ x3_155 ∧ x3_155 < (144 : Nat)) ∧ ∀ σ_203 : xSt, σ_203 = xU s155 4 ((x3_155).toNat) 1 →
                                          k155 (x3_155 + 1) σ_203) ∧
                                      ((s155 5 (x3_155).toNat) = 0 →
                                          xR a2 ∧ (a2 = 0 →
                                              (0 ≤ x3_155 ∧ x3_155 < (144 : Nat)) ∧ ∀ σ_203 : xSt, σ_203 = xU s155 4 ((x3_155).toNat) 0 →
                                              k155 (x3_155 + 1) σ_203) ∧
                                          (a2 ≠ 0 →
                                              wp_X10_comesOut x3_155 s155 (fun r192 =>
                                              xR r192 ∧ (r192 ≠ 0 →
                                                  (0 ≤ x3_155 ∧ x3_155 < (144 : Nat)) ∧ ∀ σ_203 : xSt, σ_203 = xU s155 4 ((x3_155).toNat) 0 →
                                                  k155 (x3_155 + 1) σ_203) ∧
                                              (r192 = 0 →
                                                  (0 ≤ x3_155 ∧ x3_155 < (144 : Nat)) ∧ ∀ σ_203 : xSt, σ_203 = xU s155 4 ((x3_155).toNat) 1 →
                                                  k155 (x3_155 + 1) σ_203)))))))) → k155 x3_155 s155) →
                          k155 0 t150)) → k148) →
                      xR a2 ∧ (a2 = 0 →
                          k148) ∧
                      (a2 ≠ 0 →
                          wp_X10_placeOf (s41 0 1) 0 s41 (fun r126 =>
                          xR r126 ∧ (r126 ≠ 0 →
                              Post (-1003) s41) ∧
                          (r126 = 0 →
                              wp_X10_placeOf (s41 0 1) 1 s41 (fun r138 =>
                              xR r138 ∧ (r138 = 0 →
                                  k148) ∧
                              (r138 ≠ 0 →
                                  Post (-1003) s41)))))) ∧
                  (x3_41 ≤ (s41 0 1) →
                      xR a1 ∧ xR (s41 0 5) ∧ (s41 0 5) ≠ (0 : Int) ∧
                      wp_X10_placeOf x3_41 0 s41 (fun r58 =>
                      ∀ z4_62 : Int, z4_62 = ((Int.tmod a1 (s41 0 5)) + r58) →
                      xR a1 ∧ xR (s41 0 5) ∧ (s41 0 5) ≠ (0 : Int) ∧
                      wp_X10_placeOf x3_41 1 s41 (fun r73 =>
                      ∀ z5_77 : Int, z5_77 = ((Int.tdiv a1 (s41 0 5)) + r73) →
                      wp_X10_isThere z4_62 z5_77 s41 (fun r84 =>
                      xR r84 ∧ (r84 ≠ 0 →
                          (0 ≤ ((z5_77 * (s41 0 5)) + z4_62) ∧ ((z5_77 * (s41 0 5)) + z4_62) < (144 : Nat)) ∧ ∀ σ_109 : xSt, σ_109 = xU s41 5 ((((z5_77 * (s41 0 5)) + z4_62)).toNat) 1 →
                          k41 (x3_41 + 1) σ_109) ∧
                      (r84 = 0 →
                          Post (-1002) s41)))))) → k41 x3_41 s41) →
              k41 0 s19) ∧
          (x3_19 < 144 →
              (0 ≤ x3_19 ∧ x3_19 < (144 : Nat)) ∧ ∀ σ_32 : xSt, σ_32 = xU s19 5 ((x3_19).toNat) 0 →
              k19 (x3_19 + 1) σ_32)) → k19 x3_19 s19) →
      k19 0 σ_2) ∧
  (r7 ≠ 0 →
      Post (-1001) σ_2))

def wp_X10_parts (σ : xSt) (Post : Int → xSt → Prop) : Prop :=
  wp_X10_hang 1 σ (fun t2 =>
  ∀ k9 : Int → Int → Prop, (∀ (x1_9 x2_9 : Int),
(      wp_X10_fields t2 (fun r11 =>
      xR x2_9 ∧ xR r11 ∧ (r11 ≤ x2_9 →
          Post x1_9 t2) ∧
      (x2_9 < r11 →
          (0 ≤ x2_9 ∧ x2_9 < (144 : Nat)) ∧
          xR (t2 6 (x2_9).toNat) ∧ xR x2_9 ∧ ((t2 6 (x2_9).toNat) ≠ x2_9 →
              k9 (x1_9 + 0) (x2_9 + 1)) ∧
          ((t2 6 (x2_9).toNat) = x2_9 →
              k9 (x1_9 + 1) (x2_9 + 1))))) → k9 x1_9 x2_9) →
  k9 0 0)

def wp_X10_holes (σ : xSt) (Post : Int → xSt → Prop) : Prop :=
  ∀ k2 : Int → xSt → Prop, (∀ (x1_2 : Int) (s2 : xSt),
(      wp_X10_fields s2 (fun r4 =>
      xR x1_2 ∧ xR r4 ∧ (r4 ≤ x1_2 →
          wp_X10_hang 0 s2 (fun t30 =>
          ∀ k37 : Int → Int → Prop, (∀ (x1_37 x2_37 : Int),
(              wp_X10_fields t30 (fun r39 =>
              xR x2_37 ∧ xR r39 ∧ (r39 ≤ x2_37 →
                  Post x1_37 t30) ∧
              (x2_37 < r39 →
                  (0 ≤ x2_37 ∧ x2_37 < (144 : Nat)) ∧
                  xR (t30 6 (x2_37).toNat) ∧ xR x2_37 ∧ ((t30 6 (x2_37).toNat) ≠ x2_37 →
                      k37 (x1_37 + 0) (x2_37 + 1)) ∧
                  ((t30 6 (x2_37).toNat) = x2_37 →
                      wp_X10_comesOut x2_37 t30 (fun r58 =>
                      xR r58 ∧ (r58 ≠ 0 →
                          k37 (x1_37 + 0) (x2_37 + 1)) ∧
                      (r58 = 0 →
                          k37 (x1_37 + 1) (x2_37 + 1))))))) → k37 x1_37 x2_37) →
          k37 0 0)) ∧
      (x1_2 < r4 →
          (0 ≤ x1_2 ∧ x1_2 < (144 : Nat)) ∧
          (0 ≤ x1_2 ∧ x1_2 < (144 : Nat)) ∧ ((s2 4 (x1_2).toNat) = 0 ∨ (s2 4 (x1_2).toNat) = 1) ∧ ∀ σ_21 : xSt, σ_21 = xU s2 5 ((x1_2).toNat) (s2 4 (x1_2).toNat) →
          k2 (x1_2 + 1) σ_21))) → k2 x1_2 s2) →
  k2 0 σ

def wp_X10_rims (σ : xSt) (Post : Int → Prop) : Prop :=
  ∀ k4 : Int → Int → Prop, (∀ (x1_4 x2_4 : Int),
(      wp_X10_fields σ (fun r6 =>
      xR x2_4 ∧ xR r6 ∧ (r6 ≤ x2_4 →
          Post x1_4) ∧
      (x2_4 < r6 →
          xR x2_4 ∧ xR (σ 0 5) ∧ (σ 0 5) ≠ (0 : Int) ∧
          xR x2_4 ∧ xR (σ 0 5) ∧ (σ 0 5) ≠ (0 : Int) ∧
          ∀ k30 : Int → Int → Prop, (∀ (x1_30 x5_30 : Int),
(              xR x5_30 ∧ (8 ≤ x5_30 →
                  k4 x1_30 (x2_4 + 1)) ∧
              (x5_30 < 8 →
                  (0 ≤ x2_4 ∧ x2_4 < (144 : Nat)) ∧
                  xR (σ 4 (x2_4).toNat) ∧ ((σ 4 (x2_4).toNat) = 0 →
                      k4 x1_30 (x2_4 + 1)) ∧
                  ((σ 4 (x2_4).toNat) ≠ 0 →
                      wp_X10_stepX x5_30 σ (fun r51 =>
                      wp_X10_stepY x5_30 σ (fun r59 =>
                      wp_X10_isOf ((Int.tmod x2_4 (σ 0 5)) + r51) ((Int.tdiv x2_4 (σ 0 5)) + r59) σ (fun r63 =>
                      xR r63 ∧ (r63 = 0 →
                          k30 (x1_30 + 1) (x5_30 + 2)) ∧
                      (r63 ≠ 0 →
                          k30 (x1_30 + 0) (x5_30 + 2)))))))) → k30 x1_30 x5_30) →
          k30 x1_4 0))) → k4 x1_4 x2_4) →
  k4 0 0

def wp_X10_side (a1 : Int) (a2 : Int) (a3 : Int) (σ : xSt) (Post : Int → Prop) : Prop :=
  xR a2 ∧ xR (σ 0 5) ∧ (σ 0 5) ≠ (0 : Int) ∧
  xR a1 ∧ xR (σ 0 5) ∧ (σ 0 5) ≠ (0 : Int) ∧
  xR a3 ∧ xR (σ 0 5) ∧ (σ 0 5) ≠ (0 : Int) ∧
  xR a1 ∧ xR (σ 0 5) ∧ (σ 0 5) ≠ (0 : Int) ∧
  xR a2 ∧ xR (σ 0 5) ∧ (σ 0 5) ≠ (0 : Int) ∧
  xR a1 ∧ xR (σ 0 5) ∧ (σ 0 5) ≠ (0 : Int) ∧
  xR a3 ∧ xR (σ 0 5) ∧ (σ 0 5) ≠ (0 : Int) ∧
  xR a1 ∧ xR (σ 0 5) ∧ (σ 0 5) ≠ (0 : Int) ∧
  Post ((((Int.tmod a2 (σ 0 5)) - (Int.tmod a1 (σ 0 5))) * ((Int.tdiv a3 (σ 0 5)) - (Int.tdiv a1 (σ 0 5)))) - (((Int.tdiv a2 (σ 0 5)) - (Int.tdiv a1 (σ 0 5))) * ((Int.tmod a3 (σ 0 5)) - (Int.tmod a1 (σ 0 5)))))

def wp_X10_lay (a1 : Int) (a2 : Int) (a3 : Int) (σ : xSt) (Post : Int → xSt → Prop) : Prop :=
  ∀ k3 : Int → Prop, (∀ (x4_3 : Int),
(      ∀ k41 : Prop, (
(          (0 ≤ x4_3 ∧ x4_3 < (300 : Nat)) ∧ ∀ σ_48 : xSt, σ_48 = xU σ 9 ((x4_3).toNat) a3 →
          Post (x4_3 + 1) σ_48) → k41) →
      xR x4_3 ∧ xR a2 ∧ (x4_3 ≤ a2 →
          k41) ∧
      (a2 < x4_3 →
          (0 ≤ (x4_3 - 2) ∧ (x4_3 - 2) < (300 : Nat)) ∧
          (0 ≤ (x4_3 - 1) ∧ (x4_3 - 1) < (300 : Nat)) ∧
          wp_X10_side (σ 9 (x4_3 - 2).toNat) (σ 9 (x4_3 - 1).toNat) a3 σ (fun r29 =>
          xR r29 ∧ (0 < r29 →
              k41) ∧
          (r29 ≤ 0 →
              k3 (x4_3 + (-1)))))) → k3 x4_3) →
  k3 a1

def wp_X10_corners (σ : xSt) (Post : Int → xSt → Prop) : Prop :=
  ∀ k4 : Int → Int → xSt → Prop, (∀ (x1_4 x2_4 : Int) (s4 : xSt),
(      xR x2_4 ∧ xR (s4 0 5) ∧ ((s4 0 5) ≤ x2_4 →
          ∀ k74 : Int → Int → Int → xSt → Prop, (∀ (x1_74 x3_74 x4_74 : Int) (s74 : xSt),
(              xR x4_74 ∧ (x4_74 < 0 →
                  xR x1_74 ∧ (x1_74 ≤ 1 →
                      Post x1_74 s74) ∧
                  (1 < x1_74 →
                      Post (x1_74 - 1) s74)) ∧
              (0 ≤ x4_74 →
                  ∀ k87 : Int → Int → Int → xSt → Prop, (∀ (x1_87 x3_87 x5_87 : Int) (s87 : xSt),
(                      xR x5_87 ∧ (x5_87 < 0 →
                          k74 x1_87 x3_87 (x4_74 + (-1)) s87) ∧
                      (0 ≤ x5_87 →
                          wp_X10_isOf x4_74 x5_87 s87 (fun r97 =>
                          xR r97 ∧ (r97 = 0 →
                              k87 x1_87 x3_87 (x5_87 + (-1)) s87) ∧
                          (r97 ≠ 0 →
                              xR x3_87 ∧ (x3_87 = 0 →
                                  k87 x1_87 1 (x5_87 + (-1)) s87) ∧
                              (x3_87 ≠ 0 →
                                  wp_X10_lay x1_87 x1_4 ((x5_87 * (s87 0 5)) + x4_74) s87 (fun r120 t120 =>
                                  k87 r120 1 (x5_87 + (-1)) t120)))))) → k87 x1_87 x3_87 x5_87 s87) →
                  k87 x1_74 x3_74 ((s74 0 6) - 1) s74)) → k74 x1_74 x3_74 x4_74 s74) →
          k74 x1_4 0 ((s4 0 5) - 1) s4) ∧
      (x2_4 < (s4 0 5) →
          ∀ k14 : Int → Int → xSt → Prop, (∀ (x1_14 x3_14 : Int) (s14 : xSt),
(              xR x3_14 ∧ xR (s14 0 6) ∧ ((s14 0 6) ≤ x3_14 →
                  k4 x1_14 (x2_4 + 1) s14) ∧
              (x3_14 < (s14 0 6) →
                  wp_X10_isOf x2_4 x3_14 s14 (fun r25 =>
                  xR r25 ∧ (r25 = 0 →
                      k14 x1_14 (x3_14 + 1) s14) ∧
                  (r25 ≠ 0 →
                      wp_X10_lay x1_14 1 ((x3_14 * (s14 0 5)) + x2_4) s14 (fun r42 t42 =>
                      k14 r42 (x3_14 + 1) t42))))) → k14 x1_14 x3_14 s14) →
          k14 x1_4 0 s4)) → k4 x1_4 x2_4 s4) →
  k4 0 0 σ

def wp_X10_inHull (a1 : Int) (a2 : Int) (σ : xSt) (Post : Int → Prop) : Prop :=
  xR a1 ∧ (2 ≤ a1 →
      ∀ k31 : Int → Int → Prop, (∀ (x3_31 x4_31 : Int),
(          xR x4_31 ∧ xR a1 ∧ (a1 ≤ x4_31 →
              xR a1 ∧ (a1 ≠ 2 →
                  (x3_31 = 0 ∨ x3_31 = 1) ∧ Post x3_31) ∧
              (a1 = 2 →
                  xR x3_31 ∧ (x3_31 = 0 →
                      Post 0) ∧
                  (x3_31 ≠ 0 →
                      xR a2 ∧ xR (σ 0 5) ∧ (σ 0 5) ≠ (0 : Int) ∧
                      xR (Int.tmod a2 (σ 0 5)) ∧
                      xR (σ 9 0) ∧ xR (σ 0 5) ∧ (σ 0 5) ≠ (0 : Int) ∧
                      xR (Int.tmod (σ 9 0) (σ 0 5)) ∧
                      xR (σ 9 1) ∧ xR (σ 0 5) ∧ (σ 0 5) ≠ (0 : Int) ∧
                      xR (Int.tmod (σ 9 1) (σ 0 5)) ∧
                      wp_X10_in (Int.tmod a2 (σ 0 5)) (Int.tmod (σ 9 0) (σ 0 5)) (Int.tmod (σ 9 1) (σ 0 5)) σ (fun r127 =>
                      xR r127 ∧ (r127 = 0 →
                          Post 0) ∧
                      (r127 ≠ 0 →
                          xR a2 ∧ xR (σ 0 5) ∧ (σ 0 5) ≠ (0 : Int) ∧
                          xR (Int.tdiv a2 (σ 0 5)) ∧
                          xR (σ 9 0) ∧ xR (σ 0 5) ∧ (σ 0 5) ≠ (0 : Int) ∧
                          xR (Int.tdiv (σ 9 0) (σ 0 5)) ∧
                          xR (σ 9 1) ∧ xR (σ 0 5) ∧ (σ 0 5) ≠ (0 : Int) ∧
                          xR (Int.tdiv (σ 9 1) (σ 0 5)) ∧
                          wp_X10_in (Int.tdiv a2 (σ 0 5)) (Int.tdiv (σ 9 0) (σ 0 5)) (Int.tdiv (σ 9 1) (σ 0 5)) σ (fun r156 =>
                          xR r156 ∧ (r156 ≠ 0 →
                              Post 1) ∧
                          (r156 = 0 →
                              xR a2 ∧ xR (σ 0 5) ∧ (σ 0 5) ≠ (0 : Int) ∧
                              xR (Int.tdiv a2 (σ 0 5)) ∧
                              xR (σ 9 1) ∧ xR (σ 0 5) ∧ (σ 0 5) ≠ (0 : Int) ∧
                              xR (Int.tdiv (σ 9 1) (σ 0 5)) ∧
                              xR (σ 9 0) ∧ xR (σ 0 5) ∧ (σ 0 5) ≠ (0 : Int) ∧
                              xR (Int.tdiv (σ 9 0) (σ 0 5)) ∧
                              wp_X10_in (Int.tdiv a2 (σ 0 5)) (Int.tdiv (σ 9 1) (σ 0 5)) (Int.tdiv (σ 9 0) (σ 0 5)) σ (fun r185 =>
                              xR r185 ∧ (r185 = 0 →
                                  Post 0) ∧
                              (r185 ≠ 0 →
                                  Post 1))))))))) ∧
          (x4_31 < a1 →
              xR x3_31 ∧ (x3_31 = 0 →
                  k31 0 (x4_31 + 1)) ∧
              (x3_31 ≠ 0 →
                  (0 ≤ x4_31 ∧ x4_31 < (300 : Nat)) ∧
                  xR (x4_31 + 1) ∧ xR a1 ∧ a1 ≠ (0 : Int) ∧
                  (0 ≤ (Int.tmod (x4_31 + 1) a1) ∧ (Int.tmod (x4_31 + 1) a1) < (300 : Nat)) ∧
                  wp_X10_side (σ 9 (x4_31).toNat) (σ 9 (Int.tmod (x4_31 + 1) a1).toNat) a2 σ (fun r61 =>
                  xR r61 ∧ (r61 < 0 →
                      k31 0 (x4_31 + 1)) ∧
                  (0 ≤ r61 →
                      k31 1 (x4_31 + 1)))))) → k31 x3_31 x4_31) →
      k31 1 0) ∧
  (a1 < 2 →
      xR a1 ∧ (a1 ≠ 1 →
          Post 0) ∧
      (a1 = 1 →
          xR (σ 9 0) ∧ xR a2 ∧ ((σ 9 0) ≠ a2 →
              Post 0) ∧
          ((σ 9 0) = a2 →
              Post 1)))

def wp_X10_lacks (σ : xSt) (Post : Int → xSt → Prop) : Prop :=
  wp_X10_corners σ (fun r1 t1 =>
  ∀ k9 : Int → Int → Prop, (∀ (x2_9 x3_9 : Int),
(      wp_X10_fields t1 (fun r11 =>
      xR x3_9 ∧ xR r11 ∧ (r11 ≤ x3_9 →
          Post x2_9 t1) ∧
      (x3_9 < r11 →
          (0 ≤ x3_9 ∧ x3_9 < (144 : Nat)) ∧
          xR (t1 4 (x3_9).toNat) ∧ ((t1 4 (x3_9).toNat) ≠ 0 →
              k9 (x2_9 + 0) (x3_9 + 1)) ∧
          ((t1 4 (x3_9).toNat) = 0 →
              wp_X10_inHull r1 x3_9 t1 (fun r30 =>
              xR r30 ∧ (r30 = 0 →
                  k9 (x2_9 + 0) (x3_9 + 1)) ∧
              (r30 ≠ 0 →
                  k9 (x2_9 + 1) (x3_9 + 1))))))) → k9 x2_9 x3_9) →
  k9 0 0)

def wp_X10_heap (a1 : Int) (σ : xSt) (Post : Int → xSt → Prop) : Prop :=
  ∀ σ_2 : xSt, σ_2 = xU σ 0 0 0 →
  xR a1 ∧
  (a1 = 0 →
      wp_X10_many σ_2 (fun r41 =>
      Post r41 σ_2)) ∧
  (a1 = 1 →
      wp_X10_parts σ_2 (fun r46 t46 =>
      Post r46 t46)) ∧
  (a1 = 2 →
      wp_X10_holes σ_2 (fun r51 t51 =>
      Post r51 t51)) ∧
  (a1 = 3 →
      wp_X10_rims σ_2 (fun r56 =>
      Post r56 σ_2)) ∧
  (a1 = 4 →
      wp_X10_lacks σ_2 (fun r61 t61 =>
      Post r61 t61)) ∧
  (a1 < 0 ∨ 4 < a1 →
      Post (-1002) σ_2)

def wp_X10_hasStairs (σ : xSt) (Post : Int → Prop) : Prop :=
  ∀ k4 : Int → Int → Prop, (∀ (x1_4 x2_4 : Int),
(      xR x2_4 ∧ (2 ≤ x2_4 →
          (x1_4 = 0 ∨ x1_4 = 1) ∧ Post x1_4) ∧
      (x2_4 < 2 →
          ∀ k11 : Int → Int → Prop, (∀ (x1_11 x3_11 : Int),
(              ∀ k27 : Int → Prop, (∀ (y1_27 : Int),
(                  xR x3_11 ∧ xR y1_27 ∧ (y1_27 ≤ x3_11 →
                      k4 x1_11 (x2_4 + 1)) ∧
                  (x3_11 < y1_27 →
                      ∀ k36 : Int → Int → Prop, (∀ (x4_36 x5_36 : Int),
(                          ∀ k53 : Int → Prop, (∀ (y1_53 : Int),
(                              xR x5_36 ∧ xR y1_53 ∧ (y1_53 ≤ x5_36 →
                                  xR x1_11 ∧ (x1_11 = 0 →
                                      k11 0 (x3_11 + 1)) ∧
                                  (x1_11 ≠ 0 →
                                      xR x4_36 ∧ (2 ≤ x4_36 →
                                          k11 0 (x3_11 + 1)) ∧
                                      (x4_36 < 2 →
                                          k11 1 (x3_11 + 1)))) ∧
                              (x5_36 < y1_53 →
                                  ∀ k77 : Int → Prop, (∀ (y0_77 : Int),
(                                      ∀ k104 : Int → Prop, (∀ (y0_104 : Int),
(                                          xR y0_77 ∧ (y0_77 = 0 →
                                              k36 (x4_36 + 0) (x5_36 + 1)) ∧
                                          (y0_77 ≠ 0 →
                                              xR y0_104 ∧ (y0_104 ≠ 0 →
                                                  k36 (x4_36 + 0) (x5_36 + 1)) ∧
                                              (y0_104 = 0 →
                                                  k36 (x4_36 + 1) (x5_36 + 1)))) → k104 y0_104) →
                                      xR x2_4 ∧ (x2_4 ≠ 0 →
                                          wp_X10_isOf x3_11 (x5_36 - 1) σ (fun r101 =>
                                          k104 r101)) ∧
                                      (x2_4 = 0 →
                                          wp_X10_isOf (x5_36 - 1) x3_11 σ (fun r89 =>
                                          k104 r89))) → k77 y0_77) →
                                  xR x2_4 ∧ (x2_4 ≠ 0 →
                                      wp_X10_isOf x3_11 x5_36 σ (fun r74 =>
                                      k77 r74)) ∧
                                  (x2_4 = 0 →
                                      wp_X10_isOf x5_36 x3_11 σ (fun r64 =>
                                      k77 r64)))) → k53 y1_53) →
                          xR x2_4 ∧ (x2_4 ≠ 0 →
                              k53 (σ 0 6)) ∧
                          (x2_4 = 0 →
                              k53 (σ 0 5))) → k36 x4_36 x5_36) →
                      k36 0 0)) → k27 y1_27) →
              xR x2_4 ∧ (x2_4 ≠ 0 →
                  k27 (σ 0 5)) ∧
              (x2_4 = 0 →
                  k27 (σ 0 6))) → k11 x1_11 x3_11) →
          k11 x1_4 0)) → k4 x1_4 x2_4) →
  k4 1 0

def wp_X10_isDisc (σ : xSt) (Post : Int → xSt → Prop) : Prop :=
  wp_X10_many σ (fun r1 =>
  ∀ k7 : Int → Prop, (∀ (x2_7 : Int),
(      xR x2_7 ∧ xR ((2 * (σ 0 6)) - 2) ∧ (((2 * (σ 0 6)) - 2) < x2_7 →
          Post 0 σ) ∧
      (x2_7 ≤ ((2 * (σ 0 6)) - 2) →
          xR r1 ∧ (r1 ≤ 0 →
              Post 0 σ) ∧
          (0 < r1 →
              ∀ k25 : Int → Prop, (∀ (x3_25 : Int),
(                  xR x3_25 ∧ xR ((2 * (σ 0 5)) - 2) ∧ (((2 * (σ 0 5)) - 2) < x3_25 →
                      k7 (x2_7 + 1)) ∧
                  (x3_25 ≤ ((2 * (σ 0 5)) - 2) →
                      ∀ k47 : Int → Int → Int → Prop, (∀ (x4_47 x5_47 x6_47 : Int),
(                          wp_X10_fields σ (fun r50 =>
                          xR x6_47 ∧ xR r50 ∧ (r50 ≤ x6_47 →
                              xR x4_47 ∧ xR x5_47 ∧ (x5_47 ≤ x4_47 →
                                  k25 (x3_25 + 1)) ∧
                              (x4_47 < x5_47 →
                                  ∀ σ_162 : xSt, σ_162 = xU σ 0 15 x3_25 →
                                  ∀ σ_167 : xSt, σ_167 = xU σ_162 0 16 x2_7 →
                                  ∀ σ_173 : xSt, σ_173 = xU σ_167 0 17 x4_47 →
                                  Post 1 σ_173)) ∧
                          (x6_47 < r50 →
                              xR x6_47 ∧ xR (σ 0 5) ∧ (σ 0 5) ≠ (0 : Int) ∧
                              ∀ z7_67 : Int, z7_67 = ((2 * (Int.tmod x6_47 (σ 0 5))) - x3_25) →
                              xR x6_47 ∧ xR (σ 0 5) ∧ (σ 0 5) ≠ (0 : Int) ∧
                              ∀ z8_80 : Int, z8_80 = ((2 * (Int.tdiv x6_47 (σ 0 5))) - x2_7) →
                              ∀ z9_93 : Int, z9_93 = ((z7_67 * z7_67) + (z8_80 * z8_80)) →
                              (0 ≤ x6_47 ∧ x6_47 < (144 : Nat)) ∧
                              ∀ k119 : Int → Prop, (∀ (y0_119 : Int),
(                                  (0 ≤ x6_47 ∧ x6_47 < (144 : Nat)) ∧
                                  xR (σ 4 (x6_47).toNat) ∧ ((σ 4 (x6_47).toNat) ≠ 0 →
                                      k47 y0_119 x5_47 (x6_47 + 1)) ∧
                                  ((σ 4 (x6_47).toNat) = 0 →
                                      xR z9_93 ∧ xR x5_47 ∧ (x5_47 ≤ z9_93 →
                                          k47 y0_119 x5_47 (x6_47 + 1)) ∧
                                      (z9_93 < x5_47 →
                                          k47 y0_119 z9_93 (x6_47 + 1)))) → k119 y0_119) →
                              xR (σ 4 (x6_47).toNat) ∧ ((σ 4 (x6_47).toNat) = 0 →
                                  k119 x4_47) ∧
                              ((σ 4 (x6_47).toNat) ≠ 0 →
                                  xR z9_93 ∧ xR x4_47 ∧ (z9_93 ≤ x4_47 →
                                      k119 x4_47) ∧
                                  (x4_47 < z9_93 →
                                      k119 z9_93))))) → k47 x4_47 x5_47 x6_47) →
                      k47 0 1000000 0)) → k25 x3_25) →
              k25 0))) → k7 x2_7) →
  k7 0)

def wp_X10_is (a1 : Int) (σ : xSt) (Post : Int → xSt → Prop) : Prop :=
  ∀ σ_2 : xSt, σ_2 = xU σ 0 0 0 →
  xR a1 ∧
  (a1 = 0 →
      wp_X10_lacks σ_2 (fun r33 t33 =>
      xR r33 ∧ (r33 ≠ 0 →
          Post 0 t33) ∧
      (r33 = 0 →
          Post 1 t33))) ∧
  (a1 = 1 →
      wp_X10_hasStairs σ_2 (fun r46 =>
      xR r46 ∧ (r46 = 0 →
          Post 0 σ_2) ∧
      (r46 ≠ 0 →
          Post 1 σ_2))) ∧
  (a1 = 2 →
      wp_X10_isDisc σ_2 (fun r59 t59 =>
      xR r59 ∧ (r59 = 0 →
          Post 0 t59) ∧
      (r59 ≠ 0 →
          Post 1 t59))) ∧
  (a1 < 0 ∨ 2 < a1 →
      Post (-1002) σ_2)

def wp_X10_disc (a1 : Int) (σ : xSt) (Post : Int → xSt → Prop) : Prop :=
  ∀ σ_2 : xSt, σ_2 = xU σ 0 0 0 →
  xR a1 ∧
  wp_X10_in a1 0 2 σ_2 (fun r11 =>
  xR r11 ∧ (r11 ≠ 0 →
      wp_X10_isDisc σ_2 (fun r22 t22 =>
      xR r22 ∧ (r22 ≠ 0 →
          xR a1 ∧ (a1 ≠ 0 →
              xR a1 ∧ (a1 ≠ 1 →
                  Post (t22 0 17) t22) ∧
              (a1 = 1 →
                  Post (t22 0 16) t22)) ∧
          (a1 = 0 →
              Post (t22 0 15) t22)) ∧
      (r22 = 0 →
          Post (-999) t22))) ∧
  (r11 = 0 →
      Post (-1002) σ_2))

def wp_X10_part (a1 : Int) (σ : xSt) (Post : Int → xSt → Prop) : Prop :=
  ∀ σ_2 : xSt, σ_2 = xU σ 0 0 0 →
  wp_X10_noField a1 σ_2 (fun r7 =>
  xR r7 ∧ (r7 = 0 →
      wp_X10_hang 1 σ_2 (fun t19 =>
      (0 ≤ a1 ∧ a1 < (144 : Nat)) ∧
      Post (t19 6 (a1).toNat) t19)) ∧
  (r7 ≠ 0 →
      Post (-1001) σ_2))

def wp_X10_hull (σ : xSt) (Post : Int → xSt → Prop) : Prop :=
  ∀ σ_2 : xSt, σ_2 = xU σ 0 0 0 →
  wp_X10_corners σ_2 (fun r6 t6 =>
  Post r6 t6)

def wp_X10_corner (a1 : Int) (σ : xSt) (Post : Int → xSt → Prop) : Prop :=
  ∀ σ_2 : xSt, σ_2 = xU σ 0 0 0 →
  wp_X10_corners σ_2 (fun r6 t6 =>
  xR a1 ∧
  xR (r6 - 1) ∧
  wp_X10_in a1 0 (r6 - 1) t6 (fun r17 =>
  xR r17 ∧ (r17 = 0 →
      Post (-999) t6) ∧
  (r17 ≠ 0 →
      (0 ≤ a1 ∧ a1 < (300 : Nat)) ∧
      Post (t6 9 (a1).toNat) t6)))

def wp_X10_depthOf (a1 : Int) (σ : xSt) (Post : Int → Prop) : Prop :=
  (0 ≤ a1 ∧ a1 < (144 : Nat)) ∧
  ∀ k15 : Int → Prop, (∀ (y0_15 : Int),
(      ∀ k18 : Int → Int → Prop, (∀ (x2_18 x3_18 : Int),
(          xR x3_18 ∧ xR (σ 0 6) ∧ ((σ 0 6) < x3_18 →
              Post x2_18) ∧
          (x3_18 ≤ (σ 0 6) →
              ∀ k29 : Int → Int → Prop, (∀ (x2_29 x4_29 : Int),
(                  xR x4_29 ∧ xR (σ 0 5) ∧ ((σ 0 5) < x4_29 →
                      k18 x2_29 (x3_18 + 1)) ∧
                  (x4_29 ≤ (σ 0 5) →
                      xR a1 ∧ xR (σ 0 5) ∧ (σ 0 5) ≠ (0 : Int) ∧
                      ∀ z5_47 : Int, z5_47 = ((Int.tmod a1 (σ 0 5)) - x4_29) →
                      xR a1 ∧ xR (σ 0 5) ∧ (σ 0 5) ≠ (0 : Int) ∧
                      ∀ z6_57 : Int, z6_57 = ((Int.tdiv a1 (σ 0 5)) - x3_18) →
                      ∀ z7_70 : Int, z7_70 = ((z5_47 * z5_47) + (z6_57 * z6_57)) →
                      wp_X10_isOf x4_29 x3_18 σ (fun r76 =>
                      xR r76 ∧ (r76 ≠ 0 →
                          k29 x2_29 (x4_29 + 1)) ∧
                      (r76 = 0 →
                          xR z7_70 ∧ xR x2_29 ∧ (x2_29 ≤ z7_70 →
                              k29 x2_29 (x4_29 + 1)) ∧
                          (z7_70 < x2_29 →
                              k29 z7_70 (x4_29 + 1)))))) → k29 x2_29 x4_29) →
              k29 x2_18 (-1))) → k18 x2_18 x3_18) →
      k18 y0_15 (-1)) → k15 y0_15) →
  xR (σ 4 (a1).toNat) ∧ ((σ 4 (a1).toNat) = 0 →
      k15 0) ∧
  ((σ 4 (a1).toNat) ≠ 0 →
      k15 1000000)

def wp_X10_deep (a1 : Int) (σ : xSt) (Post : Int → xSt → Prop) : Prop :=
  ∀ σ_2 : xSt, σ_2 = xU σ 0 0 0 →
  wp_X10_noField a1 σ_2 (fun r7 =>
  xR r7 ∧ (r7 = 0 →
      wp_X10_depthOf a1 σ_2 (fun r21 =>
      Post r21 σ_2)) ∧
  (r7 ≠ 0 →
      Post (-1001) σ_2))

def wp_X10_deepest (a1 : Int) (σ : xSt) (Post : Int → xSt → Prop) : Prop :=
  ∀ σ_2 : xSt, σ_2 = xU σ 0 0 0 →
  ∀ k14 : Int → Int → Int → Prop, (∀ (x2_14 x3_14 x4_14 : Int),
(      wp_X10_fields σ_2 (fun r17 =>
      xR x4_14 ∧ xR r17 ∧ (r17 ≤ x4_14 →
          xR a1 ∧ (a1 = 0 →
              Post x2_14 σ_2) ∧
          (a1 ≠ 0 →
              Post x3_14 σ_2)) ∧
      (x4_14 < r17 →
          wp_X10_depthOf x4_14 σ_2 (fun r26 =>
          xR r26 ∧ xR x2_14 ∧ (r26 ≤ x2_14 →
              k14 x2_14 x3_14 (x4_14 + 1)) ∧
          (x2_14 < r26 →
              k14 r26 x4_14 (x4_14 + 1)))))) → k14 x2_14 x3_14 x4_14) →
  k14 0 (-999) 0

def wp_X10_measure (σ : xSt) (Post : xSt → Prop) : Prop :=
  ∀ k2 : Int → xSt → Prop, (∀ (x1_2 : Int) (s2 : xSt),
(      wp_X10_fields s2 (fun r4 =>
      xR x1_2 ∧ xR r4 ∧ (r4 ≤ x1_2 →
          Post s2) ∧
      (x1_2 < r4 →
          wp_X10_depthOf x1_2 s2 (fun r17 =>
          (0 ≤ x1_2 ∧ x1_2 < (144 : Nat)) ∧ ∀ σ_20 : xSt, σ_20 = xU s2 7 ((x1_2).toNat) r17 →
          k2 (x1_2 + 1) σ_20)))) → k2 x1_2 s2) →
  k2 0 σ

def wp_X10_isNeeded (a1 : Int) (σ : xSt) (Post : Int → Prop) : Prop :=
  (0 ≤ a1 ∧ a1 < (144 : Nat)) ∧
  ∀ k9 : Int → Int → Prop, (∀ (x2_9 x3_9 : Int),
(      wp_X10_fields σ (fun r11 =>
      xR x3_9 ∧ xR r11 ∧ (r11 ≤ x3_9 →
          (x2_9 = 0 ∨ x2_9 = 1) ∧ Post x2_9) ∧
      (x3_9 < r11 →
          xR x2_9 ∧ (x2_9 = 0 →
              (x2_9 = 0 ∨ x2_9 = 1) ∧ Post x2_9) ∧
          (x2_9 ≠ 0 →
              xR a1 ∧ xR (σ 0 5) ∧ (σ 0 5) ≠ (0 : Int) ∧
              xR x3_9 ∧ xR (σ 0 5) ∧ (σ 0 5) ≠ (0 : Int) ∧
              ∀ z4_34 : Int, z4_34 = ((Int.tmod a1 (σ 0 5)) - (Int.tmod x3_9 (σ 0 5))) →
              xR a1 ∧ xR (σ 0 5) ∧ (σ 0 5) ≠ (0 : Int) ∧
              xR x3_9 ∧ xR (σ 0 5) ∧ (σ 0 5) ≠ (0 : Int) ∧
              ∀ z5_49 : Int, z5_49 = ((Int.tdiv a1 (σ 0 5)) - (Int.tdiv x3_9 (σ 0 5))) →
              xR ((z4_34 * z4_34) + (z5_49 * z5_49)) ∧
              ∀ z6_63 : Int, z6_63 = ((z4_34 * z4_34) + (z5_49 * z5_49)) →
              (0 ≤ x3_9 ∧ x3_9 < (144 : Nat)) ∧
              xR (σ 7 (x3_9).toNat) ∧
              (0 ≤ a1 ∧ a1 < (144 : Nat)) ∧
              xR (σ 7 (a1).toNat) ∧
              ∀ z8_83 : Int, z8_83 = (((σ 7 (x3_9).toNat) - z6_63) - (σ 7 (a1).toNat)) →
              ∀ k134 : Int → Prop, (∀ (y0_134 : Int),
(                  xR y0_134 ∧ (y0_134 ≠ 0 →
                      k9 0 (x3_9 + 1)) ∧
                  (y0_134 = 0 →
                      k9 1 (x3_9 + 1))) → k134 y0_134) →
              xR x3_9 ∧ xR a1 ∧ (x3_9 = a1 →
                  k134 0) ∧
              (x3_9 ≠ a1 →
                  (0 ≤ x3_9 ∧ x3_9 < (144 : Nat)) ∧
                  xR (σ 4 (x3_9).toNat) ∧ ((σ 4 (x3_9).toNat) = 0 →
                      k134 0) ∧
                  ((σ 4 (x3_9).toNat) ≠ 0 →
                      xS z8_83 ∧ (z8_83 < 0 →
                          k134 0) ∧
                      (0 ≤ z8_83 →
                          (0 ≤ a1 ∧ a1 < (144 : Nat)) ∧
                          xR (σ 7 (a1).toNat) ∧
                          xS (z8_83 * z8_83) ∧ xS ((4 * z6_63) * (σ 7 (a1).toNat)) ∧ ((z8_83 * z8_83) < ((4 * z6_63) * (σ 7 (a1).toNat)) →
                              k134 0) ∧
                          (((4 * z6_63) * (σ 7 (a1).toNat)) ≤ (z8_83 * z8_83) →
                              k134 1)))))))) → k9 x2_9 x3_9) →
  k9 (σ 4 (a1).toNat) 0

def wp_X10_needed (a1 : Int) (σ : xSt) (Post : Int → xSt → Prop) : Prop :=
  ∀ σ_2 : xSt, σ_2 = xU σ 0 0 0 →
  wp_X10_noField a1 σ_2 (fun r7 =>
  xR r7 ∧ (r7 = 0 →
      wp_X10_measure σ_2 (fun t18 =>
      wp_X10_isNeeded a1 t18 (fun r23 =>
      xR r23 ∧ (r23 = 0 →
          Post 0 t18) ∧
      (r23 ≠ 0 →
          Post 1 t18)))) ∧
  (r7 ≠ 0 →
      Post (-1001) σ_2))

def wp_X10_balls (σ : xSt) (Post : Int → xSt → Prop) : Prop :=
  ∀ σ_2 : xSt, σ_2 = xU σ 0 0 0 →
  wp_X10_measure σ_2 (fun t6 =>
  ∀ k13 : Int → Int → Prop, (∀ (x1_13 x2_13 : Int),
(      wp_X10_fields t6 (fun r15 =>
      xR x2_13 ∧ xR r15 ∧ (r15 ≤ x2_13 →
          Post x1_13 t6) ∧
      (x2_13 < r15 →
          wp_X10_isNeeded x2_13 t6 (fun r24 =>
          xR r24 ∧ (r24 = 0 →
              k13 (x1_13 + 0) (x2_13 + 1)) ∧
          (r24 ≠ 0 →
              k13 (x1_13 + 1) (x2_13 + 1)))))) → k13 x1_13 x2_13) →
  k13 0 0)

def wp_X10_groups (a1 : Int) (σ : xSt) (Post : Int → xSt → Prop) : Prop :=
  ∀ k2 : Int → xSt → Prop, (∀ (x2_2 : Int) (s2 : xSt),
(      xR x2_2 ∧ (9 ≤ x2_2 →
          ∀ k44 : Int → xSt → Prop, (∀ (x2_44 : Int) (s44 : xSt),
(              xR x2_44 ∧ (9 ≤ x2_44 →
                  ∀ k236 : Int → Int → Prop, (∀ (x2_236 x3_236 : Int),
(                      xR x3_236 ∧ (9 ≤ x3_236 →
                          Post x2_236 s44) ∧
                      (x3_236 < 9 →
                          ∀ k248 : Int → Int → Prop, (∀ (x4_248 x5_248 : Int),
(                              xR x5_248 ∧ (9 ≤ x5_248 →
                                  (0 ≤ x3_236 ∧ x3_236 < (9 : Nat)) ∧
                                  xR (s44 11 (x3_236).toNat) ∧ xR x3_236 ∧ ((s44 11 (x3_236).toNat) ≠ x3_236 →
                                      k236 (x2_236 + 0) (x3_236 + 1)) ∧
                                  ((s44 11 (x3_236).toNat) = x3_236 →
                                      xR x4_248 ∧ (x4_248 = 0 →
                                          k236 (x2_236 + 0) (x3_236 + 1)) ∧
                                      (x4_248 ≠ 0 →
                                          k236 (x2_236 + 1) (x3_236 + 1)))) ∧
                              (x5_248 < 9 →
                                  xR x4_248 ∧ (x4_248 ≠ 0 →
                                      k248 1 (x5_248 + 2)) ∧
                                  (x4_248 = 0 →
                                      (0 ≤ x5_248 ∧ x5_248 < (9 : Nat)) ∧
                                      xR (s44 11 (x5_248).toNat) ∧ xR x3_236 ∧ ((s44 11 (x5_248).toNat) ≠ x3_236 →
                                          k248 0 (x5_248 + 2)) ∧
                                      ((s44 11 (x5_248).toNat) = x3_236 →
                                          k248 1 (x5_248 + 2))))) → k248 x4_248 x5_248) →
                          k248 a1 1)) → k236 x2_236 x3_236) →
                  k236 0 0) ∧
              (x2_44 < 9 →
                  ∀ k52 : Int → xSt → Prop, (∀ (x3_52 : Int) (s52 : xSt),
(                      xR x3_52 ∧ (9 ≤ x3_52 →
                          k44 (x2_44 + 1) s52) ∧
                      (x3_52 < 9 →
                          ∀ k61 : Int → xSt → Prop, (∀ (x4_61 : Int) (s61 : xSt),
(                              xR x4_61 ∧ (9 ≤ x4_61 →
                                  k52 (x3_52 + 1) s61) ∧
                              (x4_61 < 9 →
                                  xR x3_52 ∧ xR 3 ∧ 3 ≠ (0 : Int) ∧
                                  xR x4_61 ∧ xR 3 ∧ 3 ≠ (0 : Int) ∧
                                  wp_X10_size ((Int.tmod x3_52 3) - (Int.tmod x4_61 3)) s61 (fun r76 =>
                                  xR x3_52 ∧ xR 3 ∧ 3 ≠ (0 : Int) ∧
                                  xR x4_61 ∧ xR 3 ∧ 3 ≠ (0 : Int) ∧
                                  wp_X10_size ((Int.tdiv x3_52 3) - (Int.tdiv x4_61 3)) s61 (fun r89 =>
                                  ∀ k132 : Int → Prop, (∀ (y0_132 : Int),
(                                      (0 ≤ x3_52 ∧ x3_52 < (9 : Nat)) ∧
                                      ∀ k169 : Int → Prop, (∀ (y0_169 : Int),
(                                          xR y0_169 ∧ (y0_169 = 0 →
                                              (0 ≤ x3_52 ∧ x3_52 < (9 : Nat)) ∧
                                              (0 ≤ x3_52 ∧ x3_52 < (9 : Nat)) ∧ ∀ σ_213 : xSt, σ_213 = xU s61 11 ((x3_52).toNat) (s61 11 (x3_52).toNat) →
                                              k61 (x4_61 + 1) σ_213) ∧
                                          (y0_169 ≠ 0 →
                                              (0 ≤ x4_61 ∧ x4_61 < (9 : Nat)) ∧
                                              (0 ≤ x3_52 ∧ x3_52 < (9 : Nat)) ∧
                                              xR (s61 11 (x4_61).toNat) ∧ xR (s61 11 (x3_52).toNat) ∧ ((s61 11 (x3_52).toNat) ≤ (s61 11 (x4_61).toNat) →
                                                  (0 ≤ x3_52 ∧ x3_52 < (9 : Nat)) ∧
                                                  (0 ≤ x3_52 ∧ x3_52 < (9 : Nat)) ∧ ∀ σ_213 : xSt, σ_213 = xU s61 11 ((x3_52).toNat) (s61 11 (x3_52).toNat) →
                                                  k61 (x4_61 + 1) σ_213) ∧
                                              ((s61 11 (x4_61).toNat) < (s61 11 (x3_52).toNat) →
                                                  (0 ≤ x4_61 ∧ x4_61 < (9 : Nat)) ∧
                                                  (0 ≤ x3_52 ∧ x3_52 < (9 : Nat)) ∧ ∀ σ_213 : xSt, σ_213 = xU s61 11 ((x3_52).toNat) (s61 11 (x4_61).toNat) →
                                                  k61 (x4_61 + 1) σ_213))) → k169 y0_169) →
                                      xR (s61 11 (x3_52).toNat) ∧ ((s61 11 (x3_52).toNat) = (-999) →
                                          k169 0) ∧
                                      ((s61 11 (x3_52).toNat) ≠ (-999) →
                                          (0 ≤ x4_61 ∧ x4_61 < (9 : Nat)) ∧
                                          xR (s61 11 (x4_61).toNat) ∧ ((s61 11 (x4_61).toNat) = (-999) →
                                              k169 0) ∧
                                          ((s61 11 (x4_61).toNat) ≠ (-999) →
                                              xR y0_132 ∧ (y0_132 = 0 →
                                                  k169 0) ∧
                                              (y0_132 ≠ 0 →
                                                  k169 1)))) → k132 y0_132) →
                                  xR a1 ∧ (a1 = 0 →
                                      xR (r76 + r89) ∧ ((r76 + r89) ≠ 1 →
                                          k132 0) ∧
                                      ((r76 + r89) = 1 →
                                          k132 1)) ∧
                                  (a1 ≠ 0 →
                                      xR r76 ∧ (2 ≤ r76 →
                                          k132 0) ∧
                                      (r76 < 2 →
                                          xR r89 ∧ (2 ≤ r89 →
                                              k132 0) ∧
                                          (r89 < 2 →
                                              k132 1))))))) → k61 x4_61 s61) →
                          k61 0 s52)) → k52 x3_52 s52) →
                  k52 0 s44)) → k44 x2_44 s44) →
          k44 0 s2) ∧
      (x2_2 < 9 →
          xR x2_2 ∧ (x2_2 = 4 →
              (0 ≤ x2_2 ∧ x2_2 < (9 : Nat)) ∧ ∀ σ_35 : xSt, σ_35 = xU s2 11 ((x2_2).toNat) (-999) →
              k2 (x2_2 + 1) σ_35) ∧
          (x2_2 ≠ 4 →
              (0 ≤ x2_2 ∧ x2_2 < (9 : Nat)) ∧
              xR (s2 10 (x2_2).toNat) ∧ xR a1 ∧ ((s2 10 (x2_2).toNat) ≠ a1 →
                  (0 ≤ x2_2 ∧ x2_2 < (9 : Nat)) ∧ ∀ σ_35 : xSt, σ_35 = xU s2 11 ((x2_2).toNat) (-999) →
                  k2 (x2_2 + 1) σ_35) ∧
              ((s2 10 (x2_2).toNat) = a1 →
                  (0 ≤ x2_2 ∧ x2_2 < (9 : Nat)) ∧ ∀ σ_35 : xSt, σ_35 = xU s2 11 ((x2_2).toNat) x2_2 →
                  k2 (x2_2 + 1) σ_35)))) → k2 x2_2 s2) →
  k2 0 σ

def wp_X10_lookAbout (a1 : Int) (σ : xSt) (Post : Int → xSt → Prop) : Prop :=
  ∀ k4 : Int → Int → xSt → Prop, (∀ (x2_4 x3_4 : Int) (s4 : xSt),
(      xR x3_4 ∧ (9 ≤ x3_4 →
          Post x2_4 s4) ∧
      (x3_4 < 9 →
          xR a1 ∧ xR (s4 0 5) ∧ (s4 0 5) ≠ (0 : Int) ∧
          xR x3_4 ∧ xR 3 ∧ 3 ≠ (0 : Int) ∧
          xR a1 ∧ xR (s4 0 5) ∧ (s4 0 5) ≠ (0 : Int) ∧
          xR x3_4 ∧ xR 3 ∧ 3 ≠ (0 : Int) ∧
          wp_X10_isOf (((Int.tmod a1 (s4 0 5)) + (Int.tmod x3_4 3)) - 1) (((Int.tdiv a1 (s4 0 5)) + (Int.tdiv x3_4 3)) - 1) s4 (fun r40 =>
          (0 ≤ x3_4 ∧ x3_4 < (9 : Nat)) ∧ (r40 = 0 ∨ r40 = 1) ∧ ∀ σ_43 : xSt, σ_43 = xU s4 10 ((x3_4).toNat) r40 →
          xR x3_4 ∧ (x3_4 = 4 →
              k4 (x2_4 + 0) (x3_4 + 1) σ_43) ∧
          (x3_4 ≠ 4 →
              (0 ≤ x3_4 ∧ x3_4 < (9 : Nat)) ∧
              xR (σ_43 10 (x3_4).toNat) ∧ ((σ_43 10 (x3_4).toNat) = 0 →
                  k4 (x2_4 + 0) (x3_4 + 1) σ_43) ∧
              ((σ_43 10 (x3_4).toNat) ≠ 0 →
                  k4 (x2_4 + 1) (x3_4 + 1) σ_43))))) → k4 x2_4 x3_4 s4) →
  k4 0 0 σ

def wp_X10_isLoose (a1 : Int) (σ : xSt) (Post : Int → xSt → Prop) : Prop :=
  wp_X10_lookAbout a1 σ (fun r2 t2 =>
  (0 ≤ a1 ∧ a1 < (144 : Nat)) ∧
  xR (t2 4 (a1).toNat) ∧ ((t2 4 (a1).toNat) = 0 →
      Post 0 t2) ∧
  ((t2 4 (a1).toNat) ≠ 0 →
      wp_X10_groups 1 t2 (fun r17 t17 =>
      xR r17 ∧ (r17 ≠ 1 →
          Post 0 t17) ∧
      (r17 = 1 →
          wp_X10_groups 0 t17 (fun r26 t26 =>
          xR r26 ∧ (r26 ≠ 1 →
              Post 0 t26) ∧
          (r26 = 1 →
              Post 1 t26))))))

def wp_X10_loose (a1 : Int) (σ : xSt) (Post : Int → xSt → Prop) : Prop :=
  ∀ σ_2 : xSt, σ_2 = xU σ 0 0 0 →
  wp_X10_noField a1 σ_2 (fun r7 =>
  xR r7 ∧ (r7 = 0 →
      wp_X10_isLoose a1 σ_2 (fun r21 t21 =>
      xR r21 ∧ (r21 = 0 →
          Post 0 t21) ∧
      (r21 ≠ 0 →
          Post 1 t21))) ∧
  (r7 ≠ 0 →
      Post (-1001) σ_2))

def wp_X10_thinOnce (σ : xSt) (Post : Int → xSt → Prop) : Prop :=
  ∀ k2 : Int → xSt → Prop, (∀ (x1_2 : Int) (s2 : xSt),
(      wp_X10_fields s2 (fun r4 =>
      xR x1_2 ∧ xR r4 ∧ (r4 ≤ x1_2 →
          ∀ k98 : Int → Int → xSt → Prop, (∀ (x1_98 x2_98 : Int) (s98 : xSt),
(              wp_X10_fields s98 (fun r100 =>
              xR x2_98 ∧ xR r100 ∧ (r100 ≤ x2_98 →
                  Post x1_98 s98) ∧
              (x2_98 < r100 →
                  (0 ≤ x2_98 ∧ x2_98 < (144 : Nat)) ∧
                  xR (s98 8 (x2_98).toNat) ∧ ((s98 8 (x2_98).toNat) = 0 →
                      k98 x1_98 (x2_98 + 1) s98) ∧
                  ((s98 8 (x2_98).toNat) ≠ 0 →
                      wp_X10_isLoose x2_98 s98 (fun r117 t117 =>
                      xR r117 ∧ (r117 = 0 →
                          k98 x1_98 (x2_98 + 1) t117) ∧
                      (r117 ≠ 0 →
                          wp_X10_lookAbout x2_98 t117 (fun r125 t125 =>
                          xR r125 ∧ (r125 = 1 →
                              k98 x1_98 (x2_98 + 1) t125) ∧
                          (r125 ≠ 1 →
                              (0 ≤ x2_98 ∧ x2_98 < (144 : Nat)) ∧ ∀ σ_138 : xSt, σ_138 = xU t125 4 ((x2_98).toNat) 0 →
                              k98 (x1_98 + 1) (x2_98 + 1) σ_138)))))))) → k98 x1_98 x2_98 s98) →
          k98 0 0 s2) ∧
      (x1_2 < r4 →
          xR x1_2 ∧ xR (s2 0 5) ∧ (s2 0 5) ≠ (0 : Int) ∧
          xR x1_2 ∧ xR (s2 0 5) ∧ (s2 0 5) ≠ (0 : Int) ∧
          (0 ≤ x1_2 ∧ x1_2 < (144 : Nat)) ∧
          xR (s2 4 (x1_2).toNat) ∧ ((s2 4 (x1_2).toNat) = 0 →
              (0 ≤ x1_2 ∧ x1_2 < (144 : Nat)) ∧ ∀ σ_87 : xSt, σ_87 = xU s2 8 ((x1_2).toNat) 0 →
              k2 (x1_2 + 1) σ_87) ∧
          ((s2 4 (x1_2).toNat) ≠ 0 →
              wp_X10_isOf ((Int.tmod x1_2 (s2 0 5)) - 1) (Int.tdiv x1_2 (s2 0 5)) s2 (fun r43 =>
              xR r43 ∧ (r43 = 0 →
                  (0 ≤ x1_2 ∧ x1_2 < (144 : Nat)) ∧ ∀ σ_87 : xSt, σ_87 = xU s2 8 ((x1_2).toNat) 1 →
                  k2 (x1_2 + 1) σ_87) ∧
              (r43 ≠ 0 →
                  wp_X10_isOf ((Int.tmod x1_2 (s2 0 5)) + 1) (Int.tdiv x1_2 (s2 0 5)) s2 (fun r54 =>
                  xR r54 ∧ (r54 = 0 →
                      (0 ≤ x1_2 ∧ x1_2 < (144 : Nat)) ∧ ∀ σ_87 : xSt, σ_87 = xU s2 8 ((x1_2).toNat) 1 →
                      k2 (x1_2 + 1) σ_87) ∧
                  (r54 ≠ 0 →
                      wp_X10_isOf (Int.tmod x1_2 (s2 0 5)) ((Int.tdiv x1_2 (s2 0 5)) - 1) s2 (fun r65 =>
                      xR r65 ∧ (r65 = 0 →
                          (0 ≤ x1_2 ∧ x1_2 < (144 : Nat)) ∧ ∀ σ_87 : xSt, σ_87 = xU s2 8 ((x1_2).toNat) 1 →
                          k2 (x1_2 + 1) σ_87) ∧
                      (r65 ≠ 0 →
                          wp_X10_isOf (Int.tmod x1_2 (s2 0 5)) ((Int.tdiv x1_2 (s2 0 5)) + 1) s2 (fun r76 =>
                          xR r76 ∧ (r76 ≠ 0 →
                              (0 ≤ x1_2 ∧ x1_2 < (144 : Nat)) ∧ ∀ σ_87 : xSt, σ_87 = xU s2 8 ((x1_2).toNat) 0 →
                              k2 (x1_2 + 1) σ_87) ∧
                          (r76 = 0 →
                              (0 ≤ x1_2 ∧ x1_2 < (144 : Nat)) ∧ ∀ σ_87 : xSt, σ_87 = xU s2 8 ((x1_2).toNat) 1 →
                              k2 (x1_2 + 1) σ_87)))))))))))) → k2 x1_2 s2) →
  k2 0 σ

def wp_X10_thinning (σ : xSt) (Post : Int → xSt → Prop) : Prop :=
  ∀ σ_2 : xSt, σ_2 = xU σ 0 0 0 →
  wp_X10_thinOnce σ_2 (fun r6 t6 =>
  Post r6 t6)

def wp_X10_thin (σ : xSt) (Post : Int → xSt → Prop) : Prop :=
  ∀ σ_2 : xSt, σ_2 = xU σ 0 0 0 →
  wp_X10_thinOnce σ_2 (fun r8 t8 =>
  ∀ k12 : Int → Int → xSt → Prop, (∀ (x1_12 x2_12 : Int) (s12 : xSt),
(      xR x2_12 ∧ (x2_12 ≤ 0 →
          Post x1_12 s12) ∧
      (0 < x2_12 →
          wp_X10_thinOnce s12 (fun r21 t21 =>
          k12 (x1_12 + x2_12) r21 t21))) → k12 x1_12 x2_12 s12) →
  k12 0 r8 t8)

def wp_X10_count (a1 : Int) (σ : xSt) (Post : Int → xSt → Prop) : Prop :=
  ∀ σ_2 : xSt, σ_2 = xU σ 0 0 0 →
  ∀ k12 : Int → Int → Prop, (∀ (x2_12 x4_12 : Int),
(      xR x4_12 ∧ xR (σ_2 0 1) ∧ ((σ_2 0 1) ≤ x4_12 →
          ∀ k50 : Int → Int → Prop, (∀ (x3_50 x4_50 : Int),
(              wp_X10_fields σ_2 (fun r53 =>
              xR x4_50 ∧ xR r53 ∧ (r53 ≤ x4_50 →
                  xR a1 ∧ (a1 ≠ 0 →
                      xR a1 ∧ (a1 ≠ 1 →
                          xR a1 ∧ (a1 ≠ 2 →
                              xR a1 ∧ (a1 ≠ 3 →
                                  xR a1 ∧ (a1 ≠ 4 →
                                      Post (-1002) σ_2) ∧
                                  (a1 = 4 →
                                      Post x3_50 σ_2)) ∧
                              (a1 = 3 →
                                  Post x2_12 σ_2)) ∧
                          (a1 = 2 →
                              Post (σ_2 0 6) σ_2)) ∧
                      (a1 = 1 →
                          Post (σ_2 0 5) σ_2)) ∧
                  (a1 = 0 →
                      Post (σ_2 0 1) σ_2)) ∧
              (x4_50 < r53 →
                  (0 ≤ x4_50 ∧ x4_50 < (144 : Nat)) ∧
                  xR (σ_2 4 (x4_50).toNat) ∧ ((σ_2 4 (x4_50).toNat) = 0 →
                      k50 (x3_50 + 0) (x4_50 + 1)) ∧
                  ((σ_2 4 (x4_50).toNat) ≠ 0 →
                      wp_X10_onEdge x4_50 σ_2 (fun r73 =>
                      xR r73 ∧ (r73 = 0 →
                          k50 (x3_50 + 0) (x4_50 + 1)) ∧
                      (r73 ≠ 0 →
                          k50 (x3_50 + 1) (x4_50 + 1))))))) → k50 x3_50 x4_50) →
          k50 0 0) ∧
      (x4_12 < (σ_2 0 1) →
          (0 ≤ x4_12 ∧ x4_12 < (60 : Nat)) ∧
          xR (σ_2 1 (x4_12).toNat) ∧ xR 2 ∧ 2 ≠ (0 : Int) ∧
          xR (Int.tmod (σ_2 1 (x4_12).toNat) 2) ∧ ((Int.tmod (σ_2 1 (x4_12).toNat) 2) ≠ 0 →
              k12 (x2_12 + 0) (x4_12 + 1)) ∧
          ((Int.tmod (σ_2 1 (x4_12).toNat) 2) = 0 →
              k12 (x2_12 + 1) (x4_12 + 1)))) → k12 x2_12 x4_12) →
  k12 0 0

