/-! what ties the two states -/
def pX (f : Nat → Int) : Nat → Int := sI (fun i => xRt (f i).toNat)
def pY (f : Nat → Int) : Nat → Int := sI (fun i => xUp (f i).toNat)
def RR (σ τ : xSt) : Prop :=
  σ 1 3 = τ 0 1 ∧ 0 ≤ τ 0 1 ∧ τ 0 1 ≤ 60 ∧ σ 2 = τ 1 ∧ (∀ i : Nat, 0 ≤ τ 1 i ∧ τ 1 i < 8) ∧ (∀ i : Nat, (i : Int) ≤ τ 0 1 → σ 3 i = pX (τ 1) i ∧ σ 4 i = pY (τ 1) i) ∧ σ 7 1 = τ 0 5 ∧ σ 7 2 = τ 0 6 ∧ σ 8 = τ 4 ∧ GOk (τ 0 5) (τ 0 6) (τ 4) ∧ σ 6 0 = 0
theorem RR_of {σ σ' τ τ' : xSt} (h : RR σ τ) (h1 : σ' 1 3 = σ 1 3) (h2 : σ' 2 = σ 2) (h3 : σ' 3 = σ 3) (h4 : σ' 4 = σ 4) (h5 : σ' 7 1 = σ 7 1) (h6 : σ' 7 2 = σ 7 2) (h7 : σ' 8 = σ 8) (h8 : σ' 6 0 = σ 6 0) (g1 : τ' 0 1 = τ 0 1) (g2 : τ' 0 5 = τ 0 5) (g3 : τ' 0 6 = τ 0 6) (g4 : τ' 1 = τ 1) (g5 : τ' 4 = τ 4) : RR σ' τ' := by
  unfold RR at h ⊢
  rw [h1, h2, h3, h4, h5, h6, h7, h8, g1, g2, g3, g4, g5]
  exact h
theorem RR_th {σ τ : xSt} (h : RR σ τ) : RR σ (xU τ 0 0 0) := RR_of h rfl rfl rfl rfl rfl rfl rfl rfl rfl rfl rfl rfl rfl
/-- the class's scratch cells may change -/
theorem RR_x {σ σ' τ : xSt} (h : RR σ τ) (hs : eqx [5, 9, 10, 11, 12, 13, 14, 15, 16, 17, 18, 19, 20, 21, 22] σ σ') : RR σ' τ := by
  refine RR_of h ?_ ?_ ?_ ?_ ?_ ?_ ?_ ?_ rfl rfl rfl rfl rfl <;> first | exact hs _ (by decide) | rw [hs _ (by decide)]
/-- and with the row of asides but for its first place -/
theorem RR_x6 {σ σ' τ : xSt} (h : RR σ τ) (hs : eqx [5, 6] σ σ') (h6 : σ' 6 0 = σ 6 0) : RR σ' τ := by
  refine RR_of h ?_ ?_ ?_ ?_ ?_ ?_ ?_ h6 rfl rfl rfl rfl rfl <;> first | exact hs _ (by decide) | rw [hs _ (by decide)]
/-- the reference's scratch cells may change -/
theorem RR_m {σ τ τ' : xSt} (h : RR σ τ) (hs : eqx [2, 3, 5, 6, 7, 8, 9, 10, 11] τ τ') : RR σ τ' := by
  refine RR_of h rfl rfl rfl rfl rfl rfl rfl rfl ?_ ?_ ?_ ?_ ?_ <;> first | exact hs _ (by decide) | rw [hs _ (by decide)]
theorem RR_g {σ τ : xSt} (h : RR σ τ) : GOk (σ 7 1) (σ 7 2) (σ 8) := by
  obtain ⟨-, -, -, -, -, -, gw, gh, e8, hG, -⟩ := h
  rw [gw, gh, e8]; exact hG
theorem xRt_bd (j : Nat) : -1 ≤ xRt j ∧ xRt j ≤ 1 := by
  unfold xRt
  match j with
  | 0 | 1 | 2 | 3 | 4 | 5 | 6 | 7 => decide
  | n + 8 => simp [List.getD]
theorem xUp_bd (j : Nat) : -1 ≤ xUp j ∧ xUp j ≤ 1 := by
  unfold xUp
  match j with
  | 0 | 1 | 2 | 3 | 4 | 5 | 6 | 7 => decide
  | n + 8 => simp [List.getD]
theorem pX_bd (f : Nat → Int) (n : Nat) : -(n : Int) ≤ pX f n ∧ pX f n ≤ n := by
  have h := sI_bd (g := fun i => xRt (f i).toNat) (n := n) (a := -1) (b := 1) (fun i _ => xRt_bd _)
  unfold pX; omega
theorem pY_bd (f : Nat → Int) (n : Nat) : -(n : Int) ≤ pY f n ∧ pY f n ≤ n := by
  have h := sI_bd (g := fun i => xUp (f i).toNat) (n := n) (a := -1) (b := 1) (fun i _ => xUp_bd _)
  unfold pY; omega
theorem pX_c {f g : Nat → Int} {n : Nat} (h : ∀ i, i < n → f i = g i) : pX f n = pX g n := sI_c (fun i hi => by rw [h i hi])
theorem pY_c {f g : Nat → Int} {n : Nat} (h : ∀ i, i < n → f i = g i) : pY f n = pY g n := sI_c (fun i hi => by rw [h i hi])
section RX
variable {σ : xSt} {Post : Int → Prop} {PostV : xSt → Prop}
theorem sx_steps (h : Post (σ 1 3)) : wp_X6_steps σ Post := h
theorem sx_hasStep {a : Int} (ha : xR a) (h1 : 0 ≤ σ 1 3) (h2 : σ 1 3 ≤ 60) (h : Post (bI (0 ≤ a ∧ a < σ 1 3))) : wp_X6_hasStep a σ Post := by
  unfold wp_X6_hasStep
  refine ⟨ha, fun c => ?_, fun c => ⟨ha, by omega, fun c2 => ?_, fun c2 => ?_⟩⟩
  · rw [bI_f (by omega)] at h; exact h
  · rw [bI_f (by omega)] at h; exact h
  · rw [bI_t (by omega)] at h; exact h
theorem sx_hasPlace {a : Int} (ha : xR a) (h1 : 0 ≤ σ 1 3) (h2 : σ 1 3 ≤ 60) (h : Post (bI (0 ≤ a ∧ a ≤ σ 1 3))) : wp_X6_hasPlace a σ Post := by
  unfold wp_X6_hasPlace
  refine ⟨ha, fun c => ?_, fun c => ⟨ha, by omega, fun c2 => ?_, fun c2 => ?_⟩⟩
  · rw [bI_f (by omega)] at h; exact h
  · rw [bI_f (by omega)] at h; exact h
  · rw [bI_t (by omega)] at h; exact h
theorem sx_wayOf {a : Int} (h0 : 0 ≤ a) (h1 : a < σ 1 3) (h2 : σ 1 3 ≤ 60) (h : Post (σ 2 a.toNat)) : wp_X6_wayOf a σ Post := by
  unfold wp_X6_wayOf
  exact sx_hasStep (by omega) (by omega) h2 (br_z (fun c => absurd ⟨h0, h1⟩ c) (fun c => ⟨by omega, h⟩))
theorem sx_xOf {a : Int} (h0 : 0 ≤ a) (h1 : a ≤ σ 1 3) (h2 : σ 1 3 ≤ 60) (h : Post (σ 3 a.toNat)) : wp_X6_xOf a σ Post := by
  unfold wp_X6_xOf
  exact sx_hasPlace (by omega) (by omega) h2 (br_z (fun c => absurd ⟨h0, h1⟩ c) (fun c => ⟨by omega, h⟩))
theorem sx_yOf {a : Int} (h0 : 0 ≤ a) (h1 : a ≤ σ 1 3) (h2 : σ 1 3 ≤ 60) (h : Post (σ 4 a.toNat)) : wp_X6_yOf a σ Post := by
  unfold wp_X6_yOf
  exact sx_hasPlace (by omega) (by omega) h2 (br_z (fun c => absurd ⟨h0, h1⟩ c) (fun c => ⟨by omega, h⟩))
theorem sm_stepX {a : Int} (h0 : 0 ≤ a) (h1 : a < 8) (h : Post (xRt a.toNat)) : wp_X10_stepX a σ Post := by
  have hc : a = 0 ∨ a = 1 ∨ a = 2 ∨ a = 3 ∨ a = 4 ∨ a = 5 ∨ a = 6 ∨ a = 7 := by omega
  unfold wp_X10_stepX
  rcases hc with rfl | rfl | rfl | rfl | rfl | rfl | rfl | rfl <;> simp <;> exact ⟨by omega, h⟩
theorem sm_stepY {a : Int} (h0 : 0 ≤ a) (h1 : a < 8) (h : Post (xUp a.toNat)) : wp_X10_stepY a σ Post := by
  have hc : a = 0 ∨ a = 1 ∨ a = 2 ∨ a = 3 ∨ a = 4 ∨ a = 5 ∨ a = 6 ∨ a = 7 := by omega
  unfold wp_X10_stepY
  intro k hk
  refine ⟨by omega, fun c => hk ⟨by omega, fun c2 => ?_, fun c2 => absurd c2 (by omega)⟩, fun c => ⟨by omega, fun c2 => hk ⟨by omega, fun c3 => ?_, fun c3 => ?_⟩, fun c2 => ?_⟩⟩
  · have e : a = 0 := by omega
    subst e; exact h
  · have e : a = 4 := by omega
    subst e; exact h
  · rcases hc with rfl | rfl | rfl | rfl | rfl | rfl | rfl | rfl <;> first | omega | exact h
  · rcases hc with rfl | rfl | rfl | rfl | rfl | rfl | rfl | rfl <;> first | omega | exact h
theorem sm_placeOf (hw : ∀ i : Nat, 0 ≤ σ 1 i ∧ σ 1 i < 8) {n a2 : Int} (h0 : 0 ≤ n) (h1 : n ≤ 60) (h2 : xR a2) (hx : a2 = 0 → Post (pX (σ 1) n.toNat)) (hy : a2 ≠ 0 → Post (pY (σ 1) n.toNat)) : wp_X10_placeOf n a2 σ Post := by
  unfold wp_X10_placeOf
  intro k hk
  by_cases ca : a2 = 0
  · have key := lpU (P := fun i => 0 ≤ i → k (pX (σ 1) i.toNat) i) n (fun i hi ih hi0 => ?_) 0 h0 (by omega)
    · exact key
    · refine hk _ _ ⟨by omega, by omega, fun c => ?_, fun c => ⟨h2, fun c2 => ⟨by omega, sm_stepX (hw _).1 (hw _).2 ?_⟩, fun c2 => absurd ca c2⟩⟩
      · have e : i = n := by omega
        rw [e]; exact hx ca
      · have st := ih (i + 1) (by omega) (by omega) (by omega)
        rw [pX, sI_s _ hi0] at st; exact st
  · have key := lpU (P := fun i => 0 ≤ i → k (pY (σ 1) i.toNat) i) n (fun i hi ih hi0 => ?_) 0 h0 (by omega)
    · exact key
    · refine hk _ _ ⟨by omega, by omega, fun c => ?_, fun c => ⟨h2, fun c2 => absurd c2 ca, fun c2 => ⟨by omega, sm_stepY (hw _).1 (hw _).2 ?_⟩⟩⟩
      · have e : i = n := by omega
        rw [e]; exact hy ca
      · have st := ih (i + 1) (by omega) (by omega) (by omega)
        rw [pY, sI_s _ hi0] at st; exact st
end RX
/-! the row's calls -/
/-- one step behind, on both sides -/
theorem RR_app {σ τ : xSt} {PostV : xSt → Prop} (h : RR σ τ) {a : Int} (h0 : 0 ≤ a) (h1 : a < 8) (hn : τ 0 1 < 60)
    (hp : ∀ σ', RR σ' (xU (xU τ 1 (τ 0 1).toNat a) 0 1 (τ 0 1 + 1)) → σ' 1 3 = σ 1 3 + 1 → PostV σ') : wp_X6_append a σ PostV := by
  obtain ⟨n1, n2, n3, e2, wy, pl, gw, gh, e8, hG, as0⟩ := h
  unfold wp_X6_append
  refine ⟨by omega, fun c => absurd c (by omega), fun c => ⟨by omega, fun c => absurd c (by omega), fun c => ⟨by omega, fun c => ⟨by omega, ?_⟩, fun c => absurd c (by omega)⟩⟩⟩
  intro s1 d1
  have f1 : s1 1 3 = σ 1 3 := by rw [d1]; rfl
  refine ⟨by omega, by omega, by omega, ?_⟩
  intro s2 d2
  have f2 : s2 1 3 = σ 1 3 := by rw [d2]; exact f1
  refine ⟨by omega, by omega, by omega, ?_⟩
  intro s3 d3 s4 d4
  have f3 : s3 1 3 = σ 1 3 := by rw [d3]; exact f2
  have q2 : s4 2 = xU σ 2 (σ 1 3).toNat a 2 := by rw [d4, d3, d2, d1]; rfl
  have q3 : s4 3 = xU s1 3 (σ 1 3 + 1).toNat (s1 3 (σ 1 3).toNat + xRt a.toNat) 3 := by rw [d4, d3, d2, f1]; rfl
  have q4 : s4 4 = xU s2 4 (σ 1 3 + 1).toNat (s2 4 (σ 1 3).toNat + xUp a.toNat) 4 := by rw [d4, d3, f2]; rfl
  have p3 : s1 3 = σ 3 := by rw [d1]; rfl
  have p4 : s2 4 = σ 4 := by rw [d2, d1]; rfl
  have r3 : s4 1 3 = σ 1 3 + 1 := by rw [d4, xU_s, f3]
  have en : ((σ 1 3).toNat : Int) = τ 0 1 := by omega
  refine hp s4 ⟨?_, ?_, ?_, ?_, ?_, ?_, ?_, ?_, ?_, ?_, ?_⟩ r3
  · rw [r3, xU_s, n1]
  · rw [xU_s]; omega
  · rw [xU_s]; omega
  · rw [q2, n1]
    show xU σ 2 (τ 0 1).toNat a 2 = xU τ 1 (τ 0 1).toNat a 1
    funext j
    rw [xU_i, xU_i, e2]
  · intro i
    show 0 ≤ xU τ 1 (τ 0 1).toNat a 1 i ∧ xU τ 1 (τ 0 1).toNat a 1 i < 8
    rw [xU_i]; split
    · exact ⟨h0, h1⟩
    · exact wy i
  · intro i hi
    rw [xU_s] at hi
    show s4 3 i = pX (xU τ 1 (τ 0 1).toNat a 1) i ∧ s4 4 i = pY (xU τ 1 (τ 0 1).toNat a 1) i
    have hco : ∀ j, j < (τ 0 1).toNat → xU τ 1 (τ 0 1).toNat a 1 j = τ 1 j := fun j hj => xU_j τ 1 a (by omega)
    rw [q3, q4, xU_i, xU_i, p3, p4]
    by_cases ci : i = (σ 1 3 + 1).toNat
    · rw [if_pos ci, if_pos ci, ci]
      have e1 : (σ 1 3 + 1).toNat = (τ 0 1).toNat + 1 := by omega
      have e3 : (σ 1 3).toNat = (τ 0 1).toNat := by omega
      rw [e1, e3]
      have pl1 := pl (τ 0 1).toNat (by omega)
      rw [pl1.1, pl1.2]
      show pX (τ 1) (τ 0 1).toNat + xRt a.toNat = pX (xU τ 1 (τ 0 1).toNat a 1) (τ 0 1).toNat + xRt (xU τ 1 (τ 0 1).toNat a 1 (τ 0 1).toNat).toNat ∧ pY (τ 1) (τ 0 1).toNat + xUp a.toNat = pY (xU τ 1 (τ 0 1).toNat a 1) (τ 0 1).toNat + xUp (xU τ 1 (τ 0 1).toNat a 1 (τ 0 1).toNat).toNat
      rw [pX_c hco, pY_c hco, xU_s]
      exact ⟨rfl, rfl⟩
    · rw [if_neg ci, if_neg ci]
      have pl1 := pl i (by omega)
      rw [pl1.1, pl1.2]
      exact ⟨(pX_c (fun j hj => hco j (by omega))).symm, (pY_c (fun j hj => hco j (by omega))).symm⟩
  · rw [d4, d3, d2, d1]; exact gw
  · rw [d4, d3, d2, d1]; exact gh
  · rw [d4, d3, d2, d1]; exact e8
  · exact hG
  · rw [d4, d3, d2, d1]; exact as0
theorem op_step {σ τ : xSt} (hR : RR σ τ) {a : Int} (ha : xR a) : wp_X9_step a σ (fun r σ' => wp_X10_step a τ (fun r' τ' => r = r' ∧ RR σ' τ')) := by
  obtain ⟨n1, n2, n3, -⟩ := id hR
  have hR2 := RR_th hR
  unfold wp_X9_step
  refine ⟨ha, fun c => ?_, fun c => ⟨ha, fun c2 => sx_steps ⟨by omega, fun c3 => ?_, fun c3 => ?_⟩, fun c2 => ?_⟩⟩
  · intro t1 e1; subst e1
    exact ⟨ha, sm_in ha (by omega) (by omega) (br_n (fun d => absurd d (by omega)) (fun d => ⟨rfl, hR2⟩))⟩
  · refine RR_app hR2 c c2 (show τ 0 1 < 60 by omega) (fun σ' hR3 hl => sx_steps ?_)
    intro t1 e1; subst e1
    refine ⟨ha, sm_in ha (by omega) (by omega) (br_n (fun d => ⟨show xR (τ 0 1) by omega, fun d2 => ⟨show 0 ≤ τ 0 1 ∧ τ 0 1 < (60 : Nat) by omega, ?_⟩, fun d2 => absurd d2 (show ¬ τ 0 1 = 60 by omega)⟩) (fun d => absurd d (by omega)))⟩
    intro t2 e2 t3 e3; subst e3; subst e2
    exact ⟨by rw [hl, n1]; exact (xU_s _ _ _ _).symm, hR3⟩
  · intro t1 e1; subst e1
    refine ⟨ha, sm_in ha (by omega) (by omega) (br_n (fun d => ⟨?_, fun d2 => absurd d2 ?_, fun d2 => ⟨rfl, hR2⟩⟩) (fun d => absurd d (by omega)))⟩
    · show xR (τ 0 1); omega
    · show ¬ τ 0 1 ≠ 60; omega
  · intro t1 e1; subst e1
    exact ⟨ha, sm_in ha (by omega) (by omega) (br_n (fun d => absurd d (by omega)) (fun d => ⟨rfl, hR2⟩))⟩
theorem op_back {σ τ : xSt} (hR : RR σ τ) {a : Int} (ha : xR a) : wp_X9_back a σ (fun r σ' => wp_X10_back a τ (fun r' τ' => r = r' ∧ RR σ' τ')) := by
  obtain ⟨n1, n2, n3, e2, wy, pl, gw, gh, e8, hG, as0⟩ := id hR
  have hR2 := RR_th hR
  unfold wp_X9_back
  refine ⟨ha, fun c => ?_, fun c => ⟨ha, fun c2 => sx_steps ⟨ha, by omega, fun c3 => ⟨ha, fun c4 => absurd c4 (by omega), fun c4 => ⟨ha, by omega, fun c5 => absurd c5 (by omega), fun c5 => ?_⟩⟩, fun c3 => ?_⟩, fun c2 => ?_⟩⟩
  · intro t1 e1; subst e1
    exact ⟨ha, sm_in ha (by omega) (by omega) (br_n (fun d => absurd d (by omega)) (fun d => ⟨rfl, hR2⟩))⟩
  · intro s1 d1
    refine sx_steps ?_
    intro t1 e1; subst e1
    refine ⟨ha, sm_in ha (by omega) (by omega) (br_n (fun d => ⟨ha, show xR (τ 0 1) by omega, fun d2 => ?_, fun d2 => absurd d2 (show ¬ τ 0 1 < a by omega)⟩) (fun d => absurd d (by omega)))⟩
    intro t2 e2'; subst e2'; subst d1
    refine ⟨?_, ?_, ?_, ?_, e2, wy, ?_, gw, gh, e8, hG, as0⟩
    · rw [xU_s, xU_s, n1]; rfl
    · rw [xU_s, xU_s, n1]; rfl
    · rw [xU_s]; show 0 ≤ τ 0 1 - a; omega
    · rw [xU_s]; show τ 0 1 - a ≤ 60; omega
    · intro i hi
      rw [xU_s] at hi
      exact pl i (by have : (i : Int) ≤ τ 0 1 - a := hi; omega)
  · intro t1 e1; subst e1
    exact ⟨ha, sm_in ha (by omega) (by omega) (br_n (fun d => ⟨ha, show xR (τ 0 1) by omega, fun d2 => absurd d2 (show ¬ a ≤ τ 0 1 by omega), fun d2 => ⟨rfl, hR2⟩⟩) (fun d => absurd d (by omega)))⟩
  · intro t1 e1; subst e1
    exact ⟨ha, sm_in ha (by omega) (by omega) (br_n (fun d => absurd d (by omega)) (fun d => ⟨rfl, hR2⟩))⟩
theorem op_way {σ τ : xSt} (hR : RR σ τ) {a : Int} (ha : xR a) : wp_X9_way a σ (fun r => wp_X10_way a τ (fun r' τ' => r = r' ∧ RR σ τ')) := by
  obtain ⟨n1, n2, n3, e2, wy, -⟩ := id hR
  have hR2 := RR_th hR
  unfold wp_X9_way
  refine sx_hasStep ha (by omega) (by omega) (br_z (fun c => ?_) (fun c => sx_wayOf c.1 c.2 (by omega) ?_))
  · intro t1 e1; subst e1
    exact ⟨ha, show xR (τ 0 1 - 1) by omega, sm_in ha (by omega) (show xR (τ 0 1 - 1) by omega) (br_z (fun d => ⟨rfl, hR2⟩) (fun d => absurd d (show ¬ (0 ≤ a ∧ a ≤ τ 0 1 - 1) by omega)))⟩
  · intro t1 e1; subst e1
    exact ⟨ha, show xR (τ 0 1 - 1) by omega, sm_in ha (by omega) (show xR (τ 0 1 - 1) by omega) (br_z (fun d => absurd (show 0 ≤ a ∧ a ≤ τ 0 1 - 1 by omega) d) (fun d => ⟨by omega, by rw [e2]; rfl, hR2⟩))⟩
theorem sm_noPlace {σ : xSt} {Post : Int → Prop} {a : Int} (ha : xR a) (h1 : 0 ≤ σ 0 1) (h2 : σ 0 1 ≤ 60) (h : Post (bI (¬ (0 ≤ a ∧ a ≤ σ 0 1)))) : wp_X10_noPlace a σ Post := by
  unfold wp_X10_noPlace
  refine ⟨ha, by omega, sm_in ha (by omega) (by omega) (br_n (fun c => ?_) (fun c => ?_))⟩
  · rw [bI_f (fun q => q c)] at h; exact h
  · rw [bI_t c] at h; exact h
theorem op_place {σ τ : xSt} (hR : RR σ τ) {a b : Int} (ha : xR a) (hb : xR b) : wp_X9_place a b σ (fun r => wp_X10_place a b τ (fun r' τ' => r = r' ∧ RR σ τ')) := by
  obtain ⟨n1, n2, n3, e2, wy, pl, -⟩ := id hR
  have hR2 := RR_th hR
  unfold wp_X9_place
  refine sx_hasPlace ha (by omega) (by omega) (br_n (fun c => ⟨hb, fun c2 => sx_xOf c.1 c.2 (by omega) ?_, fun c2 => sx_yOf c.1 c.2 (by omega) ?_⟩) (fun c => ?_))
  · intro t1 e1; subst e1
    refine sm_noPlace ha n2 n3 (br_z (fun d => sm_placeOf wy c.1 (by omega) hb (fun _ => ⟨?_, hR2⟩) (fun d2 => absurd c2 d2)) (fun d => absurd (show 0 ≤ a ∧ a ≤ τ 0 1 by omega) d))
    exact (pl a.toNat (by omega)).1
  · intro t1 e1; subst e1
    refine sm_noPlace ha n2 n3 (br_z (fun d => sm_placeOf wy c.1 (by omega) hb (fun d2 => absurd d2 c2) (fun _ => ⟨?_, hR2⟩)) (fun d => absurd (show 0 ≤ a ∧ a ≤ τ 0 1 by omega) d))
    exact (pl a.toNat (by omega)).2
  · intro t1 e1; subst e1
    exact sm_noPlace ha n2 n3 (br_z (fun d => absurd (fun q => c (show 0 ≤ a ∧ a ≤ σ 1 3 from ⟨q.1, n1 ▸ q.2⟩)) d) (fun d => ⟨rfl, hR2⟩))
