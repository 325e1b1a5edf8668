/-! the class's depth: a window is enough -/
theorem xMin_bd (a b : Int) : xMin a b ≤ a ∧ xMin a b ≤ b ∧ (xMin a b = a ∨ xMin a b = b) := by unfold xMin; split <;> omega
theorem sx_depthOf {σ : xSt} {Post : Int → Prop} (hG : GOk (σ 7 1) (σ 7 2) (σ 8)) {f : Nat} (hf : (f : Int) < σ 7 1 * σ 7 2) (hp : ∀ d, 0 ≤ d → d ≤ 400 → Dv (σ 7 1) (σ 7 2) (σ 8) f d → Post d) : wp_X0_depthOf (f : Int) σ Post := by
  have hN := hG.N
  obtain ⟨w1, w2, w3, w4, -⟩ := id hG
  have xf := fxy (w := σ 7 1) (h := σ 7 2) (f := (f : Int)) w1 (by omega) hf
  have ef : ((f : Int)).toNat = f := by omega
  unfold wp_X0_depthOf
  refine sx_holds hG (by omega) ?_
  rw [hV_in (by omega) hf, ef]
  refine ⟨r01 (hG.2.2.2.2 _), fun c => ?_, fun c => hp 0 (by omega) (by omega) ⟨fun _ => rfl, fun q => absurd c q⟩⟩
  refine sx_col hG (by omega) (by omega) (sx_line hG (by omega) (by omega) ?_)
  generalize hx : (f : Int) % σ 7 1 = x at xf ⊢
  generalize hy : (f : Int) / σ 7 1 = y at xf ⊢
  show xR (x + 1) ∧ xR (σ 7 1 - x) ∧ _
  refine ⟨by omega, by omega, ?_⟩
  intro z5 e5
  show xR (y + 1) ∧ xR (σ 7 2 - y) ∧ _
  refine ⟨by omega, by omega, ?_⟩
  intro z6 e6
  have b5 := xMin_bd (x + 1) (σ 7 1 - x)
  have b6 := xMin_bd (y + 1) (σ 7 2 - y)
  rw [← e5] at b5
  rw [← e6] at b6
  refine ⟨by omega, by omega, ?_⟩
  have b7 := xMin_bd z5 z6
  generalize hr : xMin z5 z6 = r at b7 ⊢
  have r1 : 1 ≤ r ∧ r ≤ 12 := by omega
  intro z8 e8
  have b8 := sq_bd (a := r) (B := 12) (by omega) (by omega)
  -- what lies beyond the edge is as near as r
  have edge : ∃ X Y : Int, -1 ≤ X ∧ X ≤ σ 7 1 ∧ -1 ≤ Y ∧ Y ≤ σ 7 2 ∧ aV (σ 7 1) (σ 7 2) (σ 8) X Y = 0 ∧ r * r = sq2 (x - X) (y - Y) := by
    have cs : r = x + 1 ∨ r = σ 7 1 - x ∨ r = y + 1 ∨ r = σ 7 2 - y := by omega
    rcases cs with q | q | q | q
    · refine ⟨-1, y, by omega, by omega, by omega, by omega, aV_out (by omega), ?_⟩
      have e1 : x - -1 = r := by omega
      have e2 : y - y = 0 := by omega
      unfold sq2; rw [e1, e2]; omega
    · refine ⟨σ 7 1, y, by omega, by omega, by omega, by omega, aV_out (by omega), ?_⟩
      have e1 : x - σ 7 1 = -r := by omega
      have e2 : y - y = 0 := by omega
      unfold sq2; rw [e1, e2, Int.neg_mul_neg]; omega
    · refine ⟨x, -1, by omega, by omega, by omega, by omega, aV_out (by omega), ?_⟩
      have e1 : y - -1 = r := by omega
      have e2 : x - x = 0 := by omega
      unfold sq2; rw [e1, e2]; omega
    · refine ⟨x, σ 7 2, by omega, by omega, by omega, by omega, aV_out (by omega), ?_⟩
      have e1 : y - σ 7 2 = -r := by omega
      have e2 : x - x = 0 := by omega
      unfold sq2; rw [e1, e2, Int.neg_mul_neg]; omega
  intro k hk
  have key := lpU (P := fun dy => 1 - r ≤ dy → ∀ L : Int, 0 ≤ L → L ≤ r * r → (∃ X Y : Int, -1 ≤ X ∧ X ≤ σ 7 1 ∧ -1 ≤ Y ∧ Y ≤ σ 7 2 ∧ aV (σ 7 1) (σ 7 2) (σ 8) X Y = 0 ∧ L = sq2 (x - X) (y - Y)) → (∀ dX dY : Int, 1 - r ≤ dX → dX < r → 1 - r ≤ dY → dY < dy → aV (σ 7 1) (σ 7 2) (σ 8) (x + dX) (y + dY) = 0 → L ≤ sq2 dX dY) → k L dy) r (fun dy hdy ih d0 L L0 L1 hL hm => ?_) (1 - r) (by omega) (by omega) z8 (by omega) (by omega) (by rw [e8]; exact edge) (fun dX dY _ _ q1 q2 => absurd q2 (by omega))
  · exact key
  · refine hk L dy ⟨by omega, by omega, fun c2 => ?_, fun c2 => ?_⟩
    · refine hp L L0 (by omega) ⟨fun w => absurd w c, fun _ => ?_⟩
      rw [hx, hy]
      refine ⟨hL, fun X Y q1 q2 q3 q4 q5 => ?_⟩
      by_cases ins : (1 - r ≤ X - x ∧ X - x < r) ∧ (1 - r ≤ Y - y ∧ Y - y < r)
      · have := hm (X - x) (Y - y) ins.1.1 ins.1.2 ins.2.1 (by omega) (by
          have e1 : x + (X - x) = X := by omega
          have e2 : y + (Y - y) = Y := by omega
          rw [e1, e2]; exact q5)
        have e1 : sq2 (X - x) (Y - y) = sq2 (x - X) (y - Y) := by
          have a1 : X - x = -(x - X) := by omega
          have a2 : Y - y = -(y - Y) := by omega
          unfold sq2; rw [a1, a2, Int.neg_mul_neg, Int.neg_mul_neg]
        omega
      · have n1 := sq_nn (x - X)
        have n2 := sq_nn (y - Y)
        unfold sq2
        by_cases cx : r ≤ x - X ∨ x - X ≤ -r
        · have := sq_ge (a := x - X) (r := r) (by omega) cx; omega
        · have := sq_ge (a := y - Y) (r := r) (by omega) (by omega); omega
    · intro kb hkb
      have key2 := lpU (P := fun dx => 1 - r ≤ dx → ∀ L : Int, 0 ≤ L → L ≤ r * r → (∃ X Y : Int, -1 ≤ X ∧ X ≤ σ 7 1 ∧ -1 ≤ Y ∧ Y ≤ σ 7 2 ∧ aV (σ 7 1) (σ 7 2) (σ 8) X Y = 0 ∧ L = sq2 (x - X) (y - Y)) → (∀ dX dY : Int, 1 - r ≤ dX → dX < r → 1 - r ≤ dY → (dY < dy ∨ (dY = dy ∧ dX < dx)) → aV (σ 7 1) (σ 7 2) (σ 8) (x + dX) (y + dY) = 0 → L ≤ sq2 dX dY) → kb L dx) r (fun dx hdx ih2 dx0 L L0 L1 hL hm => ?_) (1 - r) (by omega) (by omega) L L0 L1 hL (fun dX dY q1 q2 q3 q4 q5 => hm dX dY q1 q2 q3 (by omega) q5)
      · exact key2
      · refine hkb L dx ⟨by omega, by omega, fun d => ?_, fun d => ?_⟩
        · exact ih (dy + 1) (by omega) (by omega) (by omega) L L0 L1 hL (fun dX dY q1 q2 q3 q4 q5 => hm dX dY q1 q2 q3 (by omega) q5)
        · intro z ez
          have t1 := sq_bd (a := dx) (B := 12) (by omega) (by omega)
          have t2 := sq_bd (a := dy) (B := 12) (by omega) (by omega)
          have ez' : z = sq2 dx dy := ez
          refine ⟨by omega, by omega, fun d2 => ?_, fun d2 => sx_holdsAt hG (by omega) (by omega) ?_⟩
          · refine ih2 (dx + 1) (by omega) (by omega) (by omega) L L0 L1 hL (fun dX dY q1 q2 q3 q4 q5 => ?_)
            by_cases cc : dY = dy ∧ dX = dx
            · rw [cc.1, cc.2, ← ez']; exact d2
            · exact hm dX dY q1 q2 q3 (by omega) q5
          · refine ⟨r01 (aV_01 hG _ _), fun d3 => ?_, fun d3 => ?_⟩
            · refine ih2 (dx + 1) (by omega) (by omega) (by omega) L L0 L1 hL (fun dX dY q1 q2 q3 q4 q5 => ?_)
              by_cases cc : dY = dy ∧ dX = dx
              · rw [cc.1, cc.2] at q5; exact absurd q5 d3
              · exact hm dX dY q1 q2 q3 (by omega) q5
            · refine ih2 (dx + 1) (by omega) (by omega) (by omega) z (by omega) (by omega) ⟨x + dx, y + dy, by omega, by omega, by omega, by omega, d3, ?_⟩ (fun dX dY q1 q2 q3 q4 q5 => ?_)
              · have a1 : x - (x + dx) = -dx := by omega
                have a2 : y - (y + dy) = -dy := by omega
                rw [ez']; unfold sq2; rw [a1, a2, Int.neg_mul_neg, Int.neg_mul_neg]
              · by_cases cc : dY = dy ∧ dX = dx
                · rw [cc.1, cc.2, ← ez']; exact Int.le_refl _
                · have := hm dX dY q1 q2 q3 (by omega) q5; omega
theorem op_deep {σ τ : xSt} (hR : RR σ τ) {a : Int} (ha : xR a) : wp_X9_deep a σ (fun r => wp_X10_deep a τ (fun r' τ' => r = r' ∧ RR σ τ')) := by
  have hR2 := RR_th hR
  have gx := RR_g hR
  obtain ⟨-, -, -, -, -, -, gw, gh, e8, hG, -⟩ := id hR
  unfold wp_X9_deep
  refine sx_knows gx ha (br_z (fun c => ?_) (fun c => ?_))
  · intro t e; subst e
    exact sm_noField (σ := xU τ 0 0 0) hG ha (br_z (fun d => absurd (fun q => c (by rw [gw, gh]; exact q)) d) (fun _ => ⟨rfl, hR2⟩))
  · have c' : 0 ≤ a ∧ a < τ 0 5 * τ 0 6 := by rw [← gw, ← gh]; exact c
    have ea : ((a.toNat : Nat) : Int) = a := by omega
    have hx := sx_depthOf (σ := σ) (Post := fun r20 => wp_X10_deep a τ (fun r' τ' => r20 = r' ∧ RR σ τ')) gx (f := a.toNat) (by rw [ea]; exact c.2) (fun d _ _ hd => by
      intro t e; subst e
      refine sm_noField (σ := xU τ 0 0 0) hG ha (br_z (fun _ => ?_) (fun q => absurd c' q))
      have hm := sm_depthOf (σ := xU τ 0 0 0) (Post := fun r21 => d = r21 ∧ RR σ (xU τ 0 0 0)) hG (f := a.toNat) (by rw [ea]; exact c'.2) (fun d' _ _ hd' => ⟨by rw [gw, gh, e8] at hd; exact Dv_u hd hd', hR2⟩)
      rw [ea] at hm; exact hm)
    rw [ea] at hx; exact hx
