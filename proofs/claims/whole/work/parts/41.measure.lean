/-! depths laid down -/
theorem sx_measureD {σ : xSt} {PostV : xSt → Prop} (hG : GOk (σ 7 1) (σ 7 2) (σ 8)) {N : Nat} (hN : (N : Int) = σ 7 1 * σ 7 2) (hp : ∀ s', eqx [19] σ s' → (∀ g : Nat, g < N → 0 ≤ s' 19 g ∧ s' 19 g ≤ 400 ∧ Dv (σ 7 1) (σ 7 2) (σ 8) g (s' 19 g)) → PostV s') : wp_X0_measure σ PostV := by
  have hN1 := hG.N
  unfold wp_X0_measure
  intro k hk
  have key := lpU (P := fun x => 0 ≤ x → ∀ s : xSt, eqx [19] σ s → (∀ g : Nat, (g : Int) < x → 0 ≤ s 19 g ∧ s 19 g ≤ 400 ∧ Dv (σ 7 1) (σ 7 2) (σ 8) g (s 19 g)) → k x s) (N : Int) (fun x hx ih x0 s qs hd => ?_) 0 (by omega) (by omega) σ (eqx_rf _ _) (fun g hg => absurd hg (by omega))
  · exact key
  · have s7 : s 7 = σ 7 := qs 7 (by decide)
    have s8 : s 8 = σ 8 := qs 8 (by decide)
    refine hk x s (sx_fields ?_)
    rw [s7, ← hN]
    refine ⟨by omega, by omega, fun c => hp s qs (fun g hg => hd g (by omega)), fun c => ?_⟩
    have ex : ((x.toNat : Nat) : Int) = x := by omega
    have hm := sx_depthOf (σ := s) (Post := fun r18 => (0 ≤ x ∧ x < (144 : Nat)) ∧ ∀ σ_21 : xSt, σ_21 = xU s 19 (x.toNat) r18 → k (x + 1) σ_21) (by rw [s7, s8]; exact hG) (f := x.toNat) (by rw [ex, s7]; omega) (fun d d0 d4 hdv => ⟨by omega, fun s' e' => by
      subst e'
      rw [s7, s8] at hdv
      refine ih (x + 1) (by omega) (by omega) (by omega) _ (eqx_tr qs (eqx_up s _ (by simp))) (fun g hg => ?_)
      rw [xU_i]
      by_cases cg : g = x.toNat
      · rw [if_pos cg, cg]; exact ⟨d0, d4, hdv⟩
      · rw [if_neg cg]; exact hd g (by omega)⟩)
    rw [ex] at hm; exact hm
theorem sm_measureD {τ : xSt} {PostV : xSt → Prop} (hG : GOk (τ 0 5) (τ 0 6) (τ 4)) {N : Nat} (hN : (N : Int) = τ 0 5 * τ 0 6) (hp : ∀ s', eqx [7] τ s' → (∀ g : Nat, g < N → 0 ≤ s' 7 g ∧ s' 7 g ≤ 400 ∧ Dv (τ 0 5) (τ 0 6) (τ 4) g (s' 7 g)) → PostV s') : wp_X10_measure τ PostV := by
  have hN1 := hG.N
  unfold wp_X10_measure
  intro k hk
  have key := lpU (P := fun x => 0 ≤ x → ∀ s : xSt, eqx [7] τ s → (∀ g : Nat, (g : Int) < x → 0 ≤ s 7 g ∧ s 7 g ≤ 400 ∧ Dv (τ 0 5) (τ 0 6) (τ 4) g (s 7 g)) → k x s) (N : Int) (fun x hx ih x0 s qs hd => ?_) 0 (by omega) (by omega) τ (eqx_rf _ _) (fun g hg => absurd hg (by omega))
  · exact key
  · have s0 : s 0 = τ 0 := qs 0 (by decide)
    have s4 : s 4 = τ 4 := qs 4 (by decide)
    refine hk x s (sm_fields ?_)
    rw [s0, ← hN]
    refine ⟨by omega, by omega, fun c => hp s qs (fun g hg => hd g (by omega)), fun c => ?_⟩
    have ex : ((x.toNat : Nat) : Int) = x := by omega
    have hm := sm_depthOf (σ := s) (Post := fun r17 => (0 ≤ x ∧ x < (144 : Nat)) ∧ ∀ σ_20 : xSt, σ_20 = xU s 7 (x.toNat) r17 → k (x + 1) σ_20) (by rw [s0, s4]; exact hG) (f := x.toNat) (by rw [ex, s0]; omega) (fun d d0 d4 hdv => ⟨by omega, fun s' e' => by
      subst e'
      rw [s0, s4] at hdv
      refine ih (x + 1) (by omega) (by omega) (by omega) _ (eqx_tr qs (eqx_up s _ (by simp))) (fun g hg => ?_)
      rw [xU_i]
      by_cases cg : g = x.toNat
      · rw [if_pos cg, cg]; exact ⟨d0, d4, hdv⟩
      · rw [if_neg cg]; exact hd g (by omega)⟩)
    rw [ex] at hm; exact hm
