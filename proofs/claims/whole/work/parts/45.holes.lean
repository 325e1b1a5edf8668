/-! parts and holes counted -/
theorem Lab_bd {N : Nat} {S : Nat → Prop} {A : Nat → Nat → Prop} {L : Nat → Int} (h : Lab N S A L) {g : Nat} (hg : g < N) : L g = -999 ∨ (0 ≤ L g ∧ L g < N) := by
  by_cases c : S g
  · obtain ⟨i, i1, i2, i3, i4⟩ := h.2.1 g c
    exact Or.inr (by omega)
  · exact Or.inl (h.1 g hg c)
theorem Opn_c {N : Nat} {w h : Int} {L L' : Nat → Int} {r : Int} (e : ∀ g, g < N → L g = L' g) : Opn N w h L r ↔ Opn N w h L' r := by
  unfold Opn
  exact ⟨fun ⟨g, g1, g2, g3⟩ => ⟨g, g1, by rw [← e g g1]; exact g2, g3⟩, fun ⟨g, g1, g2, g3⟩ => ⟨g, g1, by rw [e g g1]; exact g2, g3⟩⟩
theorem sm_parts {τ : xSt} {Post : Int → xSt → Prop} (hG : GOk (τ 0 5) (τ 0 6) (τ 4)) {N : Nat} (hN : (N : Int) = τ 0 5 * τ 0 6)
    (hp : ∀ s', eqx [6] τ s' → Lab N (fun g => g < N ∧ (((1 : Int) = 0 ∧ τ 5 g = 0) ∨ ((1 : Int) ≠ 0 ∧ τ 4 g ≠ 0))) (adj (τ 0 5) 1) (s' 6) → Post (sI (fun g => bI (s' 6 g = (g : Int))) N) s') : wp_X10_parts τ Post := by
  have hN1 := hG.N
  unfold wp_X10_parts
  refine sm_hang hG hN (by omega) (fun q => absurd q (by omega)) (fun s' q' hl => ?_)
  have s0 : s' 0 = τ 0 := q' 0 (by decide)
  intro k hk
  have key := lpU (P := fun x => 0 ≤ x → k (sI (fun g => bI (s' 6 g = (g : Int))) x.toNat) x) (N : Int) (fun x hx ih x0 => ?_) 0 (by omega) (by omega)
  · exact key
  · refine hk _ x (sm_fields ?_)
    rw [s0, ← hN]
    refine ⟨by omega, by omega, fun c => ?_, fun c => ?_⟩
    · have ex : x.toNat = N := by omega
      rw [ex]; exact hp s' q' hl
    · have ex : ((x.toNat : Nat) : Int) = x := by omega
      have st := ih (x + 1) (by omega) (by omega) (by omega)
      rw [sI_s _ x0, ex] at st
      have bd := Lab_bd hl (g := x.toNat) (by omega)
      refine ⟨by omega, by omega, by omega, fun c2 => ?_, fun c2 => ?_⟩
      · rw [bI_f c2] at st; exact st
      · rw [bI_t c2] at st; exact st
theorem sx_shutParts {σ : xSt} {Post : Int → xSt → Prop} (hG : GOk (σ 7 1) (σ 7 2) (σ 8)) {N : Nat} (hN : (N : Int) = σ 7 1 * σ 7 2) (hL : ∀ g, g < N → σ 10 g = -999 ∨ (0 ≤ σ 10 g ∧ σ 10 g < N))
    (hp : ∀ s', eqx [12] σ s' → Post (sI (fun g => cI (σ 10 g = (g : Int) ∧ ¬ Opn N (σ 7 1) (σ 7 2) (σ 10) (g : Int))) N) s') : wp_X4_shutParts σ Post := by
  have hN1 := hG.N
  unfold wp_X4_shutParts
  refine sx_findOpen hG hN hL (fun s' q' ho => ?_)
  have s7 : s' 7 = σ 7 := q' 7 (by decide)
  have s10 : s' 10 = σ 10 := q' 10 (by decide)
  intro k hk
  have key := lpU (P := fun x => 0 ≤ x → k (sI (fun g => cI (σ 10 g = (g : Int) ∧ ¬ Opn N (σ 7 1) (σ 7 2) (σ 10) (g : Int))) x.toNat) x) (N : Int) (fun x hx ih x0 => ?_) 0 (by omega) (by omega)
  · exact key
  · refine hk _ x (sx_fields ?_)
    rw [s7, ← hN, s10]
    refine ⟨by omega, by omega, fun c => ?_, fun c => ?_⟩
    · have ex : x.toNat = N := by omega
      rw [ex]; exact hp s' q'
    · have ex : ((x.toNat : Nat) : Int) = x := by omega
      have st := ih (x + 1) (by omega) (by omega) (by omega)
      rw [sI_s _ x0, ex] at st
      have bd := hL x.toNat (by omega)
      obtain ⟨o1, o2⟩ := ho x.toNat (by omega)
      rw [ex] at o2
      refine ⟨by omega, by omega, by omega, fun c2 => ?_, fun c2 => ⟨by omega, r01 o1, fun c3 => ?_, fun c3 => ?_⟩⟩
      · rw [cI_f (fun q => c2 q.1), Int.add_zero] at st; exact st
      · rw [cI_f (fun q => q.2 (o2.mp c3)), Int.add_zero] at st; exact st
      · rw [cI_t ⟨c2, fun q => o2.mpr q c3⟩] at st; exact st
theorem sm_holes {τ : xSt} {Post : Int → xSt → Prop} (hG : GOk (τ 0 5) (τ 0 6) (τ 4)) {N : Nat} (hN : (N : Int) = τ 0 5 * τ 0 6)
    (hp : ∀ s', eqx [5, 6] τ s' → Lab N (fun g => g < N ∧ τ 4 g = 0) (adj (τ 0 5) 0) (s' 6) → Post (sI (fun g => cI (s' 6 g = (g : Int) ∧ ¬ Opn N (τ 0 5) (τ 0 6) (s' 6) (g : Int))) N) s') : wp_X10_holes τ Post := by
  have hN1 := hG.N
  unfold wp_X10_holes
  intro k hk
  have key := lpU (P := fun x => 0 ≤ x → ∀ s : xSt, eqx [5, 6] τ s → (∀ i : Nat, (i : Int) < x → s 5 i = τ 4 i) → k x s) (N : Int) (fun x hx ih x0 s qs h5 => ?_) 0 (by omega) (by omega) τ (eqx_rf _ _) (fun i hi => absurd hi (by omega))
  · exact key
  · have s0 : s 0 = τ 0 := qs 0 (by decide)
    have s4 : s 4 = τ 4 := qs 4 (by decide)
    refine hk x s (sm_fields ?_)
    rw [s0, ← hN, s4]
    refine ⟨by omega, by omega, fun c => ?_, fun c => ⟨by omega, by omega, hG.2.2.2.2 _, ?_⟩⟩
    · refine sm_hang (by rw [s0, s4]; exact hG) (N := N) (by rw [s0]; exact hN) (by omega) (fun _ g hg => by rw [h5 g (by omega)]; exact hG.2.2.2.2 g) (fun t qt hl => ?_)
      have e : (fun g => g < N ∧ (((0 : Int) = 0 ∧ s 5 g = 0) ∨ ((0 : Int) ≠ 0 ∧ s 4 g ≠ 0))) = (fun g => g < N ∧ τ 4 g = 0) := by
        funext g
        apply propext
        constructor
        · rintro ⟨q1, (q2 | q2)⟩
          · exact ⟨q1, by rw [← h5 g (by omega)]; exact q2.2⟩
          · omega
        · rintro ⟨q1, q2⟩
          exact ⟨q1, Or.inl ⟨rfl, by rw [h5 g (by omega)]; exact q2⟩⟩
      rw [e, s0] at hl
      have t0 : t 0 = τ 0 := (qt 0 (by decide)).trans s0
      have t4 : t 4 = τ 4 := (qt 4 (by decide)).trans s4
      have qt' : eqx [5, 6] τ t := eqx_tr qs (eqx_wk qt (by simp))
      intro k2 hk2
      have key2 := lpU (P := fun z => 0 ≤ z → k2 (sI (fun g => cI (t 6 g = (g : Int) ∧ ¬ Opn N (τ 0 5) (τ 0 6) (t 6) (g : Int))) z.toNat) z) (N : Int) (fun z hz ih2 z0 => ?_) 0 (by omega) (by omega)
      · exact key2
      · refine hk2 _ z (sm_fields ?_)
        rw [t0, ← hN]
        refine ⟨by omega, by omega, fun d => ?_, fun d => ?_⟩
        · have ex : z.toNat = N := by omega
          rw [ex]; exact hp t qt' hl
        · have ex : ((z.toNat : Nat) : Int) = z := by omega
          have st := ih2 (z + 1) (by omega) (by omega) (by omega)
          rw [sI_s _ z0, ex] at st
          have bd := Lab_bd hl (g := z.toNat) (by omega)
          refine ⟨by omega, by omega, by omega, fun c2 => ?_, fun c2 => ?_⟩
          · rw [cI_f (fun q => c2 q.1)] at st; exact st
          · have hm := sm_comesOut (σ := t) (Post := fun r58 => xR r58 ∧ (r58 ≠ 0 → k2 (sI (fun g => cI (t 6 g = (g : Int) ∧ ¬ Opn N (τ 0 5) (τ 0 6) (t 6) (g : Int))) z.toNat + 0) (z + 1)) ∧ (r58 = 0 → k2 (sI (fun g => cI (t 6 g = (g : Int) ∧ ¬ Opn N (τ 0 5) (τ 0 6) (t 6) (g : Int))) z.toNat + 1) (z + 1))) (by rw [t0, t4]; exact hG) (N := N) (by rw [t0]; exact hN) (fun g hg => by have := Lab_bd hl hg; omega) (f := z.toNat) (by omega) (fun q => by
              rw [t0, c2] at q
              rw [cI_f (fun w => w.2 q)] at st
              exact ⟨by omega, fun _ => st, fun w => absurd w (by omega)⟩) (fun q => by
              rw [t0, c2] at q
              rw [cI_t ⟨c2, q⟩] at st
              exact ⟨by omega, fun w => absurd rfl w, fun _ => st⟩)
            rw [ex] at hm; exact hm
    · intro s' e'; subst e'
      refine ih (x + 1) (by omega) (by omega) (by omega) _ (eqx_tr qs (eqx_up s _ (by simp))) (fun i hi => ?_)
      rw [xU_i]
      by_cases ci : i = x.toNat
      · rw [if_pos ci, ci]
      · rw [if_neg ci]; exact h5 i (by omega)
