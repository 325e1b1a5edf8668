theorem sm_isNeeded {σ : xSt} {Post : Int → Prop} (hG : GOk (σ 0 5) (σ 0 6) (σ 4)) {N : Nat} (hN : (N : Int) = σ 0 5 * σ 0 6) (hD : ∀ g : Nat, g < N → 0 ≤ σ 7 g ∧ σ 7 g ≤ 400) {f : Nat} (hf : f < N) (h1 : σ 4 f ≠ 0 → (∀ g, g < N → ¬ (g ≠ f ∧ σ 4 g ≠ 0 ∧ Hd (σ 0 5) (σ 7) g f)) → Post 1) (h0 : (σ 4 f = 0 ∨ ∃ g, g < N ∧ g ≠ f ∧ σ 4 g ≠ 0 ∧ Hd (σ 0 5) (σ 7) g f) → Post 0) : wp_X10_isNeeded (f : Int) σ Post := by
  have hN1 := hG.N
  obtain ⟨w1, w2, w3, w4, h01⟩ := id hG
  have ef : ((f : Int)).toNat = f := by omega
  have xf := fxy (w := σ 0 5) (h := σ 0 6) (f := (f : Int)) w1 (by omega) (by omega)
  unfold wp_X10_isNeeded
  rw [ef]
  refine ⟨by omega, ?_⟩
  intro k hk
  have key := lpU (P := fun x => 0 ≤ x → ∀ b : Int, ((b = 1 ∧ σ 4 f ≠ 0 ∧ ∀ g : Nat, (g : Int) < x → ¬ (g ≠ f ∧ σ 4 g ≠ 0 ∧ Hd (σ 0 5) (σ 7) g f)) ∨ (b = 0 ∧ (σ 4 f = 0 ∨ ∃ g, g < N ∧ g ≠ f ∧ σ 4 g ≠ 0 ∧ Hd (σ 0 5) (σ 7) g f))) → k b x) (N : Int) (fun x hx ih x0 b hb => ?_) 0 (by omega) (by omega) (σ 4 f) (by
    rcases h01 f with q | q
    · exact Or.inr ⟨q, Or.inl q⟩
    · exact Or.inl ⟨q, by omega, fun g hg => absurd hg (by omega)⟩)
  · exact key
  · have b01 : b = 0 ∨ b = 1 := by
      rcases hb with q | q
      · exact Or.inr q.1
      · exact Or.inl q.1
    refine hk b x (sm_fields ?_)
    rw [← hN]
    refine ⟨by omega, by omega, fun c => ⟨b01, ?_⟩, fun c => ⟨by omega, fun c2 => ⟨b01, ?_⟩, fun c2 => ?_⟩⟩
    · rcases hb with ⟨q1, q2, q3⟩ | ⟨q1, q2⟩
      · rw [q1]; exact h1 q2 (fun g hg => q3 g (by omega))
      · rw [q1]; exact h0 q2
    · rcases hb with ⟨q1, q2, q3⟩ | ⟨q1, q2⟩
      · exact absurd q1 (by clear q3; omega)
      · rw [q1]; exact h0 q2
    · have hb' : σ 4 f ≠ 0 ∧ ∀ g : Nat, (g : Int) < x → ¬ (g ≠ f ∧ σ 4 g ≠ 0 ∧ Hd (σ 0 5) (σ 7) g f) := by
        rcases hb with ⟨q1, q2, q3⟩ | ⟨q1, q2⟩
        · exact ⟨q2, q3⟩
        · exact absurd q1 (by clear q2; omega)
      have ex : ((x.toNat : Nat) : Int) = x := by omega
      have xg := fxy (w := σ 0 5) (h := σ 0 6) (f := x) w1 (by omega) (by omega)
      have dx := hD x.toNat (by omega)
      have df := hD f hf
      have bw := wy2_bd w1 w2 w4 (g := x.toNat) (f := f) (by omega) (by omega)
      rw [tmod_e (by omega), tmod_e x0, tdiv_e (by omega), tdiv_e x0]
      refine ⟨by omega, by omega, by omega, by omega, by omega, by omega, ?_⟩
      intro z4 e4
      refine ⟨by omega, by omega, by omega, by omega, by omega, by omega, ?_⟩
      intro z5 e5
      have ew : z4 * z4 + z5 * z5 = wy2 (σ 0 5) x.toNat f := by
        unfold wy2 sq2
        rw [ex]
        have a1 : x % σ 0 5 - (f : Int) % σ 0 5 = -z4 := by omega
        have a2 : x / σ 0 5 - (f : Int) / σ 0 5 = -z5 := by omega
        rw [a1, a2, Int.neg_mul_neg, Int.neg_mul_neg]
      rw [ew]
      refine ⟨by omega, ?_⟩
      intro z6 e6
      rw [e6]
      refine ⟨by omega, by omega, by omega, by omega, ?_⟩
      intro z8 e8
      have b8 : -1000 ≤ z8 ∧ z8 ≤ 1000 := by omega
      have r1 := mb (x := z8) (y := z8) (B := 1000) (C := 1000) (by omega) (by omega) (by omega) (by omega)
      have r2 := mb (x := 4 * wy2 (σ 0 5) x.toNat f) (y := σ 7 f) (B := 1200) (C := 400) (by omega) (by omega) (by omega) (by omega)
      intro kb hkb
      have no : ¬ (x.toNat ≠ f ∧ σ 4 x.toNat ≠ 0 ∧ Hd (σ 0 5) (σ 7) x.toNat f) → kb 0 := by
        intro hn
        refine hkb 0 ⟨by omega, fun w => absurd rfl w, fun _ => ih (x + 1) (by omega) (by omega) (by omega) 1 (Or.inl ⟨rfl, hb'.1, fun g hg => ?_⟩)⟩
        by_cases cg : (g : Int) < x
        · exact hb'.2 g cg
        · have eg : g = x.toNat := by omega
          rw [eg]; exact hn
      refine ⟨by omega, by omega, fun d => no (fun q => q.1 (by omega)), fun d => ⟨by omega, r01 (h01 _), fun d2 => no (fun q => q.2.1 d2), fun d2 => ⟨by omega, fun d3 => no (fun q => ?_), fun d3 => ⟨by omega, by omega, by omega, by omega, fun d4 => no (fun q => ?_), fun d4 => ?_⟩⟩⟩⟩
      · have := q.2.2.1; rw [← e8] at this; omega
      · have := q.2.2.2; rw [← e8] at this; omega
      · exact hkb 1 ⟨by omega, fun _ => ih (x + 1) (by omega) (by omega) (by omega) 0 (Or.inr ⟨rfl, Or.inr ⟨x.toNat, by omega, by omega, d2, by rw [← e8]; exact d3, by rw [← e8]; exact d4⟩⟩), fun w => absurd w (by omega)⟩
