/-! parts told -/
theorem RR_N {σ τ : xSt} (h : RR σ τ) : ∃ N : Nat, (N : Int) = τ 0 5 * τ 0 6 ∧ (N : Int) = σ 7 1 * σ 7 2 ∧ 1 ≤ N ∧ N ≤ 144 := by
  obtain ⟨-, -, -, -, -, -, gw, gh, e8, hG, -⟩ := h
  have := hG.N
  exact ⟨(τ 0 5 * τ 0 6).toNat, by omega, by rw [gw, gh]; omega, by omega, by omega⟩
theorem op_part {σ τ : xSt} (hR : RR σ τ) {a : Int} (ha : xR a) : wp_X9_part a σ (fun r σ' => wp_X10_part a τ (fun r' τ' => r = r' ∧ RR σ' τ')) := by
  have hR2 := RR_th hR
  have gx := RR_g hR
  obtain ⟨N, n1, n2, n3, n4⟩ := RR_N hR
  obtain ⟨-, -, -, -, -, -, gw, gh, e8, hG, -⟩ := id hR
  -- the reference tells r, whatever it is, if r is its label
  have ref : ∀ (σ' : xSt) (r : Int), RR σ' (xU τ 0 0 0) → 0 ≤ a ∧ a < τ 0 5 * τ 0 6 → (∀ M : Nat → Int, Lab N (fun g => g < N ∧ (((1 : Int) = 0 ∧ τ 5 g = 0) ∨ ((1 : Int) ≠ 0 ∧ τ 4 g ≠ 0))) (adj (τ 0 5) 1) M → r = M a.toNat) → wp_X10_part a τ (fun r' τ' => r = r' ∧ RR σ' τ') := by
    intro σ' r hR3 hb hM t e; subst e
    refine sm_noField (σ := xU τ 0 0 0) hG ha (br_z (fun _ => ?_) (fun c => absurd hb c))
    refine sm_hang (τ := xU τ 0 0 0) hG n1 (by omega) (fun q => absurd q (by omega)) (fun s' q' hl => ⟨by omega, hM (s' 6) hl, RR_m hR3 (eqx_wk q' (by simp))⟩)
  unfold wp_X9_part
  refine sx_knows gx ha (br_n (fun c => sx_holds gx ha ?_) (fun c => ?_))
  · rw [hV_in c.1 c.2]
    have c' : 0 ≤ a ∧ a < τ 0 5 * τ 0 6 := by rw [← gw, ← gh]; exact c
    refine ⟨r01 (gx.2.2.2.2 _), fun d => ?_, fun d => ?_⟩
    · show wp_X4_split 8 1 1 σ _
      refine sx_split (by decide) (by decide) gx n2 (fun g _ => gx.2.2.2.2 g) (by omega) (by omega) (fun s' q' hl => ?_)
      refine ⟨ha, fun w => absurd w (by omega), fun _ => ⟨ha, fun w => absurd w (by omega), fun _ => ⟨by omega, ?_⟩⟩⟩
      refine ref s' _ (RR_x hR2 (eqx_wk q' (by simp))) c' (fun M hM => ?_)
      have e : (fun g => g < N ∧ (((1 : Int) = 0 ∧ τ 5 g = 0) ∨ ((1 : Int) ≠ 0 ∧ τ 4 g ≠ 0))) = (fun g => g < N ∧ σ 8 g = 1) := by
        funext g
        rw [e8]
        have := hG.2.2.2.2 g
        apply propext
        constructor
        · rintro ⟨q1, (q2 | q2)⟩
          · omega
          · exact ⟨q1, this.resolve_left q2.2⟩
        · rintro ⟨q1, q2⟩
          exact ⟨q1, Or.inr ⟨by omega, by omega⟩⟩
      rw [e, ← gw] at hM
      exact Lab_u hl hM (by omega)
    · refine ref σ _ hR2 c' (fun M hM => ?_)
      rw [hM.1 a.toNat (by omega) (by
        rintro ⟨q1, (q2 | q2)⟩
        · omega
        · exact q2.2 (by rw [← e8]; exact d))]
  · intro t e; subst e
    exact sm_noField (σ := xU τ 0 0 0) hG ha (br_z (fun d => absurd (fun q => c (by rw [gw, gh]; exact q)) d) (fun _ => ⟨rfl, hR2⟩))
theorem sm_comesOut {σ : xSt} {Post : Int → Prop} (hG : GOk (σ 0 5) (σ 0 6) (σ 4)) {N : Nat} (hN : (N : Int) = σ 0 5 * σ 0 6) (hM : ∀ g, g < N → xR (σ 6 g)) {f : Nat} (hf : f < N) (h1 : Opn N (σ 0 5) (σ 0 6) (σ 6) (σ 6 f) → Post 1) (h0 : ¬ Opn N (σ 0 5) (σ 0 6) (σ 6) (σ 6 f) → Post 0) : wp_X10_comesOut (f : Int) σ Post := by
  have hN1 := hG.N
  unfold wp_X10_comesOut
  intro k hk
  have key := lpU (P := fun x => 0 ≤ x → ∀ b : Int, ((b = 0 ∧ ∀ g : Nat, (g : Int) < x → ¬ (σ 6 g = σ 6 f ∧ eD (σ 0 5) (σ 0 6) (g : Int))) ∨ (b = 1 ∧ Opn N (σ 0 5) (σ 0 6) (σ 6) (σ 6 f))) → k b x) (N : Int) (fun x hx ih x0 b hb => ?_) 0 (by omega) (by omega) 0 (Or.inl ⟨rfl, fun g hg => absurd hg (by omega)⟩)
  · exact key
  · have ef : ((f : Int)).toNat = f := by omega
    refine hk b x (sm_fields ?_)
    rw [← hN]
    refine ⟨by omega, by omega, fun c => ⟨by rcases hb with q | q <;> omega, ?_⟩, fun c => ⟨by rcases hb with q | q <;> omega, fun c2 => ?_, fun c2 => ⟨by omega, by omega, ?_⟩⟩⟩
    · rcases hb with ⟨q1, q2⟩ | ⟨q1, q2⟩
      · rw [q1]; exact h0 (fun ⟨g, g1, g2, g3⟩ => q2 g (by omega) ⟨g2, g3⟩)
      · rw [q1]; exact h1 q2
    · rcases hb with ⟨q1, q2⟩ | ⟨q1, q2⟩
      · exact absurd q1 c2
      · exact ih (x + 1) (by omega) (by omega) (by omega) 1 (Or.inr ⟨rfl, q2⟩)
    · have hb' : ∀ g : Nat, (g : Int) < x → ¬ (σ 6 g = σ 6 f ∧ eD (σ 0 5) (σ 0 6) (g : Int)) := by
        rcases hb with ⟨q1, q2⟩ | ⟨q1, q2⟩
        · exact q2
        · omega
      have ex : ((x.toNat : Nat) : Int) = x := by omega
      rw [ef]
      have nx : ¬ (σ 6 x.toNat = σ 6 f ∧ eD (σ 0 5) (σ 0 6) x) → k 0 (x + 1) := by
        intro hn
        refine ih (x + 1) (by omega) (by omega) (by omega) 0 (Or.inl ⟨rfl, fun g hg => ?_⟩)
        by_cases cg : (g : Int) < x
        · exact hb' g cg
        · have eg : (g : Int) = x := by omega
          have eg2 : g = x.toNat := by omega
          rw [eg, eg2]; exact hn
      refine ⟨hM _ (by omega), hM _ hf, fun c3 => nx (fun q => c3 q.1), fun c3 => sm_onEdge hG x0 (by omega) (br_z (fun c4 => nx (fun q => c4 q.2)) (fun c4 => ?_))⟩
      exact ih (x + 1) (by omega) (by omega) (by omega) 1 (Or.inr ⟨rfl, x.toNat, by omega, c3, by rw [ex]; exact c4⟩)
