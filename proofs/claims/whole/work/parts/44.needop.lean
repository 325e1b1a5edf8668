/-! truth values of anything -/
noncomputable def cI (c : Prop) : Int := @bI c (Classical.propDecidable c)
theorem cI_t {c : Prop} (h : c) : cI c = 1 := @bI_t c (Classical.propDecidable c) h
theorem cI_f {c : Prop} (h : ¬ c) : cI c = 0 := @bI_f c (Classical.propDecidable c) h
theorem cI_01 (c : Prop) : cI c = 0 ∨ cI c = 1 := @bI_01 c (Classical.propDecidable c)
theorem cI_c {c d : Prop} (h : c ↔ d) : cI c = cI d := by
  have : c = d := propext h
  rw [this]
theorem cI_z {c : Prop} : cI c = 0 ↔ ¬ c := @bI_z c (Classical.propDecidable c)
theorem cI_nz {c : Prop} : cI c ≠ 0 ↔ c := @bI_nz c (Classical.propDecidable c)
/-- a truth value that both tell -/
theorem cI_p {c : Prop} {Post : Int → Prop} (h : Post (cI c)) : (c → Post 1) ∧ (¬ c → Post 0) := ⟨fun q => by rw [cI_t q] at h; exact h, fun q => by rw [cI_f q] at h; exact h⟩
def Nd (w : Int) (p D : Nat → Int) (N f : Nat) : Prop := p f ≠ 0 ∧ ∀ g, g < N → ¬ (D f < D g ∧ Hd w D g f)
theorem wy2_1 {w : Int} {g f : Nat} (hne : g ≠ f) : 1 ≤ wy2 w g f := by
  have ef := Int.mul_ediv_add_emod (f : Int) w
  have eg := Int.mul_ediv_add_emod (g : Int) w
  have r1 := sq_nn ((g : Int) % w - (f : Int) % w)
  have r2 := sq_nn ((g : Int) / w - (f : Int) / w)
  unfold wy2 sq2
  by_cases c1 : (g : Int) % w - (f : Int) % w = 0
  · by_cases c2 : (g : Int) / w - (f : Int) / w = 0
    · exfalso
      have e1 : (g : Int) % w = (f : Int) % w := by omega
      have e2 : (g : Int) / w = (f : Int) / w := by omega
      rw [e1, e2] at eg
      omega
    · have := sq_ge (a := (g : Int) / w - (f : Int) / w) (r := 1) (by omega) (by omega)
      omega
  · have := sq_ge (a := (g : Int) % w - (f : Int) % w) (r := 1) (by omega) (by omega)
    omega
theorem Nd_m {w h : Int} {p D : Nat → Int} {N f : Nat} (hD : ∀ g : Nat, g < N → 0 ≤ D g ∧ D g ≤ 400 ∧ Dv w h p g (D g)) (hf : f < N) : Nd w p D N f ↔ (p f ≠ 0 ∧ ∀ g, g < N → ¬ (g ≠ f ∧ p g ≠ 0 ∧ Hd w D g f)) := by
  unfold Nd
  refine and_congr Iff.rfl ⟨fun h g hg q => h g hg ⟨?_, q.2.2⟩, fun h g hg q => h g hg ⟨?_, ?_, q.2⟩⟩
  · have := wy2_1 (w := w) q.1
    have := q.2.2.1
    omega
  · intro e; rw [e] at q; have := q.1; omega
  · intro e
    have := (hD g hg).2.2.1 e
    have := (hD f hf).1
    have := q.1
    omega
theorem Hd_c {w : Int} {D D' : Nat → Int} {g f : Nat} (h1 : D g = D' g) (h2 : D f = D' f) : Hd w D g f ↔ Hd w D' g f := by unfold Hd; rw [h1, h2]
theorem Nd_c {w : Int} {p D D' : Nat → Int} {N f : Nat} (h : ∀ g, g < N → D g = D' g) (hf : f < N) : Nd w p D N f ↔ Nd w p D' N f := by
  unfold Nd
  refine and_congr Iff.rfl ⟨fun q g hg => ?_, fun q g hg => ?_⟩
  · rw [← h g hg, ← h f hf, ← Hd_c (h g hg) (h f hf)]; exact q g hg
  · rw [h g hg, h f hf, Hd_c (h g hg) (h f hf)]; exact q g hg
theorem sx_needI {σ : xSt} {Post : Int → Prop} (hG : GOk (σ 7 1) (σ 7 2) (σ 8)) {N : Nat} (hN : (N : Int) = σ 7 1 * σ 7 2) (hD : ∀ g : Nat, g < N → 0 ≤ σ 19 g ∧ σ 19 g ≤ 400) {f : Nat} (hf : f < N) (h : Post (cI (Nd (σ 7 1) (σ 8) (σ 19) N f))) : wp_X0_isNeeded (f : Int) σ Post := by
  obtain ⟨p1, p0⟩ := cI_p h
  refine sx_isNeeded hG hN hD hf (fun q1 q2 => p1 ⟨q1, q2⟩) (fun q => p0 (fun w => ?_))
  rcases q with q | ⟨g, g1, g2⟩
  · exact w.1 q
  · exact w.2 g g1 g2
theorem sm_needI {σ : xSt} {Post : Int → Prop} (hG : GOk (σ 0 5) (σ 0 6) (σ 4)) {N : Nat} (hN : (N : Int) = σ 0 5 * σ 0 6) (hD : ∀ g : Nat, g < N → 0 ≤ σ 7 g ∧ σ 7 g ≤ 400 ∧ Dv (σ 0 5) (σ 0 6) (σ 4) g (σ 7 g)) {f : Nat} (hf : f < N) (h : Post (cI (Nd (σ 0 5) (σ 4) (σ 7) N f))) : wp_X10_isNeeded (f : Int) σ Post := by
  rw [cI_c (Nd_m hD hf)] at h
  obtain ⟨p1, p0⟩ := cI_p h
  refine sm_isNeeded hG hN (fun g hg => ⟨(hD g hg).1, (hD g hg).2.1⟩) hf (fun q1 q2 => p1 ⟨q1, q2⟩) (fun q => p0 (fun w => ?_))
  rcases q with q | ⟨g, g1, g2⟩
  · exact w.1 q
  · exact w.2 g g1 g2
theorem b01c {v : Int} (h : v = 0 ∨ v = 1) {P0 P1 : Prop} (h0 : v = 0 → P0) (h1 : v = 1 → P1) : xR v ∧ (v = 0 → P0) ∧ (v ≠ 0 → P1) := ⟨r01 h, h0, fun e => h1 (h.resolve_left e)⟩
theorem op_needed {σ τ : xSt} (hR : RR σ τ) {a : Int} (ha : xR a) : wp_X9_needed a σ (fun r σ' => wp_X10_needed a τ (fun r' τ' => r = r' ∧ RR σ' τ')) := by
  have hR2 := RR_th hR
  have gx := RR_g hR
  obtain ⟨N, n1, n2, n3, n4⟩ := RR_N hR
  obtain ⟨-, -, -, -, -, -, gw, gh, e8, hG, -⟩ := id hR
  unfold wp_X9_needed
  refine sx_knows gx ha (br_n (fun c => ?_) (fun c => ?_))
  · refine sx_measureD gx n2 (fun s' q' hD => ?_)
    have ea : ((a.toNat : Nat) : Int) = a := by omega
    have s7 : s' 7 = σ 7 := q' 7 (by decide)
    have s8 : s' 8 = σ 8 := q' 8 (by decide)
    have c' : 0 ≤ a ∧ a < τ 0 5 * τ 0 6 := by rw [← gw, ← gh]; exact c
    have R3 := RR_x hR2 (eqx_wk q' (by simp))
    have ref : ∀ r : Int, r = cI (Nd (τ 0 5) (τ 4) (s' 19) N a.toNat) → wp_X10_needed a τ (fun r' τ' => r = r' ∧ RR s' τ') := by
      intro r er t e; subst e
      refine sm_noField (σ := xU τ 0 0 0) hG ha (br_z (fun _ => ?_) (fun w => absurd c' w))
      refine sm_measureD (τ := xU τ 0 0 0) hG n1 (fun u qu hD2 => ?_)
      have u0 : u 0 5 = τ 0 5 := by rw [qu 0 (by decide)]; rfl
      have u06 : u 0 6 = τ 0 6 := by rw [qu 0 (by decide)]; rfl
      have u4 : u 4 = τ 4 := qu 4 (by decide)
      have R4 := RR_m R3 (eqx_wk qu (by simp))
      have eqD : ∀ g, g < N → s' 19 g = u 7 g := fun g hg => by
        have := (hD g hg).2.2
        rw [gw, gh, e8] at this
        exact Dv_u this (hD2 g hg).2.2
      have hm := sm_needI (σ := u) (Post := fun r23 => xR r23 ∧ (r23 = 0 → r = 0 ∧ RR s' u) ∧ (r23 ≠ 0 → r = 1 ∧ RR s' u)) (by rw [u0, u06, u4]; exact hG) (N := N) (by rw [u0, u06]; exact n1) (by rw [u0, u06, u4]; exact hD2) (f := a.toNat) (by omega) (by
        rw [u0, u4, ← cI_c (Nd_c eqD (by omega)), ← er]
        exact b01c (by rw [er]; exact cI_01 _) (fun q => ⟨q, R4⟩) (fun q => ⟨q, R4⟩))
      rw [ea] at hm; exact hm
    have hm := sx_needI (σ := s') (Post := fun r35 => xR r35 ∧ (r35 = 0 → wp_X10_needed a τ (fun r' τ' => 0 = r' ∧ RR s' τ')) ∧ (r35 ≠ 0 → wp_X10_needed a τ (fun r' τ' => 1 = r' ∧ RR s' τ'))) (by rw [s7, s8]; exact gx) (N := N) (by rw [s7]; exact n2) (fun g hg => ⟨(hD g hg).1, (hD g hg).2.1⟩) (f := a.toNat) (by omega) (by
      rw [s7, s8, gw, e8]
      exact b01c (cI_01 _) (fun q => ref 0 q.symm) (fun q => ref 1 q.symm))
    rw [ea] at hm; exact hm
  · intro t e; subst e
    exact sm_noField (σ := xU τ 0 0 0) hG ha (br_z (fun d => absurd (fun q => c (by rw [gw, gh]; exact q)) d) (fun _ => ⟨rfl, hR2⟩))
theorem op_balls {σ τ : xSt} (hR : RR σ τ) : wp_X9_balls σ (fun r σ' => wp_X10_balls τ (fun r' τ' => r = r' ∧ RR σ' τ')) := by
  have hR2 := RR_th hR
  have gx := RR_g hR
  obtain ⟨N, n1, n2, n3, n4⟩ := RR_N hR
  obtain ⟨-, -, -, -, -, -, gw, gh, e8, hG, -⟩ := id hR
  unfold wp_X9_balls
  refine sx_measureD gx n2 (fun s' q' hD => ?_)
  have s7 : s' 7 = σ 7 := q' 7 (by decide)
  have s8 : s' 8 = σ 8 := q' 8 (by decide)
  have R3 := RR_x hR2 (eqx_wk q' (by simp))
  have ref : wp_X10_balls τ (fun r' τ' => sI (fun f => cI (Nd (τ 0 5) (τ 4) (s' 19) N f)) N = r' ∧ RR s' τ') := by
    intro t e; subst e
    refine sm_measureD (τ := xU τ 0 0 0) hG n1 (fun u qu hD2 => ?_)
    have u0 : u 0 5 = τ 0 5 := by rw [qu 0 (by decide)]; rfl
    have u06 : u 0 6 = τ 0 6 := by rw [qu 0 (by decide)]; rfl
    have u4 : u 4 = τ 4 := qu 4 (by decide)
    have R4 := RR_m R3 (eqx_wk qu (by simp))
    have eqD : ∀ g, g < N → s' 19 g = u 7 g := fun g hg => by
      have := (hD g hg).2.2
      rw [gw, gh, e8] at this
      exact Dv_u this (hD2 g hg).2.2
    intro k hk
    have key := lpU (P := fun x => 0 ≤ x → k (sI (fun f => cI (Nd (τ 0 5) (τ 4) (s' 19) N f)) x.toNat) x) (N : Int) (fun x hx ih x0 => ?_) 0 (by omega) (by omega)
    · exact key
    · refine hk _ x (sm_fields ?_)
      rw [u0, u06, ← n1]
      refine ⟨by omega, by omega, fun c => ⟨?_, R4⟩, fun c => ?_⟩
      · have ex : x.toNat = N := by omega
        rw [ex]
      · have ex : ((x.toNat : Nat) : Int) = x := by omega
        have st := ih (x + 1) (by omega) (by omega) (by omega)
        rw [sI_s _ x0] at st
        have hm := sm_needI (σ := u) (Post := fun r24 => xR r24 ∧ (r24 = 0 → k (sI (fun f => cI (Nd (τ 0 5) (τ 4) (s' 19) N f)) x.toNat + 0) (x + 1)) ∧ (r24 ≠ 0 → k (sI (fun f => cI (Nd (τ 0 5) (τ 4) (s' 19) N f)) x.toNat + 1) (x + 1))) (by rw [u0, u06, u4]; exact hG) (N := N) (by rw [u0, u06]; exact n1) (by rw [u0, u06, u4]; exact hD2) (f := x.toNat) (by omega) (by
          rw [u0, u4, ← cI_c (Nd_c eqD (by omega))]
          exact b01c (cI_01 _) (fun q => by rw [q] at st; exact st) (fun q => by rw [q] at st; exact st))
        rw [ex] at hm; exact hm
  intro k hk
  have key := lpU (P := fun x => 0 ≤ x → k (sI (fun f => cI (Nd (τ 0 5) (τ 4) (s' 19) N f)) x.toNat) x) (N : Int) (fun x hx ih x0 => ?_) 0 (by omega) (by omega)
  · exact key
  · refine hk _ x (sx_fields ?_)
    rw [s7, ← n2]
    refine ⟨by omega, by omega, fun c => ?_, fun c => ?_⟩
    · have ex : x.toNat = N := by omega
      rw [ex]; exact ref
    · have ex : ((x.toNat : Nat) : Int) = x := by omega
      have st := ih (x + 1) (by omega) (by omega) (by omega)
      rw [sI_s _ x0] at st
      have hm := sx_needI (σ := s') (Post := fun r35 => xR r35 ∧ (r35 = 0 → k (sI (fun f => cI (Nd (τ 0 5) (τ 4) (s' 19) N f)) x.toNat) (x + 1)) ∧ (r35 ≠ 0 → k (sI (fun f => cI (Nd (τ 0 5) (τ 4) (s' 19) N f)) x.toNat + 1) (x + 1))) (by rw [s7, s8]; exact gx) (N := N) (by rw [s7]; exact n2) (fun g hg => ⟨(hD g hg).1, (hD g hg).2.1⟩) (f := x.toNat) (by omega) (by
        rw [s7, s8, gw, e8]
        exact b01c (cI_01 _) (fun q => by rw [q, Int.add_zero] at st; exact st) (fun q => by rw [q] at st; exact st))
      rw [ex] at hm; exact hm
