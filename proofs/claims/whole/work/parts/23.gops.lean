/-! calls on the ground that need no search -/
theorem op_has {σ τ : xSt} (hR : RR σ τ) {a : Int} (ha : xR a) : wp_X9_has a σ (fun r => wp_X10_has a τ (fun r' τ' => r = r' ∧ RR σ τ')) := by
  have hR2 := RR_th hR
  have gx := RR_g hR
  obtain ⟨-, -, -, -, -, -, gw, gh, e8, hG, -⟩ := id hR
  have hN := hG.N
  have no : ¬ (0 ≤ a ∧ a < τ 0 5 * τ 0 6) → wp_X10_has a τ (fun r' τ' => -1001 = r' ∧ RR σ τ') := by
    intro hb t e; subst e
    exact sm_noField (σ := xU τ 0 0 0) hG ha (br_z (fun c => absurd hb c) (fun _ => ⟨rfl, hR2⟩))
  have yes : 0 ≤ a ∧ a < τ 0 5 * τ 0 6 → wp_X10_has a τ (fun r' τ' => τ 4 a.toNat = r' ∧ RR σ τ') := by
    intro hb t e; subst e
    refine sm_noField (σ := xU τ 0 0 0) hG ha (br_z (fun c => ⟨by omega, ?_⟩) (fun c => absurd hb c))
    show xR (τ 4 a.toNat) ∧ (τ 4 a.toNat = 0 → τ 4 a.toNat = 0 ∧ RR σ (xU τ 0 0 0)) ∧ (τ 4 a.toNat ≠ 0 → τ 4 a.toNat = 1 ∧ RR σ (xU τ 0 0 0))
    exact ⟨r01 (hG.2.2.2.2 _), fun c => ⟨c, hR2⟩, fun c => ⟨(hG.2.2.2.2 _).resolve_left c, hR2⟩⟩
  unfold wp_X9_has
  refine sx_knows gx ha (br_n (fun c => sx_holds gx ha ?_) (fun c => no (by rw [← gw, ← gh]; exact c)))
  rw [hV_in c.1 c.2, e8]
  have y2 := yes (by rw [← gw, ← gh]; exact c)
  refine ⟨r01 (hG.2.2.2.2 _), fun d => ?_, fun d => ?_⟩
  · rw [d] at y2; exact y2
  · rw [(hG.2.2.2.2 a.toNat).resolve_left d] at y2; exact y2
/-- a field put on both sides -/
theorem RR_put {σ τ : xSt} (h : RR σ τ) (j : Nat) {v : Int} (hv : v = 0 ∨ v = 1) : RR (xU σ 8 j v) (xU τ 4 j v) := by
  obtain ⟨n1, n2, n3, e2, wy, pl, gw, gh, e8, hG, as0⟩ := h
  refine ⟨n1, n2, n3, e2, wy, pl, gw, gh, ?_, ?_, as0⟩
  · funext i; rw [xU_i, xU_i, e8]
  · obtain ⟨h1, h2, h3, h4, h5⟩ := hG
    refine ⟨h1, h2, h3, h4, fun i => ?_⟩
    rw [xU_i]; split
    · exact hv
    · exact h5 i
theorem sx_put {σ : xSt} {PostV : xSt → Prop} (hG : GOk (σ 7 1) (σ 7 2) (σ 8)) {f v : Int} (h0 : 0 ≤ f) (h1 : f < σ 7 1 * σ 7 2) (hv : v = 0 ∨ v = 1) (h : PostV (xU σ 8 f.toNat v)) : wp_X2_put f v σ PostV := by
  have hN := hG.N
  unfold wp_X2_put
  refine sx_knows hG (by omega) (br_z (fun c => absurd ⟨h0, h1⟩ c) (fun c => ⟨by omega, hv, ?_⟩))
  intro s e; subst e; exact h
theorem op_set {σ τ : xSt} (hR : RR σ τ) {a v : Int} (ha : xR a) (hv : v = 0 ∨ v = 1) : wp_X9_set a v σ (fun r σ' => wp_X10_set a v τ (fun r' τ' => r = r' ∧ RR σ' τ')) := by
  have hR2 := RR_th hR
  have gx := RR_g hR
  obtain ⟨-, -, -, -, -, -, gw, gh, e8, hG, -⟩ := id hR
  have hN := hG.N
  unfold wp_X9_set
  refine sx_knows gx ha (br_n (fun c => sx_holds gx ha ?_) (fun c => ?_))
  · rw [hV_in c.1 c.2, e8]
    intro k hk
    have hR3 := RR_put hR2 a.toNat hv
    have c' : 0 ≤ a ∧ a < τ 0 5 * τ 0 6 := by rw [← gw, ← gh]; exact c
    have go : ∀ r : Int, r = τ 4 a.toNat → k r := by
      intro r er
      refine hk r (sx_put gx c.1 c.2 hv ?_)
      intro t e; subst e
      refine sm_noField (σ := xU τ 0 0 0) hG ha (br_z (fun _ => ⟨by omega, ?_⟩) (fun d => absurd c' d))
      intro k2 hk2
      have go2 : ∀ r' : Int, r = r' → k2 r' := by
        intro r' er'
        refine hk2 r' ⟨by omega, hv, ?_⟩
        intro t2 e2; subst e2
        exact ⟨er', hR3⟩
      show xR (τ 4 a.toNat) ∧ (τ 4 a.toNat = 0 → k2 0) ∧ (τ 4 a.toNat ≠ 0 → k2 1)
      exact ⟨r01 (hG.2.2.2.2 _), fun d => go2 0 (er.trans d), fun d => go2 1 (er.trans ((hG.2.2.2.2 _).resolve_left d))⟩
    exact ⟨r01 (hG.2.2.2.2 _), fun d => go 0 d.symm, fun d => go 1 ((hG.2.2.2.2 _).resolve_left d).symm⟩
  · intro t e; subst e
    exact sm_noField (σ := xU τ 0 0 0) hG ha (br_z (fun d => absurd (fun q => c (by rw [gw, gh]; exact q)) d) (fun _ => ⟨rfl, hR2⟩))
theorem op_ground {σ τ : xSt} (hR : RR σ τ) {a b : Int} (ha : xR a) (hb : xR b) : wp_X9_ground a b σ (fun r σ' => wp_X10_ground a b τ (fun r' τ' => r = r' ∧ RR σ' τ')) := by
  have hR2 := RR_th hR
  have bad : ¬ (1 ≤ a ∧ a ≤ 12 ∧ 1 ≤ b ∧ b ≤ 12) → wp_X10_ground a b τ (fun r' τ' => -1002 = r' ∧ RR σ τ') := by
    intro h t e; subst e
    refine ⟨ha, sm_in ha (by omega) (by omega) (br_z (fun _ => ⟨rfl, hR2⟩) (fun c => ⟨hb, sm_in hb (by omega) (by omega) (br_n (fun c2 => ?_) (fun _ => ⟨rfl, hR2⟩))⟩))⟩
    exfalso; omega
  unfold wp_X9_ground
  refine ⟨ha, fun c => bad (by omega), fun c1 => ⟨ha, fun c => bad (by omega), fun c2 => ⟨hb, fun c => bad (by omega), fun c3 => ⟨hb, fun c4 => ?_, fun c => bad (by omega)⟩⟩⟩⟩
  obtain ⟨n1, n2, n3, e2, wy, pl, gw, gh, e8, hG, as0⟩ := id hR
  unfold wp_X2_lay
  intro s1 d1 s2 d2 k hk
  -- the class empties the ground
  have key := lpU (P := fun x => 0 ≤ x → ∀ s : xSt, (∀ q, q ≠ 8 → s q = s2 q) → (∀ i : Nat, s 8 i = if (i : Int) < x then 0 else σ 8 i) → k x s) 144 (fun x hx ih x0 s qs h8 => ?_) 0 (by omega) (by omega) s2 (fun q _ => rfl) (fun i => by rw [d2, d1, if_neg (by omega)]; rfl)
  · exact key
  · refine hk x s ⟨by omega, fun c => ?_, fun c => ⟨by omega, ?_⟩⟩
    · have ex : x = 144 := by omega
      have s71 : s 7 1 = a := by rw [qs 7 (by decide), d2, d1]; rfl
      have s72 : s 7 2 = b := by rw [qs 7 (by decide), d2]; rfl
      refine sx_fields ?_
      rw [s71, s72]
      intro t e; subst e
      refine ⟨ha, sm_in ha (by omega) (by omega) (br_z (fun q => absurd ⟨c1, c2⟩ q) (fun _ => ⟨hb, sm_in hb (by omega) (by omega) (br_n (fun _ => ?_) (fun q => absurd ⟨c3, c4⟩ q))⟩))⟩
      intro t1 f1 t2 f2 k2 hk2
      have key2 := lpU (P := fun z => 0 ≤ z → ∀ u : xSt, (∀ q, q ≠ 4 → u q = t2 q) → (∀ i : Nat, u 4 i = if (i : Int) < z then 0 else τ 4 i) → k2 z u) 144 (fun z hz ih2 z0 u qu h4 => ?_) 0 (by omega) (by omega) t2 (fun q _ => rfl) (fun i => by rw [f2, f1, if_neg (by omega)]; rfl)
      · exact key2
      · refine hk2 z u ⟨by omega, fun d => ⟨rfl, ?_⟩, fun d => ⟨by omega, ?_⟩⟩
        · have ez : z = 144 := by omega
          have u05 : u 0 5 = a := by rw [qu 0 (by decide), f2, f1]; rfl
          have u06 : u 0 6 = b := by rw [qu 0 (by decide), f2]; rfl
          have u01 : u 0 1 = τ 0 1 := by rw [qu 0 (by decide), f2, f1]; rfl
          have u1 : u 1 = τ 1 := by rw [qu 1 (by decide), f2, f1]; rfl
          have w13 : s 1 3 = σ 1 3 := by rw [qs 1 (by decide), d2, d1]; rfl
          have w2 : s 2 = σ 2 := by rw [qs 2 (by decide), d2, d1]; rfl
          have w3 : s 3 = σ 3 := by rw [qs 3 (by decide), d2, d1]; rfl
          have w4 : s 4 = σ 4 := by rw [qs 4 (by decide), d2, d1]; rfl
          have w6 : s 6 = σ 6 := by rw [qs 6 (by decide), d2, d1]; rfl
          refine ⟨?_, ?_, ?_, ?_, ?_, ?_, ?_, ?_, ?_, ?_, ?_⟩
          · rw [w13, u01]; exact n1
          · rw [u01]; exact n2
          · rw [u01]; exact n3
          · rw [w2, u1]; exact e2
          · rw [u1]; exact wy
          · rw [u01, u1, w3, w4]; exact pl
          · rw [s71, u05]
          · rw [s72, u06]
          · funext i; rw [h8, h4, ex, ez, e8]
          · rw [u05, u06]
            refine ⟨c1, c2, c3, c4, fun i => ?_⟩
            rw [h4]; split
            · exact Or.inl rfl
            · exact hG.2.2.2.2 i
          · rw [w6]; exact as0
        · intro u' e'; subst e'
          refine ih2 (z + 1) (by omega) (by omega) (by omega) _ (fun q hq => (xU_k u _ _ hq).trans (qu q hq)) (fun i => ?_)
          rw [xU_i]
          by_cases ci : i = z.toNat
          · rw [if_pos ci, if_pos (by omega)]
          · rw [if_neg ci, h4]
            by_cases cz : (i : Int) < z
            · rw [if_pos cz, if_pos (by omega)]
            · rw [if_neg cz, if_neg (by omega)]
    · intro s' e'; subst e'
      refine ih (x + 1) (by omega) (by omega) (by omega) _ (fun q hq => (xU_k s _ _ hq).trans (qs q hq)) (fun i => ?_)
      rw [xU_i]
      by_cases ci : i = x.toNat
      · rw [if_pos ci, if_pos (by omega)]
      · rw [if_neg ci, h8]
        by_cases cz : (i : Int) < x
        · rw [if_pos cz, if_pos (by omega)]
        · rw [if_neg cz, if_neg (by omega)]
theorem sx_even {σ : xSt} {Post : Int → Prop} (hw : ∀ i : Nat, 0 ≤ σ 2 i ∧ σ 2 i < 8) (h1 : 0 ≤ σ 1 3) (h2 : σ 1 3 ≤ 60) (h : Post (sI (fun i => bI (σ 2 i % 2 = 0)) (σ 1 3).toNat)) : wp_X6_evenSteps σ Post := by
  unfold wp_X6_evenSteps
  intro k hk
  have key := lpU (P := fun i => 0 ≤ i → k (sI (fun i => bI (σ 2 i % 2 = 0)) i.toNat) i) (σ 1 3) (fun i hi ih i0 => ?_) 0 h1 (by omega)
  · exact key
  · have hwi := hw i.toNat
    have st := fun q => ih (i + 1) (by omega) q (by omega)
    rw [sI_s _ i0] at st
    refine hk _ i ⟨by omega, by omega, fun c => ?_, fun c => ⟨by omega, by omega, by omega, by omega, ?_⟩⟩
    · have e : i = σ 1 3 := by omega
      rw [e]; exact h
    · rw [tmod_e hwi.1]
      have st2 := st (by omega)
      refine ⟨by omega, fun c2 => ?_, fun c2 => ?_⟩
      · rw [bI_f c2, Int.add_zero] at st2; exact st2
      · rw [bI_t c2] at st2; exact st2
theorem op_count {σ τ : xSt} (hR : RR σ τ) {a : Int} (ha : xR a) : wp_X9_count a σ (fun r => wp_X10_count a τ (fun r' τ' => r = r' ∧ RR σ τ')) := by
  have hR2 := RR_th hR
  have gx := RR_g hR
  obtain ⟨n1, n2, n3, e2, wy, pl, gw, gh, e8, hG, as0⟩ := id hR
  have hN := hG.N
  have ref : ∀ r : Int, (a = 0 → r = τ 0 1) → (a = 1 → r = τ 0 5) → (a = 2 → r = τ 0 6) → (a = 3 → r = sI (fun i => bI (τ 1 i % 2 = 0)) (τ 0 1).toNat) → (a = 4 → r = sI (fun f => bI (τ 4 f ≠ 0 ∧ eD (τ 0 5) (τ 0 6) f)) (τ 0 5 * τ 0 6).toNat) → (a < 0 ∨ 4 < a → r = -1002) → wp_X10_count a τ (fun r' τ' => r = r' ∧ RR σ τ') := by
    intro r g0 g1 g2 g3 g4 gd t e; subst e
    intro k hk
    have key := lpU (P := fun i => 0 ≤ i → k (sI (fun i => bI (τ 1 i % 2 = 0)) i.toNat) i) (τ 0 1) (fun i hi ih i0 => ?_) 0 n2 (by omega)
    · exact key
    · have hwi := wy i.toNat
      have st := fun q => ih (i + 1) (by omega) q (by omega)
      rw [sI_s _ i0] at st
      refine hk _ i ⟨by omega, show xR (τ 0 1) by omega, fun c => ?_, fun c => ⟨by have : i < τ 0 1 := c; omega, show xR (τ 1 i.toNat) by omega, by omega, by omega, ?_⟩⟩
      · have ei : i = τ 0 1 := by have : τ 0 1 ≤ i := c; omega
        subst ei
        intro k2 hk2
        have key2 := lpU (P := fun z => 0 ≤ z → k2 (sI (fun f => bI (τ 4 f ≠ 0 ∧ eD (τ 0 5) (τ 0 6) f)) z.toNat) z) (τ 0 5 * τ 0 6) (fun z hz ih2 z0 => ?_) 0 (by omega) (by omega)
        · exact key2
        · have st2 := fun q => ih2 (z + 1) (by omega) q (by omega)
          rw [sI_s _ z0] at st2
          have ez : ((z.toNat : Nat) : Int) = z := by omega
          rw [ez] at st2
          refine hk2 _ z (sm_fields ⟨by omega, show xR (τ 0 5 * τ 0 6) by omega, fun d => ?_, fun d => ⟨by have : z < τ 0 5 * τ 0 6 := d; omega, ?_⟩⟩)
          · have ez2 : z = τ 0 5 * τ 0 6 := by have : τ 0 5 * τ 0 6 ≤ z := d; omega
            subst ez2
            exact ⟨ha, fun _ => ⟨ha, fun _ => ⟨ha, fun _ => ⟨ha, fun _ => ⟨ha, fun q => ⟨gd (by omega), hR2⟩, fun q => ⟨g4 q, hR2⟩⟩, fun q => ⟨g3 q, hR2⟩⟩, fun q => ⟨g2 q, hR2⟩⟩, fun q => ⟨g1 q, hR2⟩⟩, fun q => ⟨g0 q, hR2⟩⟩
          · have d' : z < τ 0 5 * τ 0 6 := d
            have st3 := st2 (by omega)
            show xR (τ 4 z.toNat) ∧ _ ∧ _
            refine ⟨r01 (hG.2.2.2.2 _), fun c2 => ?_, fun c2 => sm_onEdge (σ := xU τ 0 0 0) hG z0 d' (br_z (fun c3 => ?_) (fun c3 => ?_))⟩
            · rw [bI_f (fun q => q.1 c2)] at st3; exact st3
            · rw [bI_f (fun q => c3 q.2)] at st3; exact st3
            · rw [bI_t ⟨c2, c3⟩] at st3; exact st3
      · have c' : i < τ 0 1 := c
        have st2 := st (by omega)
        show xR (Int.tmod (τ 1 i.toNat) 2) ∧ (Int.tmod (τ 1 i.toNat) 2 ≠ 0 → _) ∧ (Int.tmod (τ 1 i.toNat) 2 = 0 → _)
        rw [tmod_e hwi.1]
        refine ⟨by omega, fun c2 => ?_, fun c2 => ?_⟩
        · rw [bI_f c2] at st2; exact st2
        · rw [bI_t c2] at st2; exact st2
  unfold wp_X9_count
  refine ⟨ha, fun c => sx_steps (ref _ (fun _ => n1) (by omega) (by omega) (by omega) (by omega) (by omega)), fun c => ?_, fun c => ?_, fun c => ?_, fun c => ?_, fun c => ref _ (by omega) (by omega) (by omega) (by omega) (by omega) (fun _ => rfl)⟩
  · show wp_X10_count a τ (fun r' τ' => σ 7 1 = r' ∧ RR σ τ')
    exact ref _ (by omega) (fun _ => gw) (by omega) (by omega) (by omega) (by omega)
  · show wp_X10_count a τ (fun r' τ' => σ 7 2 = r' ∧ RR σ τ')
    exact ref _ (by omega) (by omega) (fun _ => gh) (by omega) (by omega) (by omega)
  · refine sx_even (fun i => by rw [e2]; exact wy i) (by omega) (by omega) ?_
    rw [e2, n1]
    exact ref _ (by omega) (by omega) (by omega) (fun _ => rfl) (by omega) (by omega)
  · refine sx_heapOnEdge gx ?_
    rw [e8, gw, gh]
    exact ref _ (by omega) (by omega) (by omega) (by omega) (fun _ => rfl) (by omega)
