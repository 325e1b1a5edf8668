/-! a row poured into the heap: the reference -/
theorem sm_fill {τ : xSt} {Post : Int → xSt → Prop} (hG : GOk (τ 0 5) (τ 0 6) (τ 4)) {N : Nat} (hN : (N : Int) = τ 0 5 * τ 0 6) (wy : ∀ i : Nat, 0 ≤ τ 1 i ∧ τ 1 i < 8) (n1 : 0 ≤ τ 0 1) (n2 : τ 0 1 ≤ 60) {a b : Int} (a0 : 0 ≤ a) (a1 : a < N) (hb : xR b) {X Y : Nat → Int} (hX : ∀ i, X i = a % τ 0 5 + pX (τ 1) i) (hY : ∀ i, Y i = a / τ 0 5 + pY (τ 1) i)
    (h2 : ¬ (∀ i : Nat, (i : Int) ≤ τ 0 1 → Inn (τ 0 5) (τ 0 6) X Y i) → ∀ t, eqx [5] (xU τ 0 0 0) t → Post (-1002) t)
    (h3 : (∀ i : Nat, (i : Int) ≤ τ 0 1 → Inn (τ 0 5) (τ 0 6) X Y i) → b ≠ 0 → ¬ (pX (τ 1) (τ 0 1).toNat = 0 ∧ pY (τ 1) (τ 0 1).toNat = 0) → ∀ t, eqx [5] (xU τ 0 0 0) t → Post (-1003) t)
    (h1 : (∀ i : Nat, (i : Int) ≤ τ 0 1 → Inn (τ 0 5) (τ 0 6) X Y i) → (b = 0 ∨ (pX (τ 1) (τ 0 1).toNat = 0 ∧ pY (τ 1) (τ 0 1).toNat = 0)) → ∀ t L, eqx [4, 5, 6] (xU τ 0 0 0) t → Lab N (fun g => g < N ∧ ¬ Wl (τ 0 5) X Y (τ 0 1 + 1) g) (adj (τ 0 5) 0) L → (∀ g : Nat, t 4 g = if g < N then cI (τ 4 g ≠ 0 ∨ Wl (τ 0 5) X Y (τ 0 1 + 1) g ∨ (b ≠ 0 ∧ ¬ Opn N (τ 0 5) (τ 0 6) L (L g))) else τ 4 g) → Post (sI (t 4) N) t) : wp_X10_fill a b τ Post := by
  have hN1 := hG.N
  obtain ⟨g1, g2, g3, g4, -⟩ := id hG
  have hF := fxy (w := τ 0 5) (h := τ 0 6) hG.1 a0 (by omega)
  intro t e
  rw [← e] at h1 h2 h3
  have t1 : t 1 = τ 1 := by rw [e]; rfl
  have t4 : t 4 = τ 4 := by rw [e]; rfl
  have t01 : t 0 1 = τ 0 1 := by rw [e]; rfl
  have t05 : t 0 5 = τ 0 5 := by rw [e]; rfl
  have t06 : t 0 6 = τ 0 6 := by rw [e]; rfl
  refine sm_noField (by rw [t05, t06, t4]; exact hG) (by omega) (br_z (fun _ => ?_) (fun c => absurd ⟨a0, by rw [t05, t06]; omega⟩ c))
  intro k hk
  have key := lpU (P := fun x => 0 ≤ x → ∀ s : xSt, eqx [5] t s → (∀ i : Nat, (i : Int) < x → s 5 i = 0) → k x s) 144 (fun x hx ih x0 s qs h5 => ?_) 0 (by omega) (by omega) t (eqx_rf _ _) (fun i hi => absurd hi (by omega))
  · exact key
  · refine hk x s ⟨by omega, fun c => ?_, fun c => ⟨by omega, ?_⟩⟩
    · intro k2 hk2
      have key2 := lpU (P := fun z => 0 ≤ z → ∀ u : xSt, eqx [5] t u → (∀ i : Nat, (i : Int) < z → Inn (τ 0 5) (τ 0 6) X Y i) → (∀ g : Nat, g < 144 → u 5 g = cI (Wl (τ 0 5) X Y z g)) → k2 z u) (τ 0 1 + 1) (fun z hz ih2 z0 u qu hi hw => ?_) 0 (by omega) (by omega) s qs (fun i hi => absurd hi (by omega)) (fun g hg => by rw [h5 g (by omega), cI_f (fun ⟨i, i1, _⟩ => absurd i1 (by omega))])
      · exact key2
      · have u0 : u 0 = t 0 := qu 0 (by decide)
        have u1 : u 1 = τ 1 := (qu 1 (by decide)).trans t1
        have u4 : u 4 = τ 4 := (qu 4 (by decide)).trans t4
        have u01 : u 0 1 = τ 0 1 := by rw [u0]; exact t01
        have u05 : u 0 5 = τ 0 5 := by rw [u0]; exact t05
        have u06 : u 0 6 = τ 0 6 := by rw [u0]; exact t06
        have gu : GOk (u 0 5) (u 0 6) (u 4) := by rw [u05, u06, u4]; exact hG
        have wu : ∀ i : Nat, 0 ≤ u 1 i ∧ u 1 i < 8 := by rw [u1]; exact wy
        refine hk2 z u ?_
        rw [u01, u05]
        refine ⟨by omega, by omega, fun d => ?_, fun d => ⟨by omega, by omega, by omega, sm_placeOf wu z0 (by omega) (by omega) (fun _ => ?_) (fun q => absurd rfl q)⟩⟩
        · have ez : z = τ 0 1 + 1 := by omega
          rw [ez] at hw hi
          have hi' : ∀ i : Nat, (i : Int) ≤ τ 0 1 → Inn (τ 0 5) (τ 0 6) X Y i := fun i hi2 => hi i (by omega)
          have pbx := pX_bd (τ 1) (τ 0 1).toNat
          have pby := pY_bd (τ 1) (τ 0 1).toNat
          intro k3 hk3
          have go : (b = 0 ∨ (pX (τ 1) (τ 0 1).toNat = 0 ∧ pY (τ 1) (τ 0 1).toNat = 0)) → k3 := by
            intro hc
            refine hk3 (sm_hang gu (N := N) (by rw [u05, u06]; exact hN) (by omega) (fun _ g hg => by rw [hw g (by omega)]; exact cI_01 _) (fun s' q' hl => ?_))
            have e5 : (fun g => g < N ∧ (((0 : Int) = 0 ∧ u 5 g = 0) ∨ ((0 : Int) ≠ 0 ∧ u 4 g ≠ 0))) = (fun g => g < N ∧ ¬ Wl (τ 0 5) X Y (τ 0 1 + 1) g) := by
              funext g
              apply propext
              constructor
              · rintro ⟨q1, (q2 | q2)⟩
                · have q3 := q2.2
                  rw [hw g (by omega)] at q3
                  exact ⟨q1, cI_z.mp q3⟩
                · exact absurd rfl q2.1
              · rintro ⟨q1, q2⟩
                exact ⟨q1, Or.inl ⟨rfl, by rw [hw g (by omega)]; exact cI_z.mpr q2⟩⟩
            rw [e5, u05] at hl
            have s0 : s' 0 = u 0 := q' 0 (by decide)
            have s4 : s' 4 = τ 4 := (q' 4 (by decide)).trans u4
            have s5 : s' 5 = u 5 := q' 5 (by decide)
            have s05 : s' 0 5 = τ 0 5 := by rw [s0]; exact u05
            have s06 : s' 0 6 = τ 0 6 := by rw [s0]; exact u06
            intro k4 hk4
            have key3 := lpU (P := fun y => 0 ≤ y → ∀ v : xSt, eqx [4] s' v → (∀ g : Nat, v 4 g = if (g : Int) < y then cI (τ 4 g ≠ 0 ∨ Wl (τ 0 5) X Y (τ 0 1 + 1) g ∨ (b ≠ 0 ∧ ¬ Opn N (τ 0 5) (τ 0 6) (s' 6) (s' 6 g))) else τ 4 g) → k4 y v) (N : Int) (fun y hy ih3 y0 v qv hv => ?_) 0 (by omega) (by omega) s' (eqx_rf _ _) (fun g => by rw [if_neg (by omega), s4])
            · exact key3
            · have v0 : v 0 = s' 0 := qv 0 (by decide)
              have v05 : v 0 5 = τ 0 5 := by rw [v0]; exact s05
              have v06 : v 0 6 = τ 0 6 := by rw [v0]; exact s06
              have v5 : v 5 = u 5 := (qv 5 (by decide)).trans s5
              have v6 : v 6 = s' 6 := qv 6 (by decide)
              have gv : GOk (v 0 5) (v 0 6) (v 4) := by
                rw [v05, v06]
                refine ⟨g1, g2, g3, g4, fun g => ?_⟩
                rw [hv g]; split
                · exact cI_01 _
                · exact hG.2.2.2.2 g
              refine hk4 y v (sm_fields ?_)
              rw [v05, v06, ← hN]
              refine ⟨by omega, by omega, fun c2 => ?_, fun c2 => ?_⟩
              · refine sm_many gv ?_
                have eN : (v 0 5 * v 0 6).toNat = N := by rw [v05, v06]; omega
                rw [eN]
                refine h1 hi' hc v (s' 6) (eqx_tr (eqx_wk qu (by simp)) (eqx_tr (eqx_wk q' (by simp)) (eqx_wk qv (by simp)))) hl (fun g => ?_)
                rw [hv g]
                by_cases cg : g < N
                · rw [if_pos cg, if_pos (by omega)]
                · rw [if_neg cg, if_neg (by omega)]
              · have ey : ((y.toNat : Nat) : Int) = y := by omega
                have nx : ∀ r : Int, r = cI (τ 4 y.toNat ≠ 0 ∨ Wl (τ 0 5) X Y (τ 0 1 + 1) y.toNat ∨ (b ≠ 0 ∧ ¬ Opn N (τ 0 5) (τ 0 6) (s' 6) (s' 6 y.toNat))) → (0 ≤ y ∧ y < (144 : Nat)) ∧ ∀ v2 : xSt, v2 = xU v 4 y.toNat r → k4 (y + 1) v2 := by
                  intro r hr
                  refine ⟨by omega, ?_⟩
                  intro v2 e2; subst e2
                  refine ih3 (y + 1) (by omega) (by omega) (by omega) _ (eqx_tr qv (eqx_up v _ (by simp))) (fun g => ?_)
                  rw [xU_i]
                  by_cases cg : g = y.toNat
                  · rw [if_pos cg, if_pos (by omega), cg]; exact hr
                  · rw [if_neg cg, hv g]
                    by_cases c3 : (g : Int) < y
                    · rw [if_pos c3, if_pos (by omega)]
                    · rw [if_neg c3, if_neg (by omega)]
                have vy : v 4 y.toNat = τ 4 y.toNat := by rw [hv, if_neg (by omega)]
                rw [vy, v5, hw y.toNat (by omega)]
                refine ⟨by omega, r01 (hG.2.2.2.2 _), fun d1 => nx 1 (by rw [cI_t (Or.inl d1)]), fun d1 => ⟨by omega, r01 (cI_01 _), fun d2 => nx 1 (by rw [cI_t (Or.inr (Or.inl (cI_nz.mp d2)))]), fun d2 => ⟨hb, fun d3 => nx 0 (by
                  rw [cI_f]
                  rintro (q | q | q)
                  · exact q d1
                  · exact cI_z.mp d2 q
                  · exact q.1 d3), fun d3 => ?_⟩⟩⟩
                have hm := sm_comesOut (σ := v) (Post := fun r192 => xR r192 ∧ (r192 ≠ 0 → (0 ≤ y ∧ y < (144 : Nat)) ∧ ∀ v2 : xSt, v2 = xU v 4 y.toNat 0 → k4 (y + 1) v2) ∧ (r192 = 0 → (0 ≤ y ∧ y < (144 : Nat)) ∧ ∀ v2 : xSt, v2 = xU v 4 y.toNat 1 → k4 (y + 1) v2)) gv (N := N) (by rw [v05, v06]; exact hN) (fun g hg => by rw [v6]; have := Lab_bd hl hg; omega) (f := y.toNat) (by omega) (fun q => by
                    rw [v05, v06, v6] at q
                    exact ⟨by omega, fun _ => nx 0 (by
                      rw [cI_f]
                      rintro (w | w | w)
                      · exact w d1
                      · exact cI_z.mp d2 w
                      · exact w.2 q), fun w => absurd w (by omega)⟩) (fun q => by
                    rw [v05, v06, v6] at q
                    exact ⟨by omega, fun w => absurd rfl w, fun _ => nx 1 (by rw [cI_t (Or.inr (Or.inr ⟨d3, q⟩))])⟩)
                rw [ey] at hm; exact hm
          refine ⟨hb, fun d2 => go (Or.inl d2), fun d2 => sm_placeOf wu n1 n2 (by omega) (fun _ => ?_) (fun q => absurd rfl q)⟩
          rw [u1]
          refine ⟨by omega, fun d3 => h3 hi' d2 (fun q => d3 q.1) u qu, fun d3 => sm_placeOf wu n1 n2 (by omega) (fun q => absurd q (by omega)) (fun _ => ?_)⟩
          rw [u1]
          exact ⟨by omega, fun d4 => go (Or.inr ⟨d3, d4⟩), fun d4 => h3 hi' d2 (fun q => d4 q.2) u qu⟩
        · rw [u1, tmod_e a0, tdiv_e a0, ← hX]
          intro z4 e4; subst e4
          refine ⟨by omega, by omega, by omega, sm_placeOf wu z0 (by omega) (by omega) (fun q => absurd q (by omega)) (fun _ => ?_)⟩
          rw [u1, ← hY]
          intro z5 e5; subst e5
          have pbx := pX_bd (τ 1) z.toNat
          have pby := pY_bd (τ 1) z.toNat
          have ex := hX z.toNat
          have ey := hY z.toNat
          refine sm_isThere gu (by omega) (by omega) ?_
          rw [u05, u06]
          refine br_n (fun ci => ?_) (fun ci => h2 (fun q => ci (q _ (by omega))) u qu)
          have hf := fN (w := τ 0 5) (h := τ 0 6) hG.1 ci.1 ci.2.1 ci.2.2.1 ci.2.2.2
          refine ⟨by omega, ?_⟩
          intro u' e'; subst e'
          refine ih2 (z + 1) (by omega) (by omega) (by omega) _ (eqx_tr qu (eqx_up u _ (by simp))) (fun i hi2 => ?_) (fun g hg => ?_)
          · by_cases c3 : (i : Int) < z
            · exact hi i c3
            · have ei : i = z.toNat := by omega
              rw [ei]; exact ci
          · rw [xU_i]
            by_cases cg : g = (Y z.toNat * τ 0 5 + X z.toNat).toNat
            · rw [if_pos cg, cI_t ((Wl_s z0).mpr (Or.inl (by omega)))]
            · rw [if_neg cg, hw g hg]
              exact cI_c ⟨fun q => (Wl_s z0).mpr (Or.inr q), fun q => ((Wl_s z0).mp q).resolve_left (fun e => cg (by omega))⟩
    · intro s' e'; subst e'
      refine ih (x + 1) (by omega) (by omega) (by omega) _ (eqx_tr qs (eqx_up s _ (by simp))) (fun i hi => ?_)
      rw [xU_i]
      by_cases ci : i = x.toNat
      · rw [if_pos ci]
      · rw [if_neg ci]; exact h5 i (by omega)
