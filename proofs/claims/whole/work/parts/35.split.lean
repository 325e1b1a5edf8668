/-! the class's parts -/
theorem SI_next {N : Nat} {S : Nat → Prop} {A : Nat → Nat → Prop} {f : Nat} {L : Nat → Int} (h : SI N S A f L) (c : S f → L f ≠ -999) : SI N S A (f + 1) L := by
  obtain ⟨h1, h2, h3, h4⟩ := h
  refine ⟨h1, fun g hg hl => ?_, fun g hg hne => ?_, h4⟩
  · by_cases e : g = f
    · subst e; exact c hg
    · exact h2 g hg (by omega)
  · obtain ⟨t, r, r1, r2, r3, r4, r5⟩ := h3 g hg hne
    exact ⟨t, r, r1, r2, r3, by omega, r5⟩
theorem sx_split {σ : xSt} {Post : Int → xSt → Prop} {ka : Nat} (k1 : ka ≠ 10) (k2 : ka ≠ 11) (hG : GOk (σ 7 1) (σ 7 2) (σ 8)) {N : Nat} (hN : (N : Int) = σ 7 1 * σ 7 2) (hD : ∀ g, g < N → σ ka g = 0 ∨ σ ka g = 1) {v a4 : Int} (hv : xR v) (ha : xR a4)
    (hp : ∀ s', eqx [10, 11] σ s' → Lab N (fun g => g < N ∧ σ ka g = v) (adj (σ 7 1) a4) (s' 10) → Post (sI (fun g => bI (s' 10 g = (g : Int))) N) s') : wp_X4_split ka v a4 σ Post := by
  have hN1 := hG.N
  have em : xMin (σ 7 1 * σ 7 2) 144 = (N : Int) := by unfold xMin; rw [if_neg (by omega)]; omega
  unfold wp_X4_split
  refine sx_fields ⟨by omega, by omega, ?_⟩
  rw [em]
  intro k hk
  have key := lpU (P := fun x => 0 ≤ x → ∀ s : xSt, eqx [10, 11] σ s → (∀ i : Nat, (i : Int) < x → s 10 i = -999) → k x s) (N : Int) (fun x hx ih x0 s qs h10 => ?_) 0 (by omega) (by omega) σ (eqx_rf _ _) (fun i hi => absurd hi (by omega))
  · exact key
  · refine hk x s ⟨by omega, by omega, fun c => ?_, fun c => ⟨by omega, ?_⟩⟩
    · have no : ∀ g, g < N → s 10 g = -999 := fun g hg => h10 g (by omega)
      intro kb hkb
      have s0 : SI N (fun g => g < N ∧ σ ka g = v) (adj (σ 7 1) a4) 0 (s 10) := ⟨fun g hg _ => no g hg, fun g _ hl => absurd hl (by omega), fun g hg hne => absurd (no g hg) hne, fun g i hg _ _ hne => absurd (no g hg.1) hne⟩
      have c0 : sI (fun g => bI (s 10 g = (g : Int))) N = 0 := by
        have e1 : sI (fun g => bI (s 10 g = (g : Int))) N = sI (fun _ => (0 : Int)) N := sI_c (fun i hi => bI_f (by rw [no i hi]; omega))
        have := sI_bd (g := fun _ => (0 : Int)) (n := N) (a := 0) (b := 0) (fun _ _ => by omega)
        rw [e1]; omega
      have key2 := lpU (P := fun z => 0 ≤ z → ∀ t : xSt, eqx [10, 11] σ t → SI N (fun g => g < N ∧ σ ka g = v) (adj (σ 7 1) a4) z.toNat (t 10) → kb (sI (fun g => bI (t 10 g = (g : Int))) N) z t) (N : Int) (fun z hz ih2 z0 t qt hs => ?_) 0 (by omega) (by omega) s qs s0
      · rw [c0] at key2; exact key2
      · have tka : t ka = σ ka := qt ka (by simp [k1, k2])
        have ez : (z + 1).toNat = z.toNat + 1 := by omega
        refine hkb _ z t ⟨by omega, by omega, fun d => ?_, fun d => ⟨by omega, ?_⟩⟩
        · have e : z.toNat = N := by omega
          rw [e] at hs
          exact hp t qt (SI_lab (fun g h => h.1) hs)
        · have lb := SI_bd hs (show z.toNat < N by omega)
          rw [tka]
          refine ⟨r01 (hD _ (by omega)), hv, fun d2 => ?_, fun d2 => ⟨by omega, by omega, fun d3 => ?_, fun d3 => ?_⟩⟩
          · exact ih2 (z + 1) (by omega) (by omega) (by omega) t qt (by rw [ez]; exact SI_next hs (fun q => absurd q.2 d2))
          · exact ih2 (z + 1) (by omega) (by omega) (by omega) t qt (by rw [ez]; exact SI_next hs (fun _ => d3))
          · have t7 : t 7 = σ 7 := qt 7 (by decide)
            have t8 : t 8 = σ 8 := qt 8 (by decide)
            have e0 : ((z.toNat : Nat) : Int) = z := by omega
            have gg := sx_gather (σ := t) (PostV := fun t78 => kb (sI (fun g => bI (t 10 g = (g : Int))) N + 1) (z + 1) t78) k1 k2 (by rw [t7, t8]; exact hG) (N := N) (by rw [t7]; exact hN) (by rw [tka]; exact hD) (v := v) ha (f := z.toNat) (by omega) (by rw [tka]; exact d2) d3 (by rw [tka, t7]; exact hs) (fun s' q' h' hc => by
              rw [tka, t7] at h'
              have := ih2 (z + 1) (by omega) (by omega) (by omega) s' (eqx_tr qt q') (by rw [ez]; exact h')
              rw [hc] at this
              exact this)
            rw [e0] at gg
            exact gg
    · intro s' e'; subst e'
      refine ih (x + 1) (by omega) (by omega) (by omega) _ (eqx_tr qs (eqx_up s _ (by simp))) (fun i hi => ?_)
      rw [xU_i]
      by_cases ci : i = x.toNat
      · rw [if_pos ci]
      · rw [if_neg ci]; exact h10 i (by omega)
/-! what comes to the edge -/
/-- the part that has the label r comes to the edge -/
def Opn (N : Nat) (w h : Int) (L : Nat → Int) (r : Int) : Prop := ∃ g : Nat, g < N ∧ L g = r ∧ eD w h (g : Int)
theorem sx_findOpen {σ : xSt} {PostV : xSt → Prop} (hG : GOk (σ 7 1) (σ 7 2) (σ 8)) {N : Nat} (hN : (N : Int) = σ 7 1 * σ 7 2) (hL : ∀ g, g < N → σ 10 g = -999 ∨ (0 ≤ σ 10 g ∧ σ 10 g < N))
    (hp : ∀ s', eqx [12] σ s' → (∀ i : Nat, i < N → (s' 12 i = 0 ∨ s' 12 i = 1) ∧ (s' 12 i ≠ 0 ↔ Opn N (σ 7 1) (σ 7 2) (σ 10) (i : Int))) → PostV s') : wp_X4_findOpen σ PostV := by
  have hN1 := hG.N
  unfold wp_X4_findOpen
  intro k hk
  have hGs : ∀ t : xSt, eqx [12] σ t → GOk (t 7 1) (t 7 2) (t 8) := fun t qt => by rw [qt 7 (by decide), qt 8 (by decide)]; exact hG
  have key := lpU (P := fun x => 0 ≤ x → ∀ s : xSt, eqx [12] σ s → (∀ i : Nat, (i : Int) < x → s 12 i = 0) → k x s) (N : Int) (fun x hx ih x0 s qs h12 => ?_) 0 (by omega) (by omega) σ (eqx_rf _ _) (fun i hi => absurd hi (by omega))
  · exact key
  · have s7 : s 7 = σ 7 := qs 7 (by decide)
    refine hk x s (sx_fields ?_)
    rw [s7, ← hN]
    refine ⟨by omega, by omega, fun c => ?_, fun c => ⟨by omega, ?_⟩⟩
    · intro kb hkb
      have key2 := lpU (P := fun z => 0 ≤ z → ∀ t : xSt, eqx [12] σ t → (∀ i : Nat, i < N → (t 12 i = 0 ∨ t 12 i = 1) ∧ (t 12 i ≠ 0 ↔ ∃ g : Nat, (g : Int) < z ∧ σ 10 g = (i : Int) ∧ eD (σ 7 1) (σ 7 2) (g : Int))) → kb z t) (N : Int) (fun z hz ih2 z0 t qt h2 => ?_) 0 (by omega) (by omega) s qs (fun i hi => ⟨Or.inl (h12 i (by omega)), ⟨fun q => absurd (h12 i (by omega)) q, fun ⟨g, g1, _⟩ => absurd g1 (by omega)⟩⟩)
      · exact key2
      · have t7 : t 7 = σ 7 := qt 7 (by decide)
        have t10 : t 10 = σ 10 := qt 10 (by decide)
        refine hkb z t (sx_fields ?_)
        rw [t7, ← hN, t10]
        refine ⟨by omega, by omega, fun d => ?_, fun d => ⟨by omega, ?_⟩⟩
        · refine hp t qt (fun i hi => ⟨(h2 i hi).1, (h2 i hi).2.trans ⟨fun ⟨g, g1, g2, g3⟩ => ⟨g, by omega, g2, g3⟩, fun ⟨g, g1, g2, g3⟩ => ⟨g, by omega, g2, g3⟩⟩⟩)
        · have lb := hL z.toNat (by omega)
          have ez : ((z.toNat : Nat) : Int) = z := by omega
          -- nothing comes to it
          have skip : (∀ i : Nat, i < N → ¬ (σ 10 z.toNat = (i : Int) ∧ eD (σ 7 1) (σ 7 2) z)) → kb (z + 1) t := by
            intro hno
            refine ih2 (z + 1) (by omega) (by omega) (by omega) t qt (fun i hi => ⟨(h2 i hi).1, (h2 i hi).2.trans ⟨fun ⟨g, g1, g2, g3⟩ => ⟨g, by omega, g2, g3⟩, fun ⟨g, g1, g2, g3⟩ => ⟨g, ?_, g2, g3⟩⟩⟩)
            by_cases cg : (g : Int) = z
            · have eg : g = z.toNat := by omega
              exact absurd ⟨by rw [← eg]; exact g2, by rw [← cg]; exact g3⟩ (hno i hi)
            · omega
          refine ⟨by omega, fun d2 => skip (fun i _ q => by omega), fun d2 => ⟨by omega, fun d3 => absurd d3 (by omega), fun d3 => ?_⟩⟩
          refine sx_onEdge (hGs t qt) z0 (by rw [t7]; omega) ?_
          rw [t7]
          refine br_z (fun d4 => skip (fun i _ q => d4 q.2)) (fun d4 => ⟨by omega, ?_⟩)
          intro t1 f1; subst f1
          refine ih2 (z + 1) (by omega) (by omega) (by omega) _ (eqx_tr qt (eqx_up t _ (by simp))) (fun i hi => ?_)
          rw [xU_i]
          by_cases ci : i = (σ 10 z.toNat).toNat
          · rw [if_pos ci]
            exact ⟨Or.inr rfl, ⟨fun _ => ⟨z.toNat, by omega, by omega, by rw [ez]; exact d4⟩, fun _ => by omega⟩⟩
          · rw [if_neg ci]
            refine ⟨(h2 i hi).1, (h2 i hi).2.trans ⟨fun ⟨g, g1, g2, g3⟩ => ⟨g, by omega, g2, g3⟩, fun ⟨g, g1, g2, g3⟩ => ⟨g, ?_, g2, g3⟩⟩⟩
            by_cases cg : (g : Int) = z
            · have eg : g = z.toNat := by omega
              rw [eg] at g2; omega
            · omega
    · intro s' e'; subst e'
      refine ih (x + 1) (by omega) (by omega) (by omega) _ (eqx_tr qs (eqx_up s _ (by simp))) (fun i hi => ?_)
      rw [xU_i]
      by_cases ci : i = x.toNat
      · rw [if_pos ci]
      · rw [if_neg ci]; exact h12 i (by omega)
