/-! the reference's labels -/
theorem sm_beside {σ : xSt} {Post : Int → Prop} (hG : GOk (σ 0 5) (σ 0 6) (σ 4)) {f g : Nat} (hf : (f : Int) < σ 0 5 * σ 0 6) (hg : (g : Int) < σ 0 5 * σ 0 6) (h1 : adj (σ 0 5) 0 f g → Post 1) (h0 : ¬ adj (σ 0 5) 0 f g → Post 0) : wp_X10_beside (f : Int) (g : Int) σ Post := by
  have hN := hG.N
  obtain ⟨w1, w2, w3, w4, -⟩ := id hG
  have xf := fxy (w := σ 0 5) (h := σ 0 6) (f := (f : Int)) w1 (by omega) hf
  have xg := fxy (w := σ 0 5) (h := σ 0 6) (f := (g : Int)) w1 (by omega) hg
  unfold wp_X10_beside
  rw [tmod_e (by omega), tmod_e (by omega), tdiv_e (by omega), tdiv_e (by omega)]
  refine ⟨by omega, by omega, by omega, by omega, by omega, by omega, sm_size (by omega) ⟨by omega, by omega, by omega, by omega, by omega, by omega, sm_size (by omega) ?_⟩⟩
  have a1 : 0 ≤ xAbs ((f : Int) % σ 0 5 - (g : Int) % σ 0 5) ∧ xAbs ((f : Int) % σ 0 5 - (g : Int) % σ 0 5) ≤ 144 := by unfold xAbs; split <;> omega
  have a2 : 0 ≤ xAbs ((f : Int) / σ 0 5 - (g : Int) / σ 0 5) ∧ xAbs ((f : Int) / σ 0 5 - (g : Int) / σ 0 5) ≤ 144 := by unfold xAbs; split <;> omega
  refine ⟨by omega, fun c => h0 ?_, fun c => h1 (Or.inr ⟨rfl, c⟩)⟩
  rintro (⟨q, -⟩ | ⟨-, q⟩)
  · exact q rfl
  · exact c q
theorem sm_about {σ : xSt} {Post : Int → Prop} {a : Int} (ha : a ≠ 0) (hG : GOk (σ 0 5) (σ 0 6) (σ 4)) {f g : Nat} (hf : (f : Int) < σ 0 5 * σ 0 6) (hg : (g : Int) < σ 0 5 * σ 0 6) (h1 : adj (σ 0 5) a f g → Post 1) (h0 : ¬ adj (σ 0 5) a f g → Post 0) : wp_X10_about (f : Int) (g : Int) σ Post := by
  have hN := hG.N
  obtain ⟨w1, w2, w3, w4, -⟩ := id hG
  have xf := fxy (w := σ 0 5) (h := σ 0 6) (f := (f : Int)) w1 (by omega) hf
  have xg := fxy (w := σ 0 5) (h := σ 0 6) (f := (g : Int)) w1 (by omega) hg
  have a1 : 0 ≤ xAbs ((f : Int) % σ 0 5 - (g : Int) % σ 0 5) ∧ xAbs ((f : Int) % σ 0 5 - (g : Int) % σ 0 5) ≤ 144 := by unfold xAbs; split <;> omega
  have a2 : 0 ≤ xAbs ((f : Int) / σ 0 5 - (g : Int) / σ 0 5) ∧ xAbs ((f : Int) / σ 0 5 - (g : Int) / σ 0 5) ≤ 144 := by unfold xAbs; split <;> omega
  unfold wp_X10_about
  rw [tmod_e (by omega), tmod_e (by omega), tdiv_e (by omega), tdiv_e (by omega)]
  have no : (f = g ∨ 2 ≤ xAbs ((f : Int) % σ 0 5 - (g : Int) % σ 0 5) ∨ 2 ≤ xAbs ((f : Int) / σ 0 5 - (g : Int) / σ 0 5)) → Post 0 := by
    intro hq
    refine h0 ?_
    rintro (⟨-, q1, q2, q3⟩ | ⟨q, -⟩)
    · omega
    · exact ha q
  refine ⟨by omega, by omega, fun c => no (Or.inl (by omega)), fun c => ⟨by omega, by omega, by omega, by omega, by omega, by omega, sm_size (by omega) ⟨by omega, fun c2 => no (Or.inr (Or.inl c2)), fun c2 => ⟨by omega, by omega, by omega, by omega, by omega, by omega, sm_size (by omega) ⟨by omega, fun c3 => no (Or.inr (Or.inr c3)), fun c3 => h1 (Or.inl ⟨ha, by omega, c2, c3⟩)⟩⟩⟩⟩⟩
/-- marks on their way down -/
def HI (N : Nat) (S : Nat → Prop) (A : Nat → Nat → Prop) (M : Nat → Int) : Prop := (∀ g, g < N → ¬ S g → M g = -999) ∧ ∀ g, S g → ∃ r : Nat, S r ∧ M g = (r : Int) ∧ r ≤ g ∧ Cn S A g r
theorem HI_up {N : Nat} {S : Nat → Prop} {A : Nat → Nat → Prop} {M M' : Nat → Int} (h : HI N S A M) {f g : Nat} (hf : S f) (hg : S g) (hfg : A f g) (lt : M g < M f) (e : ∀ i, M' i = if i = f then M g else M i) : HI N S A M' := by
  refine ⟨fun i hi hn => ?_, fun i hi => ?_⟩
  · rw [e]; split
    · rename_i q; subst q; exact absurd hf hn
    · exact h.1 i hi hn
  · rw [e]; split
    · rename_i q; subst q
      obtain ⟨r, r1, r2, r3, r4⟩ := h.2 g hg
      obtain ⟨r', q1, q2, q3, q4⟩ := h.2 i hf
      exact ⟨r, r1, r2, by omega, Cn_tr (Cn_1 hg hfg) r4⟩
    · exact h.2 i hi
theorem HI_bd {N : Nat} {S : Nat → Prop} (hS : ∀ g, S g → g < N) {A : Nat → Nat → Prop} {M : Nat → Int} (h : HI N S A M) {g : Nat} (hg : g < N) : -999 ≤ M g ∧ M g < N ∧ (M g = -999 ↔ ¬ S g) := by
  by_cases c : S g
  · obtain ⟨r, r1, r2, r3, -⟩ := h.2 g c
    have := hS g c
    refine ⟨by omega, by omega, ⟨fun q => by omega, fun q => absurd c q⟩⟩
  · have := h.1 g hg c
    exact ⟨by omega, by omega, ⟨fun _ => c, fun _ => this⟩⟩
set_option maxHeartbeats 1000000 in
theorem sm_hang {τ : xSt} {PostV : xSt → Prop} (hG : GOk (τ 0 5) (τ 0 6) (τ 4)) {N : Nat} (hN : (N : Int) = τ 0 5 * τ 0 6) {a : Int} (ha : xR a) (hW : a = 0 → ∀ g, g < N → τ 5 g = 0 ∨ τ 5 g = 1)
    (hp : ∀ s', eqx [6] τ s' → Lab N (fun g => g < N ∧ ((a = 0 ∧ τ 5 g = 0) ∨ (a ≠ 0 ∧ τ 4 g ≠ 0))) (adj (τ 0 5) a) (s' 6) → PostV s') : wp_X10_hang a τ PostV := by
  have hN1 := hG.N
  generalize hSe : (fun g => g < N ∧ ((a = 0 ∧ τ 5 g = 0) ∨ (a ≠ 0 ∧ τ 4 g ≠ 0))) = S at hp
  have Si : ∀ g, S g ↔ (g < N ∧ ((a = 0 ∧ τ 5 g = 0) ∨ (a ≠ 0 ∧ τ 4 g ≠ 0))) := fun g => by rw [← hSe]
  have hS : ∀ g, S g → g < N := fun g h => ((Si g).mp h).1
  have hGs : ∀ t : xSt, eqx [6] τ t → GOk (t 0 5) (t 0 6) (t 4) := fun t qt => by rw [qt 0 (by decide), qt 4 (by decide)]; exact hG
  have fl : ∀ t : xSt, eqx [6] τ t → t 0 5 * t 0 6 = (N : Int) := fun t qt => by rw [qt 0 (by decide)]; exact hN.symm
  unfold wp_X10_hang
  intro k hk
  have key := lpU (P := fun x => 0 ≤ x → ∀ s : xSt, eqx [6] τ s → (∀ i : Nat, (i : Int) < x → (S i → s 6 i = (i : Int)) ∧ (¬ S i → s 6 i = -999)) → k x s) (N : Int) (fun x hx ih x0 s qs h6 => ?_) 0 (by omega) (by omega) τ (eqx_rf _ _) (fun i hi => absurd hi (by omega))
  · exact key
  · refine hk x s (sm_fields ?_)
    rw [fl s qs]
    refine ⟨by omega, by omega, fun c => ?_, fun c => ⟨ha, fun ca => ⟨by omega, ?_⟩, fun ca => ⟨by omega, ?_⟩⟩⟩
    · have hI0 : HI N S (adj (τ 0 5) a) (s 6) := ⟨fun g hg hn => (h6 g (by omega)).2 hn, fun g hg => ⟨g, hg, (h6 g (by have := hS g hg; omega)).1 hg, Nat.le_refl g, Cn_rf _ _ _⟩⟩
      intro kb hkb
      have lowb : ∀ M, HI N S (adj (τ 0 5) a) M → -999 * (N : Int) ≤ sI M N := fun M hM => (sI_bd (g := M) (n := N) (a := -999) (b := N) (fun i hi => by have := HI_bd hS hM hi; omega)).1
      have key2 := lpD (P := fun m => ∀ (x2 : Int) (t : xSt), (x2 = 0 ∨ x2 = 1) → eqx [6] τ t → HI N S (adj (τ 0 5) a) (t 6) → (x2 = 0 → ∀ f g, S f → S g → adj (τ 0 5) a f g → t 6 f ≤ t 6 g) → sI (t 6) N = m → kb x2 t) (-999 * (N : Int)) (fun m hm ihm x2 t hx2 qt hI hcl hsum => ?_) (sI (s 6) N) (lowb _ hI0) 1 s (Or.inr rfl) qs hI0 (fun q => absurd q (by omega)) rfl
      · exact key2
      · refine hkb x2 t ⟨by omega, fun d => hp t qt ⟨hI.1, hI.2, fun f g hf hg hfg => Int.le_antisymm (hcl d f g hf hg hfg) (hcl d g f hg hf (adj_s hfg))⟩, fun _ => ?_⟩
        intro kc hkc
        -- a pass: nothing changed yet, or the sum fell
        have key3 := lpU (P := fun z => 0 ≤ z → ∀ (y2 : Int) (u : xSt), eqx [6] τ u → HI N S (adj (τ 0 5) a) (u 6) → ((y2 = 0 ∧ u 6 = t 6 ∧ ∀ f g : Nat, (f : Int) < z → S f → S g → adj (τ 0 5) a f g → t 6 f ≤ t 6 g) ∨ (y2 = 1 ∧ sI (u 6) N < m)) → kc y2 z u) (N : Int) (fun z hz ih3 z0 y2 u qu hIu hy => ?_) 0 (by omega) (by omega) 0 t qt hI (Or.inl ⟨rfl, rfl, fun f g hf => absurd hf (by omega)⟩)
        · exact key3
        · refine hkc y2 z u (sm_fields ?_)
          rw [fl u qu]
          refine ⟨by omega, by omega, fun d => ?_, fun d => ?_⟩
          · rcases hy with ⟨y1, y3, y4⟩ | ⟨y1, y3⟩
            · have em : sI (u 6) N = m := by rw [y3]; exact hsum
              -- the sum stays: the same marks, and they are closed
              have cl0 : ∀ f g, S f → S g → adj (τ 0 5) a f g → u 6 f ≤ u 6 g := fun f g hf hg hfg => by rw [y3]; exact y4 f g (by have := hS f hf; omega) hf hg hfg
              subst y1
              exact hkb 0 u ⟨by omega, fun _ => hp u qu ⟨hIu.1, hIu.2, fun f g hf hg hfg => Int.le_antisymm (cl0 f g hf hg hfg) (cl0 g f hg hf (adj_s hfg))⟩, fun q => absurd rfl q⟩
            · exact ihm (sI (u 6) N) (lowb _ hIu) y3 y2 u (Or.inr y1) qu hIu (fun q => by omega) rfl
          · intro kd hkd
            have ez : ((z.toNat : Nat) : Int) = z := by omega
            have zN : z.toNat < N := by omega
            have key4 := lpU (P := fun v => 0 ≤ v → ∀ (y2 : Int) (u : xSt), eqx [6] τ u → HI N S (adj (τ 0 5) a) (u 6) → ((y2 = 0 ∧ u 6 = t 6 ∧ (∀ f g : Nat, (f : Int) < z → S f → S g → adj (τ 0 5) a f g → t 6 f ≤ t 6 g) ∧ ∀ g : Nat, (g : Int) < v → S z.toNat → S g → adj (τ 0 5) a z.toNat g → t 6 z.toNat ≤ t 6 g) ∨ (y2 = 1 ∧ sI (u 6) N < m)) → kd y2 v u) (N : Int) (fun v hv ih4 v0 y2 u qu hIu hy => ?_) 0 (by omega) (by omega) y2 u qu hIu ?_
            · exact key4
            · have bz := HI_bd hS hIu zN
              have out : ((N : Int) ≤ v ∨ ¬ S z.toNat) → kc y2 (z + 1) u := by
                intro ho
                refine ih3 (z + 1) (by omega) (by omega) (by omega) y2 u qu hIu ?_
                rcases hy with ⟨y1, y3, y4, y5⟩ | q
                · refine Or.inl ⟨y1, y3, fun f g hf hSf hSg hfg => ?_⟩
                  by_cases cf : (f : Int) < z
                  · exact y4 f g cf hSf hSg hfg
                  · have ef : f = z.toNat := by omega
                    subst ef
                    rcases ho with o | o
                    · exact y5 g (by have := hS g hSg; omega) hSf hSg hfg
                    · exact absurd hSf o
                · exact Or.inr q
              refine hkd y2 v u (sm_fields ?_)
              rw [fl u qu]
              refine ⟨by omega, by omega, fun d2 => out (Or.inl d2), fun d2 => ⟨by omega, by omega, fun d3 => out (Or.inr (bz.2.2.mp d3)), fun d3 => ?_⟩⟩
              have Sz : S z.toNat := Classical.byContradiction (fun q => d3 (bz.2.2.mpr q))
              have vN : v.toNat < N := by omega
              have bv := HI_bd hS hIu vN
              have ev : ((v.toNat : Nat) : Int) = v := by omega
              -- this g changes nothing
              have skip : (S v.toNat → adj (τ 0 5) a z.toNat v.toNat → u 6 z.toNat ≤ u 6 v.toNat) → kd y2 (v + 1) u := by
                intro hno
                refine ih4 (v + 1) (by omega) (by omega) (by omega) y2 u qu hIu ?_
                rcases hy with ⟨y1, y3, y4, y5⟩ | q
                · refine Or.inl ⟨y1, y3, y4, fun g hg hSz hSg hzg => ?_⟩
                  by_cases cg : (g : Int) < v
                  · exact y5 g cg hSz hSg hzg
                  · have eg : g = v.toNat := by omega
                    subst eg
                    rw [← y3]; exact hno hSg hzg
                · exact Or.inr q
              refine ⟨by omega, by omega, fun d4 => skip (fun q => absurd q (bv.2.2.mp d4)), fun d4 => ⟨by omega, by omega, by omega, by omega, fun d5 => skip (fun _ _ => d5), fun d5 => ?_⟩⟩
              have Sv : S v.toNat := Classical.byContradiction (fun q => d4 (bv.2.2.mpr q))
              intro ke hke
              have yes : adj (τ 0 5) a z.toNat v.toNat → ke := by
                intro hzv
                refine hke ⟨by omega, by omega, ?_⟩
                intro u' e'
                have e6 : ∀ i, u' 6 i = if i = z.toNat then u 6 v.toNat else u 6 i := fun i => by rw [e', xU_i]
                refine ih4 (v + 1) (by omega) (by omega) (by omega) 1 u' (by rw [e']; exact eqx_tr qu (eqx_up u _ (by simp))) (HI_up hIu Sz Sv hzv d5 e6) (Or.inr ⟨rfl, ?_⟩)
                have eS : sI (u' 6) N = sI (fun i => if i = z.toNat then u 6 v.toNat else u 6 i) N := sI_c (fun i _ => e6 i)
                rw [eS, sI_up zN]
                rcases hy with ⟨y1, y3, -⟩ | ⟨-, q⟩
                · rw [y3, hsum]; rw [y3] at d5; omega
                · omega
              have u05 : u 0 5 = τ 0 5 := by rw [qu 0 (by decide)]
              refine ⟨ha, fun ca => ?_, fun ca => ?_⟩
              · have := sm_beside (σ := u) (Post := fun r146 => xR r146 ∧ (r146 = 0 → kd y2 (v + 1) u) ∧ (r146 ≠ 0 → ke)) (hGs u qu) (f := z.toNat) (g := v.toNat) (by rw [fl u qu]; omega) (by rw [fl u qu]; omega) (fun q => ⟨by omega, fun w => absurd w (by omega), fun _ => yes (by rw [ca]; rw [u05] at q; exact q)⟩) (fun q => ⟨by omega, fun _ => skip (fun _ w => absurd (by rw [u05]; rw [ca] at w; exact w) q), fun w => absurd rfl w⟩)
                rw [ez, ev] at this
                exact this
              · have := sm_about (σ := u) (Post := fun r133 => xR r133 ∧ (r133 = 0 → kd y2 (v + 1) u) ∧ (r133 ≠ 0 → ke)) ca (hGs u qu) (f := z.toNat) (g := v.toNat) (by rw [fl u qu]; omega) (by rw [fl u qu]; omega) (fun q => ⟨by omega, fun w => absurd w (by omega), fun _ => yes (by rw [u05] at q; exact q)⟩) (fun q => ⟨by omega, fun _ => skip (fun _ w => absurd (by rw [u05]; exact w) q), fun w => absurd rfl w⟩)
                rw [ez, ev] at this
                exact this
            · rcases hy with ⟨y1, y3, y4⟩ | q
              · exact Or.inl ⟨y1, y3, y4, fun g hg => absurd hg (by omega)⟩
              · exact Or.inr q
    · have s5 : s 5 = τ 5 := qs 5 (by decide)
      rw [s5]
      have go : ∀ q : Int, ((S x.toNat → q = x) ∧ (¬ S x.toNat → q = -999)) → ∀ σ_47 : xSt, σ_47 = xU s 6 x.toNat q → k (x + 1) σ_47 := by
        intro q hq s' e'; subst e'
        refine ih (x + 1) (by omega) (by omega) (by omega) _ (eqx_tr qs (eqx_up s _ (by simp))) (fun i hi => ?_)
        rw [xU_i]
        by_cases ci : i = x.toNat
        · rw [if_pos ci, ci]
          exact ⟨fun w => by rw [hq.1 w]; omega, fun w => hq.2 w⟩
        · rw [if_neg ci]; exact h6 i (by omega)
      refine ⟨r01 (hW ca _ (by omega)), fun d => ⟨by omega, go _ ⟨fun w => ?_, fun _ => rfl⟩⟩, fun d => ⟨by omega, go _ ⟨fun _ => rfl, fun w => absurd ((Si _).mpr ⟨by omega, Or.inl ⟨ca, d⟩⟩) w⟩⟩⟩
      rcases ((Si _).mp w).2 with q | q
      · exact absurd q.2 d
      · exact absurd ca q.1
    · have s4 : s 4 = τ 4 := qs 4 (by decide)
      rw [s4]
      have go : ∀ q : Int, ((S x.toNat → q = x) ∧ (¬ S x.toNat → q = -999)) → ∀ σ_47 : xSt, σ_47 = xU s 6 x.toNat q → k (x + 1) σ_47 := by
        intro q hq s' e'; subst e'
        refine ih (x + 1) (by omega) (by omega) (by omega) _ (eqx_tr qs (eqx_up s _ (by simp))) (fun i hi => ?_)
        rw [xU_i]
        by_cases ci : i = x.toNat
        · rw [if_pos ci, ci]
          exact ⟨fun w => by rw [hq.1 w]; omega, fun w => hq.2 w⟩
        · rw [if_neg ci]; exact h6 i (by omega)
      refine ⟨r01 (hG.2.2.2.2 _), fun d => ⟨by omega, go _ ⟨fun w => ?_, fun _ => rfl⟩⟩, fun d => ⟨by omega, go _ ⟨fun _ => rfl, fun w => absurd ((Si _).mpr ⟨by omega, Or.inr ⟨ca, d⟩⟩) w⟩⟩⟩
      rcases ((Si _).mp w).2 with q | q
      · exact absurd q.1 ca
      · exact absurd d q.2
