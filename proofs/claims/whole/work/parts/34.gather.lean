/-! the class gathers a part -/
theorem SI_bd {N : Nat} {S : Nat → Prop} {A : Nat → Nat → Prop} {f : Nat} {L : Nat → Int} (h : SI N S A f L) {g : Nat} (hg : g < N) : L g = -999 ∨ (0 ≤ L g ∧ L g < N) := by
  by_cases c : L g = -999
  · exact Or.inl c
  · obtain ⟨-, r, r1, r2, r3, r4, -⟩ := h.2.2.1 g hg c
    right; omega
theorem BI_bd {N : Nat} {S : Nat → Prop} {A : Nat → Nat → Prop} {f : Nat} {L Lc Q : Nat → Int} {wt : Nat} (hs : SI N S A f L) (h : BI N S A f L Lc Q wt) (hf : f < N) {g : Nat} (hg : g < N) : Lc g = -999 ∨ (0 ≤ Lc g ∧ Lc g < N) := by
  rcases h.1 g hg with q | q
  · rw [q]; exact SI_bd hs hg
  · right; rw [q.2.2]; omega
theorem BI_wt {N : Nat} {S : Nat → Prop} {A : Nat → Nat → Prop} {f : Nat} {L Lc Q : Nat → Int} {wt : Nat} (h : BI N S A f L Lc Q wt) : wt ≤ N := by
  have h1 := h.2.2.2.2.1
  have h2 := (sI_bd (g := fun g => bI (Lc g = (f : Int))) (n := N) (a := 0) (b := 1) (fun i _ => by rcases bI_01 (Lc i = (f : Int)) with q | q <;> omega)).2
  omega
set_option maxHeartbeats 1000000 in
theorem sx_gather {σ : xSt} {PostV : xSt → Prop} {ka : Nat} (k1 : ka ≠ 10) (k2 : ka ≠ 11) (hG : GOk (σ 7 1) (σ 7 2) (σ 8)) {N : Nat} (hN : (N : Int) = σ 7 1 * σ 7 2) (hD : ∀ g, g < N → σ ka g = 0 ∨ σ ka g = 1) {v a4 : Int} (ha : xR a4) {f : Nat} (hf : f < N) (hv : σ ka f = v) (hL : σ 10 f = -999) (hs : SI N (fun g => g < N ∧ σ ka g = v) (adj (σ 7 1) a4) f (σ 10))
    (hp : ∀ s', eqx [10, 11] σ s' → SI N (fun g => g < N ∧ σ ka g = v) (adj (σ 7 1) a4) (f + 1) (s' 10) → sI (fun g => bI (s' 10 g = (g : Int))) N = sI (fun g => bI (σ 10 g = (g : Int))) N + 1 → PostV s') : wp_X4_gather ka (f : Int) a4 σ PostV := by
  have hN1 := hG.N
  have hw := hG.1
  have hw12 := hG.2.1
  have hh12 := hG.2.2.2.1
  unfold wp_X4_gather
  refine ⟨by omega, ?_⟩
  intro s1 e1 s2 e2 k hk
  have ef : ((f : Int)).toNat = f := by omega
  have q2 : eqx [10, 11] σ s2 := by rw [e2, e1]; exact eqx_tr (eqx_up σ _ (by simp)) (eqx_up _ _ (by simp))
  have b0 : BI N (fun g => g < N ∧ σ ka g = v) (adj (σ 7 1) a4) f (σ 10) (s2 10) (s2 11) 1 := by
    refine BI_0 ⟨hf, hv⟩ hf hL hs (fun g => ?_) ?_
    · have : s2 10 g = xU σ 10 (f : Int).toNat (f : Int) 10 g := by rw [e2, e1]; rfl
      rw [this, xU_i, ef]
    · rw [e2, xU_s]
  have key := lpU (P := fun x => 0 ≤ x → ∀ (wt : Nat) (s : xSt), eqx [10, 11] σ s → BI N (fun g => g < N ∧ σ ka g = v) (adj (σ 7 1) a4) f (σ 10) (s 10) (s 11) wt → x ≤ wt → (∀ j : Nat, (j : Int) < x → ∀ g : Nat, s 11 j = (g : Int) → ∀ i, (i < N ∧ σ ka i = v) → adj (σ 7 1) a4 g i → s 10 i = (f : Int)) → k (wt : Int) x s) (N : Int) (fun x hx ih x0 wt s qs hb hxw hcl => ?_) 0 (by omega) (by omega) 1 s2 q2 b0 (by omega) (fun j hj => absurd hj (by omega))
  · exact key
  · have wN := BI_wt hb
    refine hk (wt : Int) x s ⟨by omega, by omega, fun c => ?_, fun c => ⟨by omega, fun c2 => absurd c2 (by omega), fun c2 => ⟨by omega, ?_⟩⟩⟩
    · obtain ⟨z1, z2⟩ := BI_end (fun g h => h.1) hs hb ⟨hf, hv⟩ hL (fun j hj => hcl j (by omega))
      exact hp s qs z1 z2
    · obtain ⟨g0, g1, g2, g3, g4⟩ := hb.2.1 x.toNat (by omega)
      have hGs : ∀ t : xSt, eqx [10, 11] σ t → GOk (t 7 1) (t 7 2) (t 8) := fun t qt => by rw [qt 7 (by decide), qt 8 (by decide)]; exact hG
      have g0N := g2.1
      rw [g1]
      refine sx_col (hGs s qs) (by omega) (by omega) ⟨by omega, sx_line (hGs s qs) (by omega) (by omega) ?_⟩
      have s7 : s 7 = σ 7 := qs 7 (by decide)
      rw [s7]
      have xy := fxy (w := σ 7 1) (h := σ 7 2) (f := (g0 : Int)) hw (by omega) (by omega)
      intro kb hkb
      have key2 := lpU (P := fun z => 0 ≤ z → ∀ (wt : Nat) (t : xSt), eqx [10, 11] σ t → BI N (fun g => g < N ∧ σ ka g = v) (adj (σ 7 1) a4) f (σ 10) (t 10) (t 11) wt → x < wt → t 11 x.toNat = (g0 : Int) → t 10 g0 = (f : Int) → (∀ j : Nat, (j : Int) < x → ∀ g : Nat, t 11 j = (g : Int) → ∀ i, (i < N ∧ σ ka i = v) → adj (σ 7 1) a4 g i → t 10 i = (f : Int)) → (∀ u : Nat, (u : Int) < z → (a4 = 0 → u % 2 = 0) → ∀ i : Nat, (i < N ∧ σ ka i = v) → (i : Int) % σ 7 1 = (g0 : Int) % σ 7 1 + xRt u → (i : Int) / σ 7 1 = (g0 : Int) / σ 7 1 + xUp u → t 10 i = (f : Int)) → (a4 = 0 → z % 2 = 0) → kb (wt : Int) z t) 8 (fun z hz ih2 z0 wt t qt hbt hxt ht11 ht10 hclt hpt hev => ?_) 0 (by omega) (by omega) wt s qs hb (by omega) g1 g3 hcl (fun u hu => absurd hu (by omega)) (by omega)
      · exact key2
      · have wN2 := BI_wt hbt
        have r1 := xRt_bd z.toNat
        have r2 := xUp_bd z.toNat
        have t7 : t 7 = σ 7 := qt 7 (by decide)
        have tka : t ka = σ ka := qt ka (by simp [k1, k2])
        refine hkb (wt : Int) z t ⟨by omega, fun d => ?_, fun d => ⟨by omega, by omega, ?_⟩⟩
        · refine ih (x + 1) (by omega) (by omega) (by omega) wt t qt hbt (by omega) (fun j hj g hg i hi hgi => ?_)
          by_cases cj : (j : Int) < x
          · exact hclt j cj g hg i hi hgi
          · have ej : j = x.toNat := by omega
            subst ej
            have eg : g = g0 := by rw [ht11] at hg; omega
            subst eg
            obtain ⟨u, u1, u2, u3, u4⟩ := (adj_w hw).mp hgi
            exact hpt u (by omega) u2 i hi u3 u4
        · -- on to the next way
          have nxt : ∀ (wt' : Nat) (t' : xSt), eqx [10, 11] σ t' → BI N (fun g => g < N ∧ σ ka g = v) (adj (σ 7 1) a4) f (σ 10) (t' 10) (t' 11) wt' → x < wt' → t' 11 x.toNat = (g0 : Int) → (∀ i, t 10 i = (f : Int) → t' 10 i = (f : Int)) → (∀ j : Nat, (j : Int) < x → t' 11 j = t 11 j) → (∀ i : Nat, (i < N ∧ σ ka i = v) → (i : Int) % σ 7 1 = (g0 : Int) % σ 7 1 + xRt z.toNat → (i : Int) / σ 7 1 = (g0 : Int) / σ 7 1 + xUp z.toNat → t' 10 i = (f : Int)) → xR a4 ∧ (a4 = 0 → kb (wt' : Int) (z + 2) t') ∧ (a4 ≠ 0 → kb (wt' : Int) (z + 1) t') := by
            intro wt' t' qt' hbt' hx' h11 hmono h11j hz'
            have cl' : ∀ j : Nat, (j : Int) < x → ∀ g : Nat, t' 11 j = (g : Int) → ∀ i, (i < N ∧ σ ka i = v) → adj (σ 7 1) a4 g i → t' 10 i = (f : Int) := fun j hj g hg i hi hgi => hmono i (hclt j hj g (by rw [← h11j j hj]; exact hg) i hi hgi)
            refine ⟨ha, fun ca => ?_, fun ca => ?_⟩
            · refine ih2 (z + 2) (by omega) (by have := hev ca; omega) (by omega) wt' t' qt' hbt' hx' h11 (hmono g0 ht10) cl' (fun u hu hu2 i hi h3 h4 => ?_) (by omega)
              by_cases cu : (u : Int) < z
              · exact hmono i (hpt u cu hu2 i hi h3 h4)
              · have eu : u = z.toNat := by have := hu2 ca; have := hev ca; omega
                subst eu; exact hz' i hi h3 h4
            · refine ih2 (z + 1) (by omega) (by omega) (by omega) wt' t' qt' hbt' hx' h11 (hmono g0 ht10) cl' (fun u hu hu2 i hi h3 h4 => ?_) (fun q => absurd q ca)
              by_cases cu : (u : Int) < z
              · exact hmono i (hpt u cu hu2 i hi h3 h4)
              · have eu : u = z.toNat := by omega
                subst eu; exact hz' i hi h3 h4
          refine sx_fieldAt (hGs t qt) (by omega) (by omega) ?_
          rw [t7]
          by_cases ins : 0 ≤ (g0 : Int) % σ 7 1 + xRt z.toNat ∧ (g0 : Int) % σ 7 1 + xRt z.toNat < σ 7 1 ∧ 0 ≤ (g0 : Int) / σ 7 1 + xUp z.toNat ∧ (g0 : Int) / σ 7 1 + xUp z.toNat < σ 7 2
          · rw [if_pos ins]
            have fn := fN (w := σ 7 1) (h := σ 7 2) hw ins.1 ins.2.1 ins.2.2.1 ins.2.2.2
            generalize hr : ((g0 : Int) / σ 7 1 + xUp z.toNat) * σ 7 1 + ((g0 : Int) % σ 7 1 + xRt z.toNat) = r at fn
            have er : ((r.toNat : Nat) : Int) = r := by omega
            have rN : r.toNat < N := by omega
            have adjr : adj (σ 7 1) a4 g0 r.toNat := (adj_w hw).mpr ⟨z.toNat, by omega, fun ca => by have := hev ca; omega, by rw [er]; exact fn.2.2.1, by rw [er]; exact fn.2.2.2⟩
            have uniq : ∀ i : Nat, i < N → (i : Int) % σ 7 1 = (g0 : Int) % σ 7 1 + xRt z.toNat → (i : Int) / σ 7 1 = (g0 : Int) / σ 7 1 + xUp z.toNat → i = r.toNat := by
              intro i hi h3 h4
              have := (fxy (w := σ 7 1) (h := σ 7 2) (f := (i : Int)) hw (by omega) (by omega)).2.2.2.2
              rw [h3, h4, hr] at this
              omega
            refine sx_knows (hGs t qt) (by omega) ?_
            rw [t7]
            intro kc hkc
            have go0 : (¬ (σ ka r.toNat = v) ∨ t 10 r.toNat = (f : Int)) → kc 0 := by
              intro hq
              refine hkc 0 ?_
              intro kd hkd
              have : kd (wt : Int) t := hkd (wt : Int) t (nxt wt t qt hbt hxt ht11 (fun _ h => h) (fun _ _ => rfl) (fun i hi h3 h4 => by
                have ei := uniq i hi.1 h3 h4
                subst ei
                rcases hq with q | q
                · exact absurd hi.2 q
                · exact q))
              exact ⟨by omega, fun _ => this, fun q => absurd rfl q⟩
            refine br_z (fun d2 => absurd ⟨fn.1, fn.2.1⟩ d2) (fun _ => ⟨by omega, by omega, ?_⟩)
            rw [tka, ef, hv]
            have lb := BI_bd hs hbt hf rN
            refine ⟨r01 (hD _ (by omega)), r01 (hv ▸ hD f hf), fun d3 => go0 (Or.inl d3), fun d3 => ⟨by omega, by omega, fun d4 => go0 (Or.inr ?_), fun d4 => ?_⟩⟩
            · rcases hbt.1 r.toNat rN with q | q
              · exfalso
                rw [q] at d4
                have := hs.2.2.2 r.toNat g0 ⟨rN, d3⟩ g2 (adj_s adjr) d4
                rw [g4] at this
                exact d4 this.symm
              · exact q.2.2
            · refine hkc 1 ?_
              intro kd hkd
              have lt : wt < N := by
                have h5 := hbt.2.2.2.2.1
                have := sI_lt (p := fun g => t 10 g = (f : Int)) rN (by rw [d4]; omega)
                omega
              refine ⟨by omega, fun q => absurd q (by omega), fun _ => ⟨by omega, fun q => absurd q (by omega), fun _ => ⟨by omega, ?_⟩⟩⟩
              intro t1 f1
              refine ⟨by omega, ?_⟩
              intro t2 f2
              have ewt : ((wt : Int)).toNat = wt := by omega
              have h10 : ∀ i, t2 10 i = if i = r.toNat then (f : Int) else t 10 i := by
                intro i
                have : t2 10 i = xU t 10 r.toNat (f : Int) 10 i := by rw [f2, f1]; rfl
                rw [this, xU_i]
              have h11 : ∀ i, t2 11 i = if i = wt then ((r.toNat : Nat) : Int) else t 11 i := by
                intro i
                have : t2 11 i = xU t1 11 (wt : Int).toNat r 11 i := by rw [f2]
                rw [this, xU_i, ewt, er, f1]; rfl
              have hbn := BI_add (fun _ _ h => adj_s h) hbt ⟨hf, hv⟩ ht10 g0N g2 (show r.toNat < N ∧ σ ka r.toNat = v from ⟨rN, d3⟩) rN adjr d4 h10 h11
              have qn : eqx [10, 11] σ t2 := by
                rw [f2, f1]; exact eqx_tr qt (eqx_tr (eqx_up t _ (by simp)) (eqx_up _ _ (by simp)))
              have nn := nxt (wt + 1) t2 qn hbn (by omega) (by rw [h11, if_neg (by omega)]; exact ht11) (fun i hi => by rw [h10]; split; rfl; exact hi) (fun j hj => by rw [h11, if_neg (by omega)]) (fun i hi h3 h4 => by rw [h10, if_pos (uniq i hi.1 h3 h4)])
              exact hkd _ t2 nn
          · rw [if_neg ins]
            refine sx_knows (hGs t qt) (by omega) ?_
            intro kc hkc
            refine br_z (fun _ => ?_) (fun d2 => absurd d2.1 (by omega))
            refine hkc 0 ?_
            intro kd hkd
            have : kd (wt : Int) t := hkd (wt : Int) t (nxt wt t qt hbt hxt ht11 (fun _ h => h) (fun _ _ => rfl) (fun i hi h3 h4 => by
              exfalso
              have := fxy (w := σ 7 1) (h := σ 7 2) (f := (i : Int)) hw (by omega) (by omega)
              omega))
            exact ⟨by omega, fun _ => this, fun q => absurd rfl q⟩
