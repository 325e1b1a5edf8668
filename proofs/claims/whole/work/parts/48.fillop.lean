/-! fill on both sides -/
theorem RR_heap {σ σ' τ τ' : xSt} (h : RR σ τ) (hs : eqx [8, 5, 9, 10, 11, 12, 13, 14, 15, 16, 17, 18, 19, 20, 21, 22] σ σ') (ht : eqx [4, 2, 3, 5, 6, 7, 8, 9, 10, 11] τ τ') (e : σ' 8 = τ' 4) (hb : ∀ f, τ' 4 f = 0 ∨ τ' 4 f = 1) : RR σ' τ' := by
  obtain ⟨n1, n2, n3, e2, wy, pl, gw, gh, e8, hG, as0⟩ := h
  have s1 : σ' 1 = σ 1 := hs 1 (by decide)
  have s2 : σ' 2 = σ 2 := hs 2 (by decide)
  have s3 : σ' 3 = σ 3 := hs 3 (by decide)
  have s4 : σ' 4 = σ 4 := hs 4 (by decide)
  have s6 : σ' 6 = σ 6 := hs 6 (by decide)
  have s7 : σ' 7 = σ 7 := hs 7 (by decide)
  have t0 : τ' 0 = τ 0 := ht 0 (by decide)
  have t1 : τ' 1 = τ 1 := ht 1 (by decide)
  unfold RR
  rw [s1, s2, s3, s4, s6, s7, t0, t1]
  exact ⟨n1, n2, n3, e2, wy, pl, gw, gh, e, ⟨hG.1, hG.2.1, hG.2.2.1, hG.2.2.2.1, hb⟩, as0⟩
theorem op_fill {σ τ : xSt} (hR : RR σ τ) {a b : Int} (ha : xR a) (hb : b = 0 ∨ b = 1) : wp_X9_fill a b σ (fun r σ' => wp_X10_fill a b τ (fun r' τ' => r = r' ∧ RR σ' τ')) := by
  have hR2 := RR_th hR
  have gx := RR_g hR
  obtain ⟨N, n4, n5, n6, n7⟩ := RR_N hR
  obtain ⟨n1, n2, n3, e2, wy, pl, gw, gh, e8, hG, as0⟩ := id hR
  unfold wp_X9_fill
  refine sx_knows gx ha (br_n (fun c => ?_) (fun c => ?_))
  · have c' : 0 ≤ a ∧ a < N := ⟨c.1, by rw [n5]; exact c.2⟩
    have pb : ∀ i : Nat, (i : Int) ≤ τ 0 1 → -60 ≤ pX (τ 1) i ∧ pX (τ 1) i ≤ 60 ∧ -60 ≤ pY (τ 1) i ∧ pY (τ 1) i ≤ 60 := by
      intro i hi
      have q1 := pX_bd (τ 1) i
      have q2 := pY_bd (τ 1) i
      omega
    refine sx_follow gx (by omega) (by omega) c.1 c.2 (X := fun i => a % τ 0 5 + pX (τ 1) i) (Y := fun i => a / τ 0 5 + pY (τ 1) i) (fun i hi => ?_) (fun i hi => ?_) (fun hi s qs hw => ?_) (fun hi s qs => ?_)
    · have q1 := pl i (by omega)
      have q2 := pb i (by omega)
      rw [q1.1, gw]; exact ⟨rfl, q2.1, q2.2.1⟩
    · have q1 := pl i (by omega)
      have q2 := pb i (by omega)
      rw [q1.2, gw]; exact ⟨rfl, q2.2.2.1, q2.2.2.2⟩
    · rw [n1, gw, gh] at hi
      rw [n1, gw] at hw
      refine ⟨by omega, fun _ => ?_, fun q => absurd q (by omega)⟩
      intro k hk
      have go : (b = 0 ∨ (pX (τ 1) (τ 0 1).toNat = 0 ∧ pY (τ 1) (τ 0 1).toNat = 0)) → k := by
        intro hc
        refine hk ?_
        intro k2 hk2
        have fin : ∀ s2 : xSt, eqx [10, 11, 12, 14] σ s2 → (∀ g, g < N → s2 14 g = 0 ∨ s2 14 g = 1) → (∀ L, Lab N (fun g => g < N ∧ ¬ Wl (τ 0 5) (fun i => a % τ 0 5 + pX (τ 1) i) (fun i => a / τ 0 5 + pY (τ 1) i) (τ 0 1 + 1) g) (adj (τ 0 5) 0) L → ∀ g, g < N → (s2 14 g ≠ 0 ↔ (Wl (τ 0 5) (fun i => a % τ 0 5 + pX (τ 1) i) (fun i => a / τ 0 5 + pY (τ 1) i) (τ 0 1 + 1) g ∨ (b ≠ 0 ∧ ¬ Opn N (τ 0 5) (τ 0 6) L (L g))))) → k2 s2 := by
          intro s2 q2 hD hm
          have r7 : s2 7 = σ 7 := q2 7 (by decide)
          have r8 : s2 8 = σ 8 := q2 8 (by decide)
          have gs : GOk (s2 7 1) (s2 7 2) (s2 8) := by rw [r7, r8]; exact gx
          refine hk2 s2 (sx_pourInto gs (N := N) (by rw [r7]; exact n5) hD (fun u qu hu => ?_))
          have u7 : u 7 = σ 7 := (qu 7 (by decide)).trans r7
          have b8 : ∀ g, u 8 g = 0 ∨ u 8 g = 1 := by
            intro g
            rw [hu g]; split
            · exact Or.inr rfl
            · exact gs.2.2.2.2 g
          refine sx_heapSize (by rw [u7]; exact ⟨gx.1, gx.2.1, gx.2.2.1, gx.2.2.2.1, b8⟩) ?_
          have eN : (u 7 1 * u 7 2).toNat = N := by rw [u7]; omega
          rw [eN]
          refine sm_fill hG n4 wy n2 n3 c'.1 c'.2 (r01 hb) (X := fun i => a % τ 0 5 + pX (τ 1) i) (Y := fun i => a / τ 0 5 + pY (τ 1) i) (fun i => rfl) (fun i => rfl) (fun q => absurd hi q) (fun _ w1 w2 => absurd hc (fun q => q.elim w1 w2)) (fun _ _ t L qt hl ht => ?_)
          have e84 : u 8 = t 4 := by
            funext g
            rw [hu g, ht g, r8, e8]
            by_cases cg : g < N
            · rw [if_pos cg]
              have hmg := hm L hl g cg
              by_cases c5 : s2 14 g ≠ 0
              · rw [if_pos ⟨cg, c5⟩, cI_t (Or.inr (hmg.mp c5))]
              · rw [if_neg (fun q => c5 q.2)]
                rcases hG.2.2.2.2 g with q | q
                · rw [q, cI_f]
                  rintro (w | w)
                  · exact w rfl
                  · exact c5 (hmg.mpr w)
                · rw [q, cI_t (Or.inl (by omega))]
            · rw [if_neg cg, if_neg (fun q => cg q.1)]
          refine ⟨by rw [e84], RR_heap hR2 (eqx_tr (eqx_wk q2 (by simp)) (eqx_wk qu (by simp))) (eqx_wk qt (by simp)) e84 (fun f => by rw [← e84]; exact b8 f)⟩
        refine ⟨r01 hb, fun d => fin s (eqx_wk qs (by simp)) (fun g hg => by rw [hw g (by omega)]; exact cI_01 _) (fun L hl g hg => ?_), fun d => ?_⟩
        · rw [hw g (by omega), cI_nz]
          exact ⟨fun q => Or.inl q, fun q => q.elim id (fun w => absurd d w.1)⟩
        · have r7 : s 7 = σ 7 := qs 7 (by decide)
          have r8 : s 8 = σ 8 := qs 8 (by decide)
          refine sx_shutIn (by rw [r7, r8]; exact gx) (N := N) (by rw [r7]; exact n5) (fun g hg => by rw [hw g (by omega)]; exact cI_01 _) (fun s2 L' q2 hl' h14 => ?_)
          refine fin s2 (eqx_tr (eqx_wk qs (by simp)) (eqx_wk q2 (by simp))) (fun g hg => by rw [h14 g hg]; exact cI_01 _) (fun L hl g hg => ?_)
          have es : (fun g => g < N ∧ s 14 g = 0) = (fun g => g < N ∧ ¬ Wl (τ 0 5) (fun i => a % τ 0 5 + pX (τ 1) i) (fun i => a / τ 0 5 + pY (τ 1) i) (τ 0 1 + 1) g) := by
            funext g
            apply propext
            constructor
            · rintro ⟨w1, w2⟩
              rw [hw g (by omega)] at w2
              exact ⟨w1, cI_z.mp w2⟩
            · rintro ⟨w1, w2⟩
              exact ⟨w1, by rw [hw g (by omega)]; exact cI_z.mpr w2⟩
          rw [r7, gw, es] at hl'
          have eL : ∀ g, g < N → L' g = L g := fun g hg => Lab_u hl' hl hg
          rw [h14 g hg, cI_nz, r7, gw, gh, eL g hg, hw g (by omega), cI_nz]
          have oc := Opn_c (w := τ 0 5) (h := τ 0 6) (r := L g) eL
          exact ⟨fun q => q.elim Or.inl (fun w => Or.inr ⟨d, fun v => w (oc.mpr v)⟩), fun q => q.elim Or.inl (fun w => Or.inr (fun v => w.2 (oc.mp v)))⟩
      have r1 : s 1 = σ 1 := qs 1 (by decide)
      have r3 : s 3 = σ 3 := qs 3 (by decide)
      have r4 : s 4 = σ 4 := qs 4 (by decide)
      have en : (σ 1 3).toNat = (τ 0 1).toNat := by rw [n1]
      have pn := pl (τ 0 1).toNat (by omega)
      have pbn := pb (τ 0 1).toNat (by omega)
      have no : b ≠ 0 → ¬ (pX (τ 1) (τ 0 1).toNat = 0 ∧ pY (τ 1) (τ 0 1).toNat = 0) → wp_X10_fill a b τ (fun r' τ' => -1003 = r' ∧ RR s τ') := by
        intro d1 d2
        exact sm_fill hG n4 wy n2 n3 c'.1 c'.2 (r01 hb) (X := fun i => a % τ 0 5 + pX (τ 1) i) (Y := fun i => a / τ 0 5 + pY (τ 1) i) (fun i => rfl) (fun i => rfl) (fun q => absurd hi q) (fun _ _ _ t qt => ⟨rfl, RR_m (RR_x hR2 (eqx_wk qs (by simp))) (eqx_wk qt (by simp))⟩) (fun _ w => absurd w (fun q => q.elim d1 d2))
      refine ⟨r01 hb, fun d => go (Or.inl d), fun d => ?_⟩
      unfold wp_X6_comesBack
      refine sx_xOf (by rw [r1]; omega) (by omega) (by rw [r1]; omega) ?_
      rw [r1, r3, en, pn.1]
      refine ⟨by omega, fun q => ⟨by omega, fun w => absurd rfl w, fun _ => no d (fun w => q w.1)⟩, fun q => sx_yOf (by omega) (Int.le_of_eq (by rw [r1])) (by rw [r1]; omega) ?_⟩
      rw [r4, en, pn.2]
      exact ⟨by omega, fun q2 => ⟨by omega, fun w => absurd rfl w, fun _ => no d (fun w => q2 w.2)⟩, fun q2 => ⟨by omega, fun _ => go (Or.inr ⟨q, q2⟩), fun w => absurd w (by omega)⟩⟩
    · rw [n1, gw, gh] at hi
      refine ⟨by omega, fun q => absurd rfl q, fun _ => ?_⟩
      exact sm_fill hG n4 wy n2 n3 c'.1 c'.2 (r01 hb) (X := fun i => a % τ 0 5 + pX (τ 1) i) (Y := fun i => a / τ 0 5 + pY (τ 1) i) (fun i => rfl) (fun i => rfl) (fun _ t qt => ⟨rfl, RR_m (RR_x hR2 (eqx_wk qs (by simp))) (eqx_wk qt (by simp))⟩) (fun q => absurd q hi) (fun q => absurd q hi)
  · intro t e; subst e
    exact sm_noField (σ := xU τ 0 0 0) hG ha (br_z (fun d => absurd (fun q => c (by rw [gw, gh]; exact q)) d) (fun _ => ⟨rfl, hR2⟩))
