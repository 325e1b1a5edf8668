/-! hull, corner, heap, is -/
theorem both_R {X Y H : Nat → Int} {w h : Int} {L : List (Int × Int)} (h1 : sR X Y L) (h2 : mR w h H L) : ∀ i, i < L.length → H i = Y i * w + X i ∧ 0 ≤ X i ∧ X i < w ∧ 0 ≤ Y i ∧ Y i < h := by
  induction L with
  | nil => intro i hi; exact absurd hi (by simp)
  | cons t L ih =>
    obtain ⟨a1, a2, a3⟩ := h1
    obtain ⟨b1, b2, b3⟩ := h2
    intro i hi
    by_cases c : i < L.length
    · exact ih a3 b3 i c
    · have e : i = L.length := by rw [List.length_cons] at hi; omega
      rw [e, a1, a2]
      exact ⟨b1, b2⟩
theorem sR_B {X Y : Nat → Int} {w h : Int} {L : List (Int × Int)} (h1 : sR X Y L) (h2 : gB w h L) : ∀ i, i < L.length → 0 ≤ X i ∧ X i < w ∧ 0 ≤ Y i ∧ Y i < h := by
  induction L with
  | nil => intro i hi; exact absurd hi (by simp)
  | cons t L ih =>
    obtain ⟨a1, a2, a3⟩ := h1
    intro i hi
    by_cases c : i < L.length
    · exact ih a3 (fun q hq => h2 q (List.mem_cons_of_mem _ hq)) i c
    · have e : i = L.length := by rw [List.length_cons] at hi; omega
      rw [e, a1, a2]
      exact h2 t (by simp)
theorem sR_mem {X Y : Nat → Int} {L : List (Int × Int)} (h1 : sR X Y L) {q : Int × Int} (hq : q ∈ L) : ∃ i, i < L.length ∧ (X i, Y i) = q := by
  induction L with
  | nil => exact absurd hq (by simp)
  | cons t L ih =>
    obtain ⟨a1, a2, a3⟩ := h1
    rcases List.mem_cons.mp hq with e | e
    · exact ⟨L.length, by simp, by rw [a1, a2, e]⟩
    · obtain ⟨i, i1, i2⟩ := ih a3 e
      exact ⟨i, by rw [List.length_cons]; omega, i2⟩
theorem HU_P {w h : Int} {p : Nat → Int} (hG : GOk w h p) {X Y : Nat → Int} (h1 : sR X Y (HU w h p)) : ((HU w h p).length = 2 → ((X 0, Y 0) : Int × Int).1 ≤ ((X 1, Y 1) : Int × Int).1) ∧ (3 ≤ (HU w h p).length → ∃ i, i < (HU w h p).length ∧ ∃ j, j < (HU w h p).length ∧ ∃ k, k < (HU w h p).length ∧ sd (X i, Y i) (X j, Y j) (X k, Y k) ≠ 0) := by
  have ok := HU_ok hG
  refine ⟨fun e => ?_, fun e => ?_⟩
  · have ne : HU w h p ≠ [] := fun q => by rw [q] at e; exact absurd e (by simp)
    have b := sR_bo h1 ne
    have m := ok.2.2
    show X 0 ≤ X 1
    rw [b.1]
    cases eL : HU w h p with
    | nil => exact absurd eL ne
    | cons t L =>
      rw [eL] at h1 e m
      have e1 : L.length = 1 := by simp at e; omega
      have a := h1.1
      rw [e1] at a
      rw [a]
      exact m t (by simp)
  · obtain ⟨a, a1, b, b1, c, c1, ne⟩ := HU_3 hG e
    obtain ⟨i, i1, i2⟩ := sR_mem h1 a1
    obtain ⟨j, j1, j2⟩ := sR_mem h1 b1
    obtain ⟨k, k1, k2⟩ := sR_mem h1 c1
    exact ⟨i, i1, j, j1, k, k1, by rw [i2, j2, k2]; exact ne⟩
theorem sm_lacks {τ : xSt} {Post : Int → xSt → Prop} (hG : GOk (τ 0 5) (τ 0 6) (τ 4)) {N : Nat} (hN : (N : Int) = τ 0 5 * τ 0 6) {X Y : Nat → Int} (h1 : sR X Y (HU (τ 0 5) (τ 0 6) (τ 4))) (hp : ∀ s', eqx [9] τ s' → Post (sI (fun f => cI (τ 4 f = 0 ∧ Cov (HU (τ 0 5) (τ 0 6) (τ 4)).length (fun i => (X i, Y i)) ((f : Int) % τ 0 5, (f : Int) / τ 0 5))) N) s') : wp_X10_lacks τ Post := by
  have hN1 := hG.N
  have ok := HU_ok hG
  have hH := HU_P hG h1
  unfold wp_X10_lacks
  refine sm_corners hG (fun t qt hm => ?_)
  have t0 : t 0 = τ 0 := qt 0 (by decide)
  have t4 : t 4 = τ 4 := qt 4 (by decide)
  have gt : GOk (t 0 5) (t 0 6) (t 4) := by rw [t0, t4]; exact hG
  have br := both_R h1 hm
  generalize eL : (HU (τ 0 5) (τ 0 6) (τ 4)).length = n at *
  intro k hk
  have key := lpU (P := fun x => 0 ≤ x → k (sI (fun f => cI (τ 4 f = 0 ∧ Cov n (fun i => (X i, Y i)) ((f : Int) % τ 0 5, (f : Int) / τ 0 5))) x.toNat) x) (N : Int) (fun x hx ih x0 => ?_) 0 (by omega) (by omega)
  · exact key
  · refine hk _ x (sm_fields ?_)
    rw [t0, ← hN, t4]
    refine ⟨by omega, by omega, fun c => ?_, fun c => ⟨by omega, ?_⟩⟩
    · have ex : x.toNat = N := by omega
      rw [ex]; exact hp t qt
    · have ex : ((x.toNat : Nat) : Int) = x := by omega
      have st := ih (x + 1) (by omega) (by omega) (by omega)
      rw [sI_s _ x0, ex] at st
      have ce := cov_eq (n := n) (P := fun i => (X i, Y i)) (x % τ 0 5, x / τ 0 5) hH.1 hH.2
      refine ⟨r01 (hG.2.2.2.2 _), fun d => ?_, fun d => ?_⟩
      · rw [cI_f (fun q => d q.1)] at st; exact st
      · refine sm_inHull gt (n := n) (by omega) (P := fun i => (X i, Y i)) (fun i hi => by rw [t0]; exact br i hi) x0 (by rw [t0]; omega) ?_
        rw [t0, ← cI_c ce]
        refine ⟨r01 (cI_01 _), fun q => ?_, fun q => ?_⟩
        · rw [cI_f (fun w => cI_z.mp q w.2)] at st; exact st
        · rw [cI_t ⟨d, cI_nz.mp q⟩] at st; exact st
theorem op_hull {σ τ : xSt} (hR : RR σ τ) : wp_X9_hull σ (fun r σ' => wp_X10_hull τ (fun r' τ' => r = r' ∧ RR σ' τ')) := by
  have hR2 := RR_th hR
  have gx := RR_g hR
  obtain ⟨n1, n2, n3, e2, wy, pl, gw, gh, e8, hG, as0⟩ := id hR
  refine sx_wrap gx (fun s qs hs => ?_)
  rw [gw, gh, e8] at hs
  show wp_X10_hull τ (fun r' τ' => s 15 2 = r' ∧ RR s τ')
  rw [hs.1]
  intro t e; subst e
  exact sm_corners (σ := xU τ 0 0 0) hG (fun t qt _ => ⟨rfl, RR_m (RR_x hR2 (eqx_wk qs (by simp))) (eqx_wk qt (by simp))⟩)
theorem op_corner {σ τ : xSt} (hR : RR σ τ) {a : Int} (ha : xR a) : wp_X9_corner a σ (fun r σ' => wp_X10_corner a τ (fun r' τ' => r = r' ∧ RR σ' τ')) := by
  have hR2 := RR_th hR
  have gx := RR_g hR
  obtain ⟨n1, n2, n3, e2, wy, pl, gw, gh, e8, hG, as0⟩ := id hR
  refine sx_wrap gx (fun s qs hs => ?_)
  rw [gw, gh, e8] at hs
  have ok := HU_ok hG
  have bB := sR_B hs.2 ok.1
  have hn := hs.1
  have s7 : s 7 = σ 7 := qs 7 (by decide)
  have s8 : s 8 = σ 8 := qs 8 (by decide)
  have gs : GOk (s 7 1) (s 7 2) (s 8) := by rw [s7, s8]; exact gx
  have ref : ∀ r : Int, ((a < 0 ∨ (HU (τ 0 5) (τ 0 6) (τ 4)).length ≤ a) → r = -999) → (0 ≤ a → a < (HU (τ 0 5) (τ 0 6) (τ 4)).length → r = s 17 a.toNat * τ 0 5 + s 16 a.toNat) → wp_X10_corner a τ (fun r' τ' => r = r' ∧ RR s τ') := by
    intro r r1 r2 t e; subst e
    refine sm_corners (σ := xU τ 0 0 0) hG (fun t qt hm => ⟨ha, ?_, ?_⟩)
    · have := ok.2.1
      show xR (((HU (τ 0 5) (τ 0 6) (τ 4)).length : Int) - 1)
      omega
    · have hm' : mR (τ 0 5) (τ 0 6) (t 9) (HU (τ 0 5) (τ 0 6) (τ 4)) := hm
      have hR3 : RR s t := RR_m (RR_x hR2 (eqx_wk qs (by simp))) (eqx_wk qt (by simp))
      have br := both_R hs.2 hm'
      have l24 := ok.2.1
      show wp_X10_in a 0 (((HU (τ 0 5) (τ 0 6) (τ 4)).length : Int) - 1) t _
      generalize (HU (τ 0 5) (τ 0 6) (τ 4)).length = n at *
      refine sm_in ha (by omega) (by omega) (br_z (fun c => ⟨r1 (by omega), hR3⟩) (fun c => ⟨by omega, ?_, hR3⟩))
      rw [r2 (by omega) (by omega), (br a.toNat (by omega)).1]
  refine ⟨ha, fun c => ref _ (fun _ => rfl) (fun q => absurd q (by omega)), fun c => ?_⟩
  show xR a ∧ xR (s 15 2) ∧ _ ∧ _
  have l24 := ok.2.1
  rw [hn]
  refine ⟨ha, by omega, fun d => ref _ (fun _ => rfl) (fun _ q => absurd q (by omega)), fun d => ?_⟩
  unfold wp_X3_fieldOf
  rw [hn]
  have b := bB a.toNat (by omega)
  refine ⟨ha, fun q => absurd q (by omega), fun _ => ⟨ha, by omega, fun q => absurd q (by omega), fun _ => ⟨by omega, by omega, sx_fieldAt gs (by have := hG.2.1; omega) (by have := hG.2.2.2.1; omega) ?_⟩⟩⟩
  rw [s7, gw, gh, if_pos ⟨b.1, b.2.1, b.2.2.1, b.2.2.2⟩]
  exact ref _ (fun q => absurd q (by omega)) (fun _ _ => rfl)
theorem sx_lackN {σ τ s : xSt} (hR : RR σ τ) {N : Nat} (hN : (N : Int) = σ 7 1 * σ 7 2) (qs : eqx [15, 16, 17] σ s) (hs : cR s (HU (τ 0 5) (τ 0 6) (τ 4))) {Post : Int → Prop} (hp : Post (sI (fun f => cI (τ 4 f = 0 ∧ Cov (HU (τ 0 5) (τ 0 6) (τ 4)).length (fun i => (s 16 i, s 17 i)) ((f : Int) % τ 0 5, (f : Int) / τ 0 5))) N)) : wp_X3_lacks s Post := by
  have gx := RR_g hR
  obtain ⟨n1, n2, n3, e2, wy, pl, gw, gh, e8, hG, as0⟩ := id hR
  have ok := HU_ok hG
  have bB := sR_B hs.2 ok.1
  have s7 : s 7 = σ 7 := qs 7 (by decide)
  have s8 : s 8 = σ 8 := qs 8 (by decide)
  refine sx_lacks (by rw [s7, s8]; exact gx) (N := N) (by rw [s7]; exact hN) hs.1 ok.2.1 (fun i hi => by
    have b := bB i hi
    have g2 := hG.2.1
    have g4 := hG.2.2.2.1
    omega) ?_
  rw [s7, s8, gw, e8]
  exact hp
theorem lackR {w : Int} {p : Nat → Int} {X Y : Nat → Int} {n N : Nat} (hN : N ≤ 144) : xR (sI (fun f => cI (p f = 0 ∧ Cov n (fun i => (X i, Y i)) ((f : Int) % w, (f : Int) / w))) N) := by
  have := sI_01 (p := fun f => cI (p f = 0 ∧ Cov n (fun i => (X i, Y i)) ((f : Int) % w, (f : Int) / w))) (fun f => cI_01 _) N
  omega
theorem op_heap {σ τ : xSt} (hR : RR σ τ) {a : Int} (ha : xR a) : wp_X9_heap a σ (fun r σ' => wp_X10_heap a τ (fun r' τ' => r = r' ∧ RR σ' τ')) := by
  have hR2 := RR_th hR
  have gx := RR_g hR
  obtain ⟨N, n4, n5, n6, n7⟩ := RR_N hR
  obtain ⟨n1, n2, n3, e2, wy, pl, gw, gh, e8, hG, as0⟩ := id hR
  have eN : (τ 0 5 * τ 0 6).toNat = N := by omega
  have eN2 : (σ 7 1 * σ 7 2).toNat = N := by omega
  have ref : ∀ (r : Int) (σ' : xSt), (a = 0 → wp_X10_many (xU τ 0 0 0) (fun r' => r = r' ∧ RR σ' (xU τ 0 0 0))) → (a = 1 → wp_X10_parts (xU τ 0 0 0) (fun r' τ' => r = r' ∧ RR σ' τ')) → (a = 2 → wp_X10_holes (xU τ 0 0 0) (fun r' τ' => r = r' ∧ RR σ' τ')) → (a = 3 → wp_X10_rims (xU τ 0 0 0) (fun r' => r = r' ∧ RR σ' (xU τ 0 0 0))) → (a = 4 → wp_X10_lacks (xU τ 0 0 0) (fun r' τ' => r = r' ∧ RR σ' τ')) → (a < 0 ∨ 4 < a → -1002 = r ∧ RR σ' (xU τ 0 0 0)) → wp_X10_heap a τ (fun r' τ' => r = r' ∧ RR σ' τ') := by
    intro r σ' r0 r1 r2 r3 r4 r5 t e; subst e
    exact ⟨ha, r0, r1, r2, r3, r4, fun q => ⟨(r5 q).1.symm, (r5 q).2⟩⟩
  unfold wp_X9_heap
  refine ⟨ha, fun c => sx_heapSize gx ?_, fun c => ?_, fun c => ?_, fun c => sx_rims gx n5 ?_, fun c => sx_wrap gx (fun s qs hs => ?_), fun c => ?_⟩
  · refine ref _ _ (fun _ => sm_many (σ := xU τ 0 0 0) hG ⟨?_, hR2⟩) (by omega) (by omega) (by omega) (by omega) (by omega)
    show sI (σ 8) (σ 7 1 * σ 7 2).toNat = sI (τ 4) (τ 0 5 * τ 0 6).toNat
    rw [e8, gw, gh]
  · show wp_X4_split 8 1 1 σ _
    refine sx_split (by decide) (by decide) gx n5 (fun g _ => gx.2.2.2.2 g) (by omega) (by omega) (fun s qs hl => ?_)
    refine ref _ _ (by omega) (fun _ => sm_parts (τ := xU τ 0 0 0) hG n4 (fun t qt hl' => ⟨?_, RR_m (RR_x hR2 (eqx_wk qs (by simp))) (eqx_wk qt (by simp))⟩)) (by omega) (by omega) (by omega) (by omega)
    have e : (fun g => g < N ∧ (((1 : Int) = 0 ∧ (xU τ 0 0 0) 5 g = 0) ∨ ((1 : Int) ≠ 0 ∧ (xU τ 0 0 0) 4 g ≠ 0))) = (fun g => g < N ∧ σ 8 g = 1) := by
      funext g
      show (g < N ∧ (((1 : Int) = 0 ∧ τ 5 g = 0) ∨ ((1 : Int) ≠ 0 ∧ τ 4 g ≠ 0))) = _
      rw [e8]
      have := hG.2.2.2.2 g
      apply propext
      constructor
      · rintro ⟨q1, (q2 | q2)⟩
        · omega
        · exact ⟨q1, this.resolve_left q2.2⟩
      · rintro ⟨q1, q2⟩
        exact ⟨q1, Or.inr ⟨by omega, by omega⟩⟩
    rw [e] at hl'
    have hl2 : Lab N (fun g => g < N ∧ σ 8 g = 1) (adj (σ 7 1) 1) (t 6) := by rw [gw]; exact hl'
    exact sI_c (fun i hi => by rw [Lab_u hl hl2 hi])
  · show wp_X4_split 8 0 0 σ _
    refine sx_split (by decide) (by decide) gx n5 (fun g _ => gx.2.2.2.2 g) (by omega) (by omega) (fun s qs hl => ?_)
    have s7 : s 7 = σ 7 := qs 7 (by decide)
    have s8 : s 8 = σ 8 := qs 8 (by decide)
    refine sx_shutParts (by rw [s7, s8]; exact gx) (N := N) (by rw [s7]; exact n5) (fun g hg => Lab_bd hl hg) (fun u qu => ?_)
    refine ref _ _ (by omega) (by omega) (fun _ => sm_holes (τ := xU τ 0 0 0) hG n4 (fun t qt hl' => ⟨?_, RR_m (RR_x hR2 (eqx_tr (eqx_wk qs (by simp)) (eqx_wk qu (by simp)))) (eqx_wk qt (by simp))⟩)) (by omega) (by omega) (by omega)
    have hl2 : Lab N (fun g => g < N ∧ σ 8 g = 0) (adj (σ 7 1) 0) (t 6) := by rw [gw, e8]; exact hl'
    refine sI_c (fun i hi => cI_c ?_)
    have eu : ∀ g, g < N → s 10 g = t 6 g := fun g hg => Lab_u hl hl2 hg
    rw [eu i hi, s7, gw, gh, Opn_c eu]
    exact Iff.rfl
  · refine ref _ _ (by omega) (by omega) (by omega) (fun _ => sm_rims (σ := xU τ 0 0 0) hG n4 ⟨?_, hR2⟩) (by omega) (by omega)
    show sI (rM (σ 7 1) (σ 7 2) (σ 8)) N = sI (rM (τ 0 5) (τ 0 6) (τ 4)) N
    rw [e8, gw, gh]
  · rw [gw, gh, e8] at hs
    refine sx_lackN hR n5 qs hs ?_
    exact ref _ _ (by omega) (by omega) (by omega) (by omega) (fun _ => sm_lacks (τ := xU τ 0 0 0) hG n4 hs.2 (fun t qt => ⟨rfl, RR_m (RR_x hR2 (eqx_wk qs (by simp))) (eqx_wk qt (by simp))⟩)) (by omega)
  · exact ref _ _ (by omega) (by omega) (by omega) (by omega) (by omega) (fun _ => ⟨rfl, hR2⟩)
theorem op_is {σ τ : xSt} (hR : RR σ τ) {a : Int} (ha : xR a) : wp_X9_is a σ (fun r σ' => wp_X10_is a τ (fun r' τ' => r = r' ∧ RR σ' τ')) := by
  have hR2 := RR_th hR
  have gx := RR_g hR
  obtain ⟨N, n4, n5, n6, n7⟩ := RR_N hR
  obtain ⟨n1, n2, n3, e2, wy, pl, gw, gh, e8, hG, as0⟩ := id hR
  unfold wp_X9_is
  intro k hk
  refine ⟨ha, fun c => sx_wrap gx (fun s qs hs => ?_), fun c => sx_hasStairs gx ?_, fun c => sx_find gx n5 (fun h => ?_) (fun hn x y hf s qs q0 q1 q2 => ?_), fun c => ?_⟩
  · rw [gw, gh, e8] at hs
    refine sx_lackN hR n5 qs hs ?_
    have go : ∀ r : Int, (r = 0 ∨ r = 1) → (r ≠ 0 ↔ sI (fun f => cI (τ 4 f = 0 ∧ Cov (HU (τ 0 5) (τ 0 6) (τ 4)).length (fun i => (s 16 i, s 17 i)) ((f : Int) % τ 0 5, (f : Int) / τ 0 5))) N = 0) → wp_X10_is a τ (fun r' τ' => r = r' ∧ RR s τ') := by
      intro r hr hri t e; subst e
      refine ⟨ha, fun _ => sm_lacks (τ := xU τ 0 0 0) hG n4 hs.2 (fun t qt => ?_), fun q => absurd q (by omega), fun q => absurd q (by omega), fun q => absurd q (by omega)⟩
      have hR3 : RR s t := RR_m (RR_x hR2 (eqx_wk qs (by simp))) (eqx_wk qt (by simp))
      refine ⟨lackR n7, fun q => ⟨?_, hR3⟩, fun q => ⟨?_, hR3⟩⟩
      · rcases hr with e | e
        · exact e
        · exact absurd (hri.mp (by omega)) q
      · exact hr.resolve_left (hri.mpr q)
    refine ⟨lackR n7, fun q => hk 0 s ⟨by omega, fun _ => go 0 (Or.inl rfl) ⟨fun w => absurd rfl w, fun w => absurd w q⟩, fun w => absurd rfl w⟩, fun q => hk 1 s ⟨by omega, fun w => absurd w (by omega), fun _ => go 1 (Or.inr rfl) ⟨fun _ => q, fun _ => by omega⟩⟩⟩
  · rw [gw, gh, e8]
    have go : ∀ r : Int, r = cI (Sts (τ 0 5) (τ 0 6) (τ 4)) → wp_X10_is a τ (fun r' τ' => r = r' ∧ RR σ τ') := by
      intro r hr t e; subst e
      refine ⟨ha, fun q => absurd q (by omega), fun _ => sm_hasStairs (σ := xU τ 0 0 0) hG ?_, fun q => absurd q (by omega), fun q => absurd q (by omega)⟩
      show xR (cI (Sts (τ 0 5) (τ 0 6) (τ 4))) ∧ (cI (Sts (τ 0 5) (τ 0 6) (τ 4)) = 0 → r = 0 ∧ RR σ (xU τ 0 0 0)) ∧ (cI (Sts (τ 0 5) (τ 0 6) (τ 4)) ≠ 0 → r = 1 ∧ RR σ (xU τ 0 0 0))
      exact ⟨r01 (cI_01 _), fun q => ⟨hr.trans q, hR2⟩, fun q => ⟨hr.trans ((cI_01 _).resolve_left q), hR2⟩⟩
    exact hk _ σ ⟨r01 (cI_01 _), fun q => go 0 q.symm, fun q => go 1 ((cI_01 _).resolve_left q).symm⟩
  · rw [gw, gh, e8] at h
    refine hk 0 σ ⟨by omega, fun _ => ?_, fun w => absurd rfl w⟩
    intro t e; subst e
    refine ⟨ha, fun q => absurd q (by omega), fun q => absurd q (by omega), fun _ => sm_isDisc (σ := xU τ 0 0 0) hG n4 (fun _ => ⟨by omega, fun _ => ⟨rfl, hR2⟩, fun w => absurd rfl w⟩) (fun hn' x' y' hf' => ?_), fun q => absurd q (by omega)⟩
    exfalso
    rcases h with q | q
    · exact hn' q
    · exact q x' y' hf'.1 hf'.2.1 hf'.2.2.1 hf'.2.2.2.1 hf'.2.2.2.2.1
  · rw [gw, gh, e8] at hf
    rw [e8] at hn
    have hR3 : RR s (xU τ 0 0 0) := RR_x hR2 (eqx_wk qs (by simp))
    refine hk 1 s ⟨by omega, fun w => absurd w (by omega), fun _ => ?_⟩
    intro t e; subst e
    refine ⟨ha, fun q => absurd q (by omega), fun q => absurd q (by omega), fun _ => sm_isDisc (σ := xU τ 0 0 0) hG n4 (fun h => ?_) (fun hn' x' y' hf' => ?_), fun q => absurd q (by omega)⟩
    · exfalso
      rcases h with q | q
      · exact hn q
      · exact q x y hf.1 hf.2.1 hf.2.2.1 hf.2.2.2.1 hf.2.2.2.2.1
    · exact ⟨by omega, fun w => absurd w (by omega), fun _ => ⟨rfl, RR_of hR3 rfl rfl rfl rfl rfl rfl rfl rfl rfl rfl rfl rfl rfl⟩⟩
  · intro t e; subst e
    exact ⟨ha, fun q => absurd q (by omega), fun q => absurd q (by omega), fun q => absurd q (by omega), fun _ => ⟨rfl, hR2⟩⟩
