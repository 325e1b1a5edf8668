/-! loose fields, thinning -/
theorem loose_q0 : ∀ m : Nat, m < 256 → (lG (m : Int) = 0 ∨ lG (m : Int) = 1) ∧ (lG (m : Int) = 1 ↔ sI (gct 1 (grq 1 9 (g0 1 m))) 9 = 1 ∧ sI (gct 0 (grq 0 9 (g0 0 m))) 9 = 1) := by decide +kernel
theorem loose_eq {m : Nat} (h : m < 256) : (lG (m : Int) = 0 ∨ lG (m : Int) = 1) ∧ (lG (m : Int) = 1 ↔ gC 1 m = 1 ∧ gC 0 m = 1) := by
  have := loose_q0 m h
  unfold gC
  rw [grq_e, grq_e]
  exact this
theorem gC_R (a : Int) (m : Nat) : 0 ≤ gC a m ∧ gC a m ≤ 9 := by
  have := sI_bd (g := gct a (grl a 9 (g0 a m))) (n := 9) (a := 0) (b := 1) (fun i _ => by unfold gct; split <;> omega)
  unfold gC
  omega
theorem pc_R (m : Nat) : 0 ≤ pc m ∧ pc m ≤ 9 := by
  have := sI_bd (g := fun i => if i = 4 then 0 else bt m i) (n := 9) (a := 0) (b := 1) (fun i _ => by
    have := bt_01 m i
    show 0 ≤ (if i = 4 then 0 else bt m i) ∧ (if i = 4 then 0 else bt m i) ≤ 1
    split <;> omega)
  unfold pc
  omega
theorem bc_8 : ∀ m : Nat, m < 256 → bc (m : Int) = pc m := by decide +kernel
theorem an_85 : ∀ m : Nat, m < 256 → (xAnd (m : Int) 85 = 85 ↔ (m / 2 ^ 0 % 2 = 1 ∧ m / 2 ^ 2 % 2 = 1 ∧ m / 2 ^ 4 % 2 = 1 ∧ m / 2 ^ 6 % 2 = 1)) := by decide +kernel
theorem bsum : ∀ m : Nat, m < 256 → m = m / 2 ^ 0 % 2 + 2 * (m / 2 ^ 1 % 2) + 4 * (m / 2 ^ 2 % 2) + 8 * (m / 2 ^ 3 % 2) + 16 * (m / 2 ^ 4 % 2) + 32 * (m / 2 ^ 5 % 2) + 64 * (m / 2 ^ 6 % 2) + 128 * (m / 2 ^ 7 % 2) := by decide +kernel
theorem eB_u {w h : Int} {p : Nat → Int} {f : Int} {m m' : Nat} (h1 : eB w h p f m) (h2 : eB w h p f m') : m = m' := by
  have q : ∀ j : Nat, j < 8 → m / 2 ^ j % 2 = m' / 2 ^ j % 2 := by
    intro j hj
    have a := h1.2 j hj
    have b := h2.2 j hj
    rw [a] at b
    exact Int.ofNat.inj b
  rw [bsum m h1.1, bsum m' h2.1, q 0 (by omega), q 1 (by omega), q 2 (by omega), q 3 (by omega), q 4 (by omega), q 5 (by omega), q 6 (by omega), q 7 (by omega)]
theorem eB_ex {w h : Int} {p : Nat → Int} (hG : GOk w h p) (f : Int) : ∃ m : Nat, eB w h p f m := by
  have key : ∀ n : Nat, n ≤ 8 → ∃ m : Nat, m < 2 ^ n ∧ ∀ j : Nat, j < n → aV w h p (f % w + xRt j) (f / w + xUp j) = ((m / 2 ^ j % 2 : Nat) : Int) := by
    intro n
    induction n with
    | zero => exact fun _ => ⟨0, by decide, fun j hj => absurd hj (by omega)⟩
    | succ n ih =>
      intro hn
      obtain ⟨m, m1, m2⟩ := ih (by omega)
      have p8 := pw_8 (w := n) (by omega)
      have o2 := fun (j : Nat) (hj : j < n) => or_2 ⟨n, by omega⟩ ⟨m, by omega⟩ m1 ⟨j, by omega⟩ hj
      have o3 := or_3 ⟨n, by omega⟩ ⟨m, by omega⟩ m1
      simp only at o2 o3
      rcases aV_01 hG (f % w + xRt n) (f / w + xUp n) with d | d
      · refine ⟨m, by omega, fun j hj => ?_⟩
        by_cases cj : j < n
        · exact m2 j cj
        · have ej : j = n := by omega
          rw [ej, d, o3.2]; rfl
      · refine ⟨m + 2 ^ n, by omega, fun j hj => ?_⟩
        by_cases cj : j < n
        · rw [o2 j cj]; exact m2 j cj
        · have ej : j = n := by omega
          rw [ej, d, o3.1]; rfl
  obtain ⟨m, m1, m2⟩ := key 8 (by omega)
  exact ⟨m, m1, m2⟩
theorem sm_isLoose {σ : xSt} {Post : Int → xSt → Prop} (hG : GOk (σ 0 5) (σ 0 6) (σ 4)) {f : Int} (f0 : 0 ≤ f) (f1 : f < σ 0 5 * σ 0 6) {m : Nat} (hm : eB (σ 0 5) (σ 0 6) (σ 4) f m) (hp : ∀ s', eqx [10, 11] σ s' → Post (if σ 4 f.toNat ≠ 0 ∧ lG (m : Int) = 1 then 1 else 0) s') : wp_X10_isLoose f σ Post := by
  have hN1 := hG.N
  unfold wp_X10_isLoose
  refine sm_look hG f0 f1 hm (fun s qs hs => ?_)
  have s4 : s 4 = σ 4 := qs 4 (by decide)
  have le := loose_eq hm.1
  have r0 := gC_R 0 m
  have r1 := gC_R 1 m
  rw [s4]
  refine ⟨by omega, r01 (hG.2.2.2.2 _), fun c => ?_, fun c => sm_groups (Or.inr rfl) hs (fun t qt => ⟨by omega, fun d => ?_, fun d => sm_groups (Or.inl rfl) (m := m) (fun i hi i4 => by rw [qt 10 (by decide)]; exact hs i hi i4) (fun u qu => ⟨by omega, fun e => ?_, fun e => ?_⟩)⟩)⟩
  · have h := hp s (eqx_wk qs (by simp))
    rw [if_neg (fun q => q.1 c)] at h; exact h
  · have h := hp t (eqx_tr (eqx_wk qs (by simp)) (eqx_wk qt (by simp)))
    rw [if_neg (fun q => d (le.2.mp q.2).1)] at h; exact h
  · have h := hp u (eqx_tr (eqx_wk qs (by simp)) (eqx_tr (eqx_wk qt (by simp)) (eqx_wk qu (by simp))))
    rw [if_neg (fun q => e (le.2.mp q.2).2)] at h; exact h
  · have h := hp u (eqx_tr (eqx_wk qs (by simp)) (eqx_tr (eqx_wk qt (by simp)) (eqx_wk qu (by simp))))
    rw [if_pos ⟨c, le.2.mpr ⟨d, e⟩⟩] at h; exact h
theorem op_loose {σ τ : xSt} (hR : RR σ τ) {a : Int} (ha : xR a) : wp_X9_loose a σ (fun r => wp_X10_loose a τ (fun r' τ' => r = r' ∧ RR σ τ')) := by
  have hR2 := RR_th hR
  have gx := RR_g hR
  obtain ⟨n1, n2, n3, e2, wy, pl, gw, gh, e8, hG, as0⟩ := id hR
  have hN1 := hG.N
  unfold wp_X9_loose
  refine sx_knows gx ha (br_n (fun c => ?_) (fun c => ?_))
  · unfold wp_X7_isLoose
    have c' : 0 ≤ a ∧ a < τ 0 5 * τ 0 6 := by rw [← gw, ← gh]; exact c
    obtain ⟨m, hm⟩ := eB_ex hG a
    have le := loose_eq hm.1
    have ref : ∀ r : Int, r = (if τ 4 a.toNat ≠ 0 ∧ lG (m : Int) = 1 then 1 else 0) → wp_X10_loose a τ (fun r' τ' => r = r' ∧ RR σ τ') := by
      intro r hr t e; subst e
      refine sm_noField (σ := xU τ 0 0 0) hG ha (br_z (fun _ => ?_) (fun d => absurd c' d))
      refine sm_isLoose (σ := xU τ 0 0 0) hG c'.1 c'.2 hm (fun s' q' => ?_)
      have hr' : r = (if (xU τ 0 0 0) 4 a.toNat ≠ 0 ∧ lG (m : Int) = 1 then 1 else 0) := hr
      have hR3 : RR σ s' := RR_m hR2 (eqx_wk q' (by simp))
      by_cases cc : (xU τ 0 0 0) 4 a.toNat ≠ 0 ∧ lG (m : Int) = 1
      · rw [if_pos cc] at hr' ⊢
        exact ⟨by omega, fun q => absurd q (by omega), fun _ => ⟨hr', hR3⟩⟩
      · rw [if_neg cc] at hr' ⊢
        exact ⟨by omega, fun _ => ⟨hr', hR3⟩, fun q => absurd rfl q⟩
    refine sx_holds gx ha ?_
    rw [hV_in c.1 c.2, e8]
    refine ⟨r01 (hG.2.2.2.2 _), fun d => ⟨by omega, fun _ => ref 0 (by rw [if_neg (fun q => q.1 d)]), fun q => absurd rfl q⟩, fun d => sx_eight gx c.1 c.2 (fun m' hm' => ?_)⟩
    rw [gw, gh, e8] at hm'
    have em := eB_u hm hm'
    subst em
    refine sx_letGo (by have := hm.1; omega) ⟨r01 le.1, fun q => ⟨by omega, fun _ => ref 0 (by rw [if_neg (fun w => absurd w.2 (by omega))]), fun q => absurd rfl q⟩, fun q => ⟨by omega, fun w => absurd w (by omega), fun _ => ref 1 (by rw [if_pos ⟨d, le.1.resolve_left q⟩])⟩⟩
  · intro t e; subst e
    exact sm_noField (σ := xU τ 0 0 0) hG ha (br_z (fun d => absurd (fun q => c (by rw [gw, gh]; exact q)) d) (fun _ => ⟨rfl, hR2⟩))
/-! one thinning -/
def Out (w h : Int) (p : Nat → Int) (g : Nat) : Prop := p g ≠ 0 ∧ ¬ (aV w h p ((g : Int) % w + 1) ((g : Int) / w) ≠ 0 ∧ aV w h p ((g : Int) % w) ((g : Int) / w + 1) ≠ 0 ∧ aV w h p ((g : Int) % w - 1) ((g : Int) / w) ≠ 0 ∧ aV w h p ((g : Int) % w) ((g : Int) / w - 1) ≠ 0)
def Tk (w h : Int) (p0 p : Nat → Int) (g : Nat) : Prop := Out w h p0 g ∧ ∃ m : Nat, eB w h p (g : Int) m ∧ pc m ≠ 1 ∧ lG (m : Int) = 1
noncomputable def thP (w h : Int) (p0 : Nat → Int) : Nat → Nat → Int
  | 0 => p0
  | n + 1 => fun i => if i = n ∧ cI (Tk w h p0 (thP w h p0 n) n) = 1 then 0 else thP w h p0 n i
noncomputable def thC (w h : Int) (p0 : Nat → Int) : Nat → Int
  | 0 => 0
  | n + 1 => thC w h p0 n + cI (Tk w h p0 (thP w h p0 n) n)
theorem thP_n (w h : Int) (p0 : Nat → Int) {n i : Nat} (hi : n ≤ i) : thP w h p0 n i = p0 i := by
  induction n with
  | zero => rfl
  | succ n ih =>
    show (if i = n ∧ _ then 0 else thP w h p0 n i) = p0 i
    rw [if_neg (fun q => absurd q.1 (by omega))]
    exact ih (by omega)
theorem thP_01 {w h : Int} {p0 : Nat → Int} (hG : GOk w h p0) (n : Nat) : GOk w h (thP w h p0 n) := by
  refine ⟨hG.1, hG.2.1, hG.2.2.1, hG.2.2.2.1, ?_⟩
  induction n with
  | zero => exact hG.2.2.2.2
  | succ n ih =>
    intro i
    show (if i = n ∧ _ then 0 else thP w h p0 n i) = 0 ∨ (if i = n ∧ _ then 0 else thP w h p0 n i) = 1
    split
    · exact Or.inl rfl
    · exact ih i
theorem thC_bd (w h : Int) (p0 : Nat → Int) (n : Nat) : 0 ≤ thC w h p0 n ∧ thC w h p0 n ≤ n := by
  induction n with
  | zero => exact ⟨Int.le_refl _, Int.le_refl _⟩
  | succ n ih =>
    have := cI_01 (Tk w h p0 (thP w h p0 n) n)
    show 0 ≤ thC w h p0 n + _ ∧ thC w h p0 n + _ ≤ _
    omega
theorem th_sz {w h : Int} {p0 : Nat → Int} (hG : GOk w h p0) {N n : Nat} (hn : n ≤ N) : sI (thP w h p0 n) N = sI p0 N - thC w h p0 n := by
  induction n with
  | zero => show sI p0 N = sI p0 N - 0; omega
  | succ n ih =>
    have ih' := ih (by omega)
    have g := hG.2.2.2.2 n
    by_cases c : Tk w h p0 (thP w h p0 n) n
    · have e : thP w h p0 (n + 1) = fun i => if i = n then 0 else thP w h p0 n i := by
        funext i
        show (if i = n ∧ _ then 0 else thP w h p0 n i) = _
        rw [cI_t c]
        by_cases ci : i = n
        · rw [if_pos ⟨ci, rfl⟩, if_pos ci]
        · rw [if_neg (fun q => ci q.1), if_neg ci]
      rw [e, sI_up (by omega) 0, ih', thP_n w h p0 (Nat.le_refl n)]
      have p1 : p0 n = 1 := g.resolve_left c.1.1
      show _ = sI p0 N - (thC w h p0 n + _)
      rw [cI_t c]
      omega
    · have e : thP w h p0 (n + 1) = thP w h p0 n := by
        funext i
        show (if i = n ∧ _ then 0 else thP w h p0 n i) = _
        rw [cI_f c, if_neg (fun q => absurd q.2 (by omega))]
      rw [e, ih']
      show _ = sI p0 N - (thC w h p0 n + _)
      rw [cI_f c]
      omega
theorem th_t {w h : Int} {p0 : Nat → Int} {n : Nat} (c : Tk w h p0 (thP w h p0 n) n) : (∀ i, thP w h p0 (n + 1) i = if i = n then 0 else thP w h p0 n i) ∧ thC w h p0 (n + 1) = thC w h p0 n + 1 := by
  constructor
  · intro i
    show (if i = n ∧ _ then 0 else thP w h p0 n i) = _
    rw [cI_t c]
    by_cases ci : i = n
    · rw [if_pos ⟨ci, rfl⟩, if_pos ci]
    · rw [if_neg (fun q => ci q.1), if_neg ci]
  · show thC w h p0 n + _ = _
    rw [cI_t c]
theorem th_f {w h : Int} {p0 : Nat → Int} {n : Nat} (c : ¬ Tk w h p0 (thP w h p0 n) n) : thP w h p0 (n + 1) = thP w h p0 n ∧ thC w h p0 (n + 1) = thC w h p0 n := by
  constructor
  · funext i
    show (if i = n ∧ _ then 0 else thP w h p0 n i) = _
    rw [cI_f c, if_neg (fun q => absurd q.2 (by omega))]
  · show thC w h p0 n + _ = _
    rw [cI_f c, Int.add_zero]
theorem Out_m {w h : Int} {p : Nat → Int} {g m : Nat} (hm : eB w h p (g : Int) m) (hp : p g ≠ 0) : Out w h p g ↔ xAnd (m : Int) 85 ≠ 85 := by
  have b0 := hm.2 0 (by omega)
  have b2 := hm.2 2 (by omega)
  have b4 := hm.2 4 (by omega)
  have b6 := hm.2 6 (by omega)
  rw [show xRt 0 = 1 from rfl, show xUp 0 = 0 from rfl, Int.add_zero] at b0
  rw [show xRt 2 = 0 from rfl, show xUp 2 = 1 from rfl, Int.add_zero] at b2
  rw [show xRt 4 = -1 from rfl, show xUp 4 = 0 from rfl, Int.add_zero, ← Int.sub_eq_add_neg] at b4
  rw [show xRt 6 = 0 from rfl, show xUp 6 = -1 from rfl, Int.add_zero, ← Int.sub_eq_add_neg] at b6
  have a5 := an_85 m hm.1
  unfold Out
  rw [b0, b2, b4, b6]
  constructor
  · rintro ⟨_, q⟩ e
    obtain ⟨q0, q2, q4, q6⟩ := a5.mp e
    exact q ⟨by omega, by omega, by omega, by omega⟩
  · intro q
    exact ⟨hp, fun ⟨q0, q2, q4, q6⟩ => q (a5.mpr ⟨by omega, by omega, by omega, by omega⟩)⟩
theorem sx_takeOnce {σ : xSt} {Post : Int → xSt → Prop} (hG : GOk (σ 7 1) (σ 7 2) (σ 8)) {N : Nat} (hN : (N : Int) = σ 7 1 * σ 7 2) (hp : ∀ s', eqx [8, 22] σ s' → s' 8 = thP (σ 7 1) (σ 7 2) (σ 8) N → Post (thC (σ 7 1) (σ 7 2) (σ 8) N) s') : wp_X7_takeOnce σ Post := by
  have hN1 := hG.N
  unfold wp_X7_takeOnce
  intro k hk
  have key := lpU (P := fun x => 0 ≤ x → ∀ s : xSt, eqx [22] σ s → (∀ i : Nat, (i : Int) < x → s 22 i = cI (Out (σ 7 1) (σ 7 2) (σ 8) i)) → k x s) (N : Int) (fun x hx ih x0 s qs hs => ?_) 0 (by omega) (by omega) σ (eqx_rf _ _) (fun i hi => absurd hi (by omega))
  · exact key
  · have s7 : s 7 = σ 7 := qs 7 (by decide)
    have s8 : s 8 = σ 8 := qs 8 (by decide)
    have gs : GOk (s 7 1) (s 7 2) (s 8) := by rw [s7, s8]; exact hG
    have ex : ((x.toNat : Nat) : Int) = x := by omega
    refine hk x s (sx_fields ?_)
    rw [s7, ← hN]
    refine ⟨by omega, by omega, fun c => ?_, fun c => sx_holds gs (by omega) ?_⟩
    · have hs' : ∀ i : Nat, i < N → s 22 i = cI (Out (σ 7 1) (σ 7 2) (σ 8) i) := fun i hi => hs i (by omega)
      intro k2 hk2
      have key2 := lpU (P := fun z => 0 ≤ z → ∀ u : xSt, eqx [8] s u → u 8 = thP (σ 7 1) (σ 7 2) (σ 8) z.toNat → k2 (thC (σ 7 1) (σ 7 2) (σ 8) z.toNat) z u) (N : Int) (fun z hz ih2 z0 u qu hu => ?_) 0 (by omega) (by omega) s (eqx_rf _ _) s8
      · exact key2
      · have u7 : u 7 = σ 7 := (qu 7 (by decide)).trans s7
        have u22 : u 22 = s 22 := qu 22 (by decide)
        have gu : GOk (u 7 1) (u 7 2) (u 8) := by rw [u7, hu]; exact thP_01 hG _
        have ez : ((z.toNat : Nat) : Int) = z := by omega
        have e1 : (z + 1).toNat = z.toNat + 1 := by omega
        have st := fun q => ih2 (z + 1) (by omega) q (by omega)
        rw [e1] at st
        refine hk2 _ z u (sx_fields ?_)
        rw [u7, ← hN, u22]
        refine ⟨by omega, by omega, fun d => ?_, fun d => ⟨by omega, ?_⟩⟩
        · have ezN : z.toNat = N := by omega
          rw [ezN] at hu ⊢
          exact hp u (eqx_tr (eqx_wk qs (by simp)) (eqx_wk qu (by simp))) hu
        · rw [hs' z.toNat (by omega)]
          have no : ¬ Tk (σ 7 1) (σ 7 2) (σ 8) (thP (σ 7 1) (σ 7 2) (σ 8) z.toNat) z.toNat → k2 (thC (σ 7 1) (σ 7 2) (σ 8) z.toNat) (z + 1) u := by
            intro q
            have f := th_f q
            have st2 := st (by omega) u qu (by rw [f.1]; exact hu)
            rw [f.2] at st2; exact st2
          refine ⟨r01 (cI_01 _), fun q => no (fun w => cI_z.mp q w.1), fun q => sx_eight gu z0 (by rw [u7, ← hN]; exact d) (fun m hm => ?_)⟩
          have q' := cI_nz.mp q
          rw [u7, hu] at hm
          have le := loose_eq hm.1
          have pr := pc_R m
          unfold wp_X7_mayGo
          refine sx_bc ?_
          rw [bc_8 m hm.1]
          have hm' : eB (σ 7 1) (σ 7 2) (thP (σ 7 1) (σ 7 2) (σ 8) z.toNat) ((z.toNat : Nat) : Int) m := by rw [ez]; exact hm
          refine ⟨by omega, fun w => ⟨by omega, fun _ => no ?_, fun w => absurd rfl w⟩, fun w => sx_letGo (by have := hm.1; omega) ⟨r01 le.1, fun w2 => ⟨by omega, fun _ => no ?_, fun w => absurd rfl w⟩, fun w2 => ⟨by omega, fun w => absurd w (by omega), fun _ => ?_⟩⟩⟩
          · rintro ⟨-, m', a1, a2, a3⟩
            rw [eB_u a1 hm'] at a2
            exact a2 w
          · rintro ⟨-, m', a1, a2, a3⟩
            rw [eB_u a1 hm'] at a3
            omega
          · have tk : Tk (σ 7 1) (σ 7 2) (σ 8) (thP (σ 7 1) (σ 7 2) (σ 8) z.toNat) z.toNat := ⟨q', m, hm', w, le.1.resolve_left w2⟩
            have f := th_t tk
            refine sx_put gu z0 (by rw [u7, ← hN]; exact d) (Or.inl rfl) ?_
            have st2 := st (by omega) (xU u 8 z.toNat 0) (eqx_tr qu (eqx_up u _ (by simp))) (by
              funext i
              rw [f.1, xU_i, hu])
            rw [f.2] at st2; exact st2
    · rw [hV_in (by omega) (by rw [s7, ← hN]; exact c), s8]
      have nx : ∀ v : Int, v = cI (Out (σ 7 1) (σ 7 2) (σ 8) x.toNat) → (0 ≤ x ∧ x < (144 : Nat)) ∧ ∀ t : xSt, t = xU s 22 x.toNat v → k (x + 1) t := by
        intro v hv
        refine ⟨by omega, fun t e => ?_⟩
        subst e
        refine ih (x + 1) (by omega) (by omega) (by omega) _ (eqx_tr qs (eqx_up s _ (by simp))) (fun i hi => ?_)
        rw [xU_i]
        by_cases ci : i = x.toNat
        · rw [if_pos ci, ci]; exact hv
        · rw [if_neg ci]; exact hs i (by omega)
      refine ⟨r01 (hG.2.2.2.2 _), fun d => nx 0 (by rw [cI_f (fun q => q.1 d)]), fun d => sx_eight gs x0 (by rw [s7, ← hN]; exact c) (fun m hm => ?_)⟩
      rw [s7, s8] at hm
      rw [← ex] at hm
      have om := Out_m hm d
      exact ⟨xAnd_R _ _, fun q => nx 0 (by rw [cI_f (fun w => om.mp w q)]), fun q => nx 1 (by rw [cI_t (om.mpr q)])⟩
theorem sm_thinOnce {σ : xSt} {Post : Int → xSt → Prop} (hG : GOk (σ 0 5) (σ 0 6) (σ 4)) {N : Nat} (hN : (N : Int) = σ 0 5 * σ 0 6) (hp : ∀ s', eqx [4, 8, 10, 11] σ s' → s' 4 = thP (σ 0 5) (σ 0 6) (σ 4) N → Post (thC (σ 0 5) (σ 0 6) (σ 4) N) s') : wp_X10_thinOnce σ Post := by
  have hN1 := hG.N
  obtain ⟨g1, g2, g3, g4, -⟩ := id hG
  unfold wp_X10_thinOnce
  intro k hk
  have key := lpU (P := fun x => 0 ≤ x → ∀ s : xSt, eqx [8] σ s → (∀ i : Nat, (i : Int) < x → s 8 i = cI (Out (σ 0 5) (σ 0 6) (σ 4) i)) → k x s) (N : Int) (fun x hx ih x0 s qs hs => ?_) 0 (by omega) (by omega) σ (eqx_rf _ _) (fun i hi => absurd hi (by omega))
  · exact key
  · have s0 : s 0 = σ 0 := qs 0 (by decide)
    have s4 : s 4 = σ 4 := qs 4 (by decide)
    have gs : GOk (s 0 5) (s 0 6) (s 4) := by rw [s0, s4]; exact hG
    have ex : ((x.toNat : Nat) : Int) = x := by omega
    refine hk x s (sm_fields ?_)
    rw [s0, ← hN, tmod_e x0, tdiv_e x0]
    refine ⟨by omega, by omega, fun c => ?_, fun c => ⟨by omega, by omega, by omega, by omega, by omega, by omega, by omega, ?_⟩⟩
    · have hs' : ∀ i : Nat, i < N → s 8 i = cI (Out (σ 0 5) (σ 0 6) (σ 4) i) := fun i hi => hs i (by omega)
      intro k2 hk2
      have key2 := lpU (P := fun z => 0 ≤ z → ∀ u : xSt, eqx [4, 10, 11] s u → u 4 = thP (σ 0 5) (σ 0 6) (σ 4) z.toNat → k2 (thC (σ 0 5) (σ 0 6) (σ 4) z.toNat) z u) (N : Int) (fun z hz ih2 z0 u qu hu => ?_) 0 (by omega) (by omega) s (eqx_rf _ _) s4
      · exact key2
      · have u0 : u 0 = σ 0 := (qu 0 (by decide)).trans s0
        have u8 : u 8 = s 8 := qu 8 (by decide)
        have gu : GOk (u 0 5) (u 0 6) (u 4) := by rw [u0, hu]; exact thP_01 hG _
        have ez : ((z.toNat : Nat) : Int) = z := by omega
        have e1 : (z + 1).toNat = z.toNat + 1 := by omega
        have st := fun q => ih2 (z + 1) (by omega) q (by omega)
        rw [e1] at st
        refine hk2 _ z u (sm_fields ?_)
        rw [u0, ← hN, u8]
        refine ⟨by omega, by omega, fun d => ?_, fun d => ⟨by omega, ?_⟩⟩
        · have ezN : z.toNat = N := by omega
          rw [ezN] at hu ⊢
          exact hp u (eqx_tr (eqx_wk qs (by simp)) (eqx_wk qu (by simp))) hu
        · rw [hs' z.toNat (by omega)]
          have no : ¬ Tk (σ 0 5) (σ 0 6) (σ 4) (thP (σ 0 5) (σ 0 6) (σ 4) z.toNat) z.toNat → ∀ v, eqx [10, 11] u v → k2 (thC (σ 0 5) (σ 0 6) (σ 4) z.toNat) (z + 1) v := by
            intro q v qv
            have f := th_f q
            have st2 := st (by omega) v (eqx_tr qu (eqx_wk qv (by simp))) (by rw [f.1, qv 4 (by decide)]; exact hu)
            rw [f.2] at st2; exact st2
          refine ⟨r01 (cI_01 _), fun q => no (fun w => cI_z.mp q w.1) u (eqx_rf _ _), fun q => ?_⟩
          have q' := cI_nz.mp q
          obtain ⟨m, hm⟩ := eB_ex (thP_01 hG z.toNat) z
          have hm' : eB (σ 0 5) (σ 0 6) (thP (σ 0 5) (σ 0 6) (σ 4) z.toNat) ((z.toNat : Nat) : Int) m := by rw [ez]; exact hm
          have le := loose_eq hm.1
          have pr := pc_R m
          have uz : u 4 z.toNat = σ 4 z.toNat := by rw [hu]; exact thP_n _ _ _ (Nat.le_refl _)
          refine sm_isLoose gu z0 (by rw [u0, ← hN]; exact d) (m := m) (by rw [u0, hu]; exact hm) (fun v qv => ?_)
          rw [uz]
          by_cases cl : σ 4 z.toNat ≠ 0 ∧ lG (m : Int) = 1
          · rw [if_pos cl]
            have v0 : v 0 = σ 0 := (qv 0 (by decide)).trans u0
            have v4 : v 4 = u 4 := qv 4 (by decide)
            refine ⟨by omega, fun w => absurd w (by omega), fun _ => sm_look (by rw [v0, v4, ← u0]; exact gu) z0 (by rw [v0, ← hN]; exact d) (m := m) (by rw [v0, v4, hu]; exact hm) (fun t qt _ => ⟨by omega, fun w => ?_, fun w => ⟨by omega, fun t' e => ?_⟩⟩)⟩
            · refine no ?_ t (eqx_tr qv (eqx_wk qt (by simp)))
              rintro ⟨-, m', a1, a2, a3⟩
              rw [eB_u a1 hm'] at a2
              exact a2 w
            · subst e
              have tk : Tk (σ 0 5) (σ 0 6) (σ 4) (thP (σ 0 5) (σ 0 6) (σ 4) z.toNat) z.toNat := ⟨q', m, hm', w, cl.2⟩
              have f := th_t tk
              have qt2 : eqx [4, 10, 11] s t := eqx_tr qu (eqx_tr (eqx_wk qv (by simp)) (eqx_wk qt (by simp)))
              have st2 := st (by omega) (xU t 4 z.toNat 0) (eqx_tr qt2 (eqx_up t _ (by simp))) (by
                funext i
                rw [f.1, xU_i, qt 4 (by decide), v4, hu])
              rw [f.2] at st2; exact st2
          · rw [if_neg cl]
            refine ⟨by omega, fun _ => no ?_ v qv, fun w => absurd rfl w⟩
            rintro ⟨-, m', a1, a2, a3⟩
            rw [eB_u a1 hm'] at a3
            exact cl ⟨q'.1, a3⟩
    · rw [s4]
      have hF := fxy (w := σ 0 5) (h := σ 0 6) hG.1 x0 (by omega)
      have nx : ∀ v : Int, v = cI (Out (σ 0 5) (σ 0 6) (σ 4) x.toNat) → (0 ≤ x ∧ x < (144 : Nat)) ∧ ∀ t : xSt, t = xU s 8 x.toNat v → k (x + 1) t := by
        intro v hv
        refine ⟨by omega, fun t e => ?_⟩
        subst e
        refine ih (x + 1) (by omega) (by omega) (by omega) _ (eqx_tr qs (eqx_up s _ (by simp))) (fun i hi => ?_)
        rw [xU_i]
        by_cases ci : i = x.toNat
        · rw [if_pos ci, ci]; exact hv
        · rw [if_neg ci]; exact hs i (by omega)
      have y1 : ∀ q : ¬ (aV (σ 0 5) (σ 0 6) (σ 4) (x % σ 0 5 + 1) (x / σ 0 5) ≠ 0 ∧ aV (σ 0 5) (σ 0 6) (σ 4) (x % σ 0 5) (x / σ 0 5 + 1) ≠ 0 ∧ aV (σ 0 5) (σ 0 6) (σ 4) (x % σ 0 5 - 1) (x / σ 0 5) ≠ 0 ∧ aV (σ 0 5) (σ 0 6) (σ 4) (x % σ 0 5) (x / σ 0 5 - 1) ≠ 0), σ 4 x.toNat ≠ 0 → (0 ≤ x ∧ x < (144 : Nat)) ∧ ∀ t : xSt, t = xU s 8 x.toNat 1 → k (x + 1) t := by
        intro q d
        exact nx 1 (by rw [cI_t]; exact ⟨d, by rw [ex]; exact q⟩)
      refine ⟨r01 (hG.2.2.2.2 _), fun d => nx 0 (by rw [cI_f (fun q => q.1 d)]), fun d => sm_isOf gs (by omega) (by omega) ?_⟩
      rw [s0, s4]
      refine ⟨r01 (aV_01 hG _ _), fun q1 => y1 (fun w => w.2.2.1 q1) d, fun q1 => sm_isOf gs (by omega) (by omega) ?_⟩
      rw [s0, s4]
      refine ⟨r01 (aV_01 hG _ _), fun q2 => y1 (fun w => w.1 q2) d, fun q2 => sm_isOf gs (by omega) (by omega) ?_⟩
      rw [s0, s4]
      refine ⟨r01 (aV_01 hG _ _), fun q3 => y1 (fun w => w.2.2.2 q3) d, fun q3 => sm_isOf gs (by omega) (by omega) ?_⟩
      rw [s0, s4]
      refine ⟨r01 (aV_01 hG _ _), fun q4 => nx 0 ?_, fun q4 => y1 (fun w => w.2.1 q4) d⟩
      rw [cI_f]
      rintro ⟨-, w⟩
      rw [ex] at w
      exact w ⟨q2, q4, q1, q3⟩
theorem op_thinning {σ τ : xSt} (hR : RR σ τ) : wp_X9_thinning σ (fun r σ' => wp_X10_thinning τ (fun r' τ' => r = r' ∧ RR σ' τ')) := by
  have hR2 := RR_th hR
  have gx := RR_g hR
  obtain ⟨N, n4, n5, n6, n7⟩ := RR_N hR
  obtain ⟨n1, n2, n3, e2, wy, pl, gw, gh, e8, hG, as0⟩ := id hR
  refine sx_takeOnce gx n5 (fun s qs hs => ?_)
  intro t e; subst e
  refine sm_thinOnce (σ := xU τ 0 0 0) hG n4 (fun t qt ht => ?_)
  have ht' : t 4 = thP (τ 0 5) (τ 0 6) (τ 4) N := ht
  rw [gw, gh, e8] at hs ⊢
  exact ⟨rfl, RR_heap hR2 (eqx_wk qs (by simp)) (eqx_wk qt (by simp)) (by rw [hs, ht']) (by rw [ht']; exact (thP_01 hG N).2.2.2.2)⟩
/-! thinning till nothing goes -/
noncomputable def tRp (w h : Int) (N : Nat) : Nat → (Nat → Int) → (Nat → Int)
  | 0, p => p
  | n + 1, p => if thC w h p N = 0 then thP w h p N else tRp w h N n (thP w h p N)
noncomputable def tRc (w h : Int) (N : Nat) : Nat → (Nat → Int) → Int
  | 0, _ => 0
  | n + 1, p => if thC w h p N = 0 then 0 else thC w h p N + tRc w h N n (thP w h p N)
theorem sI_01 {p : Nat → Int} (h : ∀ f, p f = 0 ∨ p f = 1) (N : Nat) : 0 ≤ sI p N ∧ sI p N ≤ N := by
  have := sI_bd (g := p) (n := N) (a := 0) (b := 1) (fun i _ => by have := h i; omega)
  omega
theorem tR_01 {w h : Int} {N : Nat} (n : Nat) {p : Nat → Int} (hG : GOk w h p) : GOk w h (tRp w h N n p) := by
  induction n generalizing p with
  | zero => exact hG
  | succ n ih =>
    rw [tRp]; split
    · exact thP_01 hG N
    · exact ih (thP_01 hG N)
theorem op_thin {σ τ : xSt} (hR : RR σ τ) : wp_X9_thin σ (fun r σ' => wp_X10_thin τ (fun r' τ' => r = r' ∧ RR σ' τ')) := by
  have hR2 := RR_th hR
  have gx := RR_g hR
  obtain ⟨N, n4, n5, n6, n7⟩ := RR_N hR
  obtain ⟨n1, n2, n3, e2, wy, pl, gw, gh, e8, hG, as0⟩ := id hR
  have ref : ∀ (σ' : xSt), eqx [8, 22] σ σ' → σ' 8 = tRp (τ 0 5) (τ 0 6) N 145 (τ 4) → wp_X10_thin τ (fun r' τ' => tRc (τ 0 5) (τ 0 6) N 145 (τ 4) = r' ∧ RR σ' τ') := by
    intro σ' q' h8 t e; subst e
    suffices go : ∀ (n : Nat) (acc : Int) (s : xSt) (K : Int → Int → xSt → Prop), eqx [4, 8, 10, 11] (xU τ 0 0 0) s → GOk (τ 0 5) (τ 0 6) (s 4) → sI (s 4) N < n → tRp (τ 0 5) (τ 0 6) N n (s 4) = tRp (τ 0 5) (τ 0 6) N 145 (τ 4) → acc + tRc (τ 0 5) (τ 0 6) N n (s 4) = tRc (τ 0 5) (τ 0 6) N 145 (τ 4) → (∀ (x1_12 x2_12 : Int) (s12 : xSt), (xR x2_12 ∧ (x2_12 ≤ 0 → (tRc (τ 0 5) (τ 0 6) N 145 (τ 4) = x1_12 ∧ RR σ' s12)) ∧ (0 < x2_12 → wp_X10_thinOnce s12 (fun r21 t21 => K (x1_12 + x2_12) r21 t21))) → K x1_12 x2_12 s12) → wp_X10_thinOnce s (fun r t => K acc r t) by
      have b := sI_01 hG.2.2.2.2 N
      have g0 := sm_thinOnce (σ := xU τ 0 0 0) (Post := fun r8 t8 => ∀ k12 : Int → Int → xSt → Prop, (∀ (x1_12 x2_12 : Int) (s12 : xSt), (xR x2_12 ∧ (x2_12 ≤ 0 → (tRc (τ 0 5) (τ 0 6) N 145 (τ 4) = x1_12 ∧ RR σ' s12)) ∧ (0 < x2_12 → wp_X10_thinOnce s12 (fun r21 t21 => k12 (x1_12 + x2_12) r21 t21))) → k12 x1_12 x2_12 s12) → k12 0 r8 t8) hG n4 (fun t qt ht => ?_)
      · exact g0
      · intro K hK
        have ht' : t 4 = thP (τ 0 5) (τ 0 6) (τ 4) N := ht
        show K 0 (thC (τ 0 5) (τ 0 6) (τ 4) N) t
        have bd := thC_bd (τ 0 5) (τ 0 6) (τ 4) N
        have z := th_sz hG (Nat.le_refl N)
        have u1 : tRp (τ 0 5) (τ 0 6) N 145 (τ 4) = (if thC (τ 0 5) (τ 0 6) (τ 4) N = 0 then thP (τ 0 5) (τ 0 6) (τ 4) N else tRp (τ 0 5) (τ 0 6) N 144 (thP (τ 0 5) (τ 0 6) (τ 4) N)) := rfl
        have u2 : tRc (τ 0 5) (τ 0 6) N 145 (τ 4) = (if thC (τ 0 5) (τ 0 6) (τ 4) N = 0 then 0 else thC (τ 0 5) (τ 0 6) (τ 4) N + tRc (τ 0 5) (τ 0 6) N 144 (thP (τ 0 5) (τ 0 6) (τ 4) N)) := rfl
        refine hK 0 _ t ⟨by omega, fun c => ?_, fun c => ?_⟩
        · have c0 : thC (τ 0 5) (τ 0 6) (τ 4) N = 0 := by omega
          rw [if_pos c0] at u1 u2
          refine ⟨u2, RR_heap hR2 (eqx_wk q' (by simp)) (eqx_wk qt (by simp)) (by rw [h8, u1, ht']) (by rw [ht']; exact (thP_01 hG N).2.2.2.2)⟩
        · have c0 : ¬ thC (τ 0 5) (τ 0 6) (τ 4) N = 0 := by omega
          rw [if_neg c0] at u1 u2
          refine go 144 _ t K qt (by rw [ht']; exact thP_01 hG N) (by rw [ht']; omega) (by rw [ht', u1]) (by rw [ht', u2]; omega) hK
    intro n
    induction n with
    | zero => intro acc s K _ g hs; have := sI_01 g.2.2.2.2 N; omega
    | succ n ih =>
      intro acc s K qs g hs h1 h2 hK
      have s0 : s 0 = (xU τ 0 0 0) 0 := qs 0 (by decide)
      have s05 : s 0 5 = τ 0 5 := by rw [s0]; rfl
      have s06 : s 0 6 = τ 0 6 := by rw [s0]; rfl
      refine sm_thinOnce (by rw [s05, s06]; exact g) (N := N) (by rw [s05, s06]; exact n4) (fun t qt ht => ?_)
      rw [s05, s06] at ht ⊢
      have bd := thC_bd (τ 0 5) (τ 0 6) (s 4) N
      have z := th_sz g (Nat.le_refl N)
      have qt' : eqx [4, 8, 10, 11] (xU τ 0 0 0) t := eqx_tr qs qt
      rw [tRp] at h1
      rw [tRc] at h2
      refine hK acc _ t ⟨by omega, fun c => ?_, fun c => ?_⟩
      · have c0 : thC (τ 0 5) (τ 0 6) (s 4) N = 0 := by omega
        rw [if_pos c0] at h1 h2
        refine ⟨by omega, RR_heap hR2 (eqx_wk q' (by simp)) (eqx_wk qt' (by simp)) (by rw [h8, ← h1, ht]) (by rw [ht]; exact (thP_01 g N).2.2.2.2)⟩
      · have c0 : ¬ thC (τ 0 5) (τ 0 6) (s 4) N = 0 := by omega
        rw [if_neg c0] at h1 h2
        exact ih _ t K qt' (by rw [ht]; exact thP_01 g N) (by rw [ht]; omega) (by rw [ht]; exact h1) (by rw [ht]; omega) hK
  unfold wp_X9_thin
  intro k hk
  have key := lpU (P := fun x => 0 ≤ x → ∀ (acc : Int) (s : xSt), eqx [8, 22] σ s → GOk (τ 0 5) (τ 0 6) (s 8) → tRp (τ 0 5) (τ 0 6) N (145 - x).toNat (s 8) = tRp (τ 0 5) (τ 0 6) N 145 (τ 4) → acc + tRc (τ 0 5) (τ 0 6) N (145 - x).toNat (s 8) = tRc (τ 0 5) (τ 0 6) N 145 (τ 4) → k acc x s) 145 (fun x hx ih x0 acc s qs g h1 h2 => ?_) 0 (by omega) (by omega) 0 σ (eqx_rf _ _) (by rw [e8]; exact hG) (by rw [e8, show ((145 : Int) - 0).toNat = 145 from by omega]) (by rw [e8, show ((145 : Int) - 0).toNat = 145 from by omega]; exact Int.zero_add _)
  · exact key
  · have s7 : s 7 = σ 7 := qs 7 (by decide)
    have s71 : s 7 1 = τ 0 5 := by rw [s7]; exact gw
    have s72 : s 7 2 = τ 0 6 := by rw [s7]; exact gh
    refine hk acc x s ⟨by omega, fun c => ?_, fun c => ?_⟩
    · have ex : (145 - x).toNat = 0 := by omega
      rw [ex] at h1 h2
      have h2' : acc + 0 = tRc (τ 0 5) (τ 0 6) N 145 (τ 4) := h2
      have e : acc = tRc (τ 0 5) (τ 0 6) N 145 (τ 4) := by omega
      rw [e]
      exact ref s qs h1
    · have ex : (145 - x).toNat = (145 - (x + 1)).toNat + 1 := by omega
      rw [ex, tRp] at h1
      rw [ex, tRc] at h2
      refine sx_takeOnce (by rw [s71, s72]; exact g) (N := N) (by rw [s7]; exact n5) (fun t qt ht => ?_)
      rw [s71, s72] at ht ⊢
      have bd := thC_bd (τ 0 5) (τ 0 6) (s 8) N
      have qt' : eqx [8, 22] σ t := eqx_tr qs qt
      refine ⟨by omega, fun c0 => ?_, fun c0 => ?_⟩
      · rw [if_neg c0] at h1 h2
        exact ih (x + 1) (by omega) (by omega) (by omega) _ t qt' (by rw [ht]; exact thP_01 g N) (by rw [ht]; exact h1) (by rw [ht]; omega)
      · rw [if_pos c0] at h1 h2
        have e : acc = tRc (τ 0 5) (τ 0 6) N 145 (τ 4) := by omega
        rw [e]
        exact ref t qt' (by rw [ht]; exact h1)
