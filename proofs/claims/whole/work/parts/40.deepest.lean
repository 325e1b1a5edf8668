/-- the deepest below x: how deep, the first such field -/
def DI (D : Nat → Int → Prop) (x mo fi : Int) : Prop := 0 ≤ mo ∧ mo ≤ 400 ∧ -999 ≤ fi ∧ fi ≤ 144 ∧ (∀ f : Nat, (f : Int) < x → ∀ d, D f d → d ≤ mo) ∧ ((mo = 0 ∧ fi = -999) ∨ ∃ f : Nat, (f : Int) < x ∧ fi = (f : Int) ∧ D f mo ∧ 0 < mo ∧ ∀ g : Nat, g < f → ∀ d, D g d → d < mo)
theorem DI_u {D : Nat → Int → Prop} {x mo fi mo' fi' : Int} (h : DI D x mo fi) (h' : DI D x mo' fi') : mo = mo' ∧ fi = fi' := by
  obtain ⟨a1, a2, a3, a4, a5, a6⟩ := h
  obtain ⟨b1, b2, b3, b4, b5, b6⟩ := h'
  rcases a6 with ⟨p1, p2⟩ | ⟨f, f1, f2, f3, f4, f5⟩
  · rcases b6 with ⟨q1, q2⟩ | ⟨g, g1, g2, g3, g4, g5⟩
    · omega
    · have := a5 g g1 _ g3; omega
  · rcases b6 with ⟨q1, q2⟩ | ⟨g, g1, g2, g3, g4, g5⟩
    · have := b5 f f1 _ f3; omega
    · have l1 := a5 g g1 _ g3
      have l2 := b5 f f1 _ f3
      have e : mo = mo' := by omega
      subst e
      refine ⟨rfl, ?_⟩
      by_cases c1 : f < g
      · have := g5 f c1 _ f3; omega
      · by_cases c2 : g < f
        · have := f5 g c2 _ g3; omega
        · omega
theorem DI_0 (D : Nat → Int → Prop) : DI D 0 0 (-999) := ⟨by omega, by omega, by omega, by omega, fun f hf => absurd hf (by omega), Or.inl ⟨rfl, rfl⟩⟩
theorem DI_keep {D : Nat → Int → Prop} (hu : ∀ f d d', D f d → D f d' → d = d') {x mo fi d : Int} (x0 : 0 ≤ x) (h : DI D x mo fi) (hd : D x.toNat d) (c : d ≤ mo) : DI D (x + 1) mo fi := by
  obtain ⟨a1, a2, a3, a4, a5, a6⟩ := h
  refine ⟨a1, a2, a3, a4, fun f hf e he => ?_, ?_⟩
  · by_cases cf : (f : Int) < x
    · exact a5 f cf e he
    · have ef : f = x.toNat := by omega
      subst ef; rw [hu _ _ _ he hd]; exact c
  · rcases a6 with q | ⟨f, f1, f2⟩
    · exact Or.inl q
    · exact Or.inr ⟨f, by omega, f2⟩
theorem DI_new {D : Nat → Int → Prop} (hu : ∀ f d d', D f d → D f d' → d = d') {x mo fi d : Int} (x0 : 0 ≤ x) (x1 : x ≤ 144) (h : DI D x mo fi) (hd : D x.toNat d) (h4 : d ≤ 400) (c : mo < d) : DI D (x + 1) d x := by
  obtain ⟨a1, a2, a3, a4, a5, a6⟩ := h
  refine ⟨by omega, h4, by omega, x1, fun f hf e he => ?_, Or.inr ⟨x.toNat, by omega, by omega, hd, by omega, fun g hg e he => ?_⟩⟩
  · by_cases cf : (f : Int) < x
    · have := a5 f cf e he; omega
    · have ef : f = x.toNat := by omega
      subst ef; rw [hu _ _ _ he hd]; exact Int.le_refl _
  · have := a5 g (by omega) e he; omega
theorem op_deepest {σ τ : xSt} (hR : RR σ τ) {a : Int} (ha : xR a) : wp_X9_deepest a σ (fun r => wp_X10_deepest a τ (fun r' τ' => r = r' ∧ RR σ τ')) := by
  have hR2 := RR_th hR
  have gx := RR_g hR
  obtain ⟨N, n1, n2, n3, n4⟩ := RR_N hR
  obtain ⟨-, -, -, -, -, -, gw, gh, e8, hG, -⟩ := id hR
  have hu : ∀ (f : Nat) (d d' : Int), Dv (τ 0 5) (τ 0 6) (τ 4) f d → Dv (τ 0 5) (τ 0 6) (τ 4) f d' → d = d' := fun f d d' h h' => Dv_u h h'
  have ref : ∀ r mo fi : Int, DI (Dv (τ 0 5) (τ 0 6) (τ 4)) (N : Int) mo fi → (a = 0 → r = mo) → (a ≠ 0 → r = fi) → wp_X10_deepest a τ (fun r' τ' => r = r' ∧ RR σ τ') := by
    intro r mo fi hd g0 g1 t e; subst e
    intro k hk
    have key := lpU (P := fun x => 0 ≤ x → ∀ mo fi : Int, DI (Dv (τ 0 5) (τ 0 6) (τ 4)) x mo fi → k mo fi x) (N : Int) (fun x hx ih x0 mo2 fi2 hi => ?_) 0 (by omega) (by omega) 0 (-999) (DI_0 _)
    · exact key
    · have bm := hi.1
      have bm2 := hi.2.1
      refine hk mo2 fi2 x (sm_fields (Post := fun r17 => xR x ∧ xR r17 ∧ (r17 ≤ x → xR a ∧ (a = 0 → r = mo2 ∧ RR σ (xU τ 0 0 0)) ∧ (a ≠ 0 → r = fi2 ∧ RR σ (xU τ 0 0 0))) ∧ (x < r17 → wp_X10_depthOf x (xU τ 0 0 0) (fun r26 => xR r26 ∧ xR mo2 ∧ (r26 ≤ mo2 → k mo2 fi2 (x + 1)) ∧ (mo2 < r26 → k r26 x (x + 1))))) ?_)
      show xR x ∧ xR (τ 0 5 * τ 0 6) ∧ (τ 0 5 * τ 0 6 ≤ x → _) ∧ (x < τ 0 5 * τ 0 6 → _)
      rw [← n1]
      refine ⟨by omega, by omega, fun c => ?_, fun c => ?_⟩
      · have ex : x = (N : Int) := by omega
        rw [ex] at hi
        obtain ⟨u1, u2⟩ := DI_u hd hi
        exact ⟨ha, fun d => ⟨by rw [g0 d, u1], hR2⟩, fun d => ⟨by rw [g1 d, u2], hR2⟩⟩
      · have ex : ((x.toNat : Nat) : Int) = x := by omega
        have hm := sm_depthOf (σ := xU τ 0 0 0) (Post := fun r26 => xR r26 ∧ xR mo2 ∧ (r26 ≤ mo2 → k mo2 fi2 (x + 1)) ∧ (mo2 < r26 → k r26 x (x + 1))) hG (f := x.toNat) (by rw [ex]; show x < τ 0 5 * τ 0 6; omega) (fun d d0 d4 hd' => ⟨by omega, by omega, fun q => ih (x + 1) (by omega) (by omega) (by omega) mo2 fi2 (DI_keep hu x0 hi hd' q), fun q => ih (x + 1) (by omega) (by omega) (by omega) d x (DI_new hu x0 (by omega) hi hd' d4 q)⟩)
        rw [ex] at hm; exact hm
  unfold wp_X9_deepest
  intro k hk
  have key := lpU (P := fun x => 0 ≤ x → ∀ mo fi : Int, DI (Dv (τ 0 5) (τ 0 6) (τ 4)) x mo fi → k mo fi x) (N : Int) (fun x hx ih x0 mo2 fi2 hi => ?_) 0 (by omega) (by omega) 0 (-999) (DI_0 _)
  · exact key
  · have bm := hi.1
    have bm2 := hi.2.1
    refine hk mo2 fi2 x (sx_fields ?_)
    rw [← n2]
    refine ⟨by omega, by omega, fun c => ?_, fun c => ?_⟩
    · have ex : x = (N : Int) := by omega
      rw [ex] at hi
      exact ⟨ha, fun d => ref mo2 mo2 fi2 hi (fun _ => rfl) (fun q => absurd d q), fun d => ref fi2 mo2 fi2 hi (fun q => absurd q d) (fun _ => rfl)⟩
    · have ex : ((x.toNat : Nat) : Int) = x := by omega
      have hm := sx_depthOf (σ := σ) (Post := fun r31 => xR r31 ∧ xR mo2 ∧ (r31 ≤ mo2 → k mo2 fi2 (x + 1)) ∧ (mo2 < r31 → k r31 x (x + 1))) gx (f := x.toNat) (by rw [ex]; omega) (fun d d0 d4 hd' => by
        rw [gw, gh, e8] at hd'
        exact ⟨by omega, by omega, fun q => ih (x + 1) (by omega) (by omega) (by omega) mo2 fi2 (DI_keep hu x0 hi hd' q), fun q => ih (x + 1) (by omega) (by omega) (by omega) d x (DI_new hu x0 (by omega) hi hd' d4 q)⟩)
      rw [ex] at hm; exact hm
