/-! the reference's span of a piece -/
def SLo (A : Nat → Int) (m i : Nat) : Int → Int → Prop := fun p q => (p = -1 ∧ q = 1) ∨ ∃ i' j : Nat, i' < i ∧ i' < j ∧ j ≤ m ∧ p = A j - A i' - 1 ∧ q = (j : Int) - i'
def SHo (A : Nat → Int) (m i : Nat) : Int → Int → Prop := fun p q => (p = 2 ∧ q = 1) ∨ ∃ i' j : Nat, i' < i ∧ i' < j ∧ j ≤ m ∧ p = A j - A i' + 1 ∧ q = (j : Int) - i'
def SLi (A : Nat → Int) (m i j : Nat) : Int → Int → Prop := fun p q => SLo A m i p q ∨ ∃ j' : Nat, i < j' ∧ j' < j ∧ p = A j' - A i - 1 ∧ q = (j' : Int) - i
def SHi (A : Nat → Int) (m i j : Nat) : Int → Int → Prop := fun p q => SHo A m i p q ∨ ∃ j' : Nat, i < j' ∧ j' < j ∧ p = A j' - A i + 1 ∧ q = (j' : Int) - i
theorem SLi_bd {y : Nat → Int} {f0 m i j : Nat} (hm : m ≤ 60) (hj : j ≤ m + 1) {p q : Int} (h : SLi (As y f0) m i j p q) : -1 ≤ p ∧ p ≤ 60 ∧ 1 ≤ q ∧ q ≤ 60 := by
  rcases h with (⟨rfl, rfl⟩ | ⟨i', j', h1, h2, h3, rfl, rfl⟩) | ⟨j', h1, h2, rfl, rfl⟩
  · omega
  · have := As_bd y f0 (i := i') (j := j') (by omega); omega
  · have := As_bd y f0 (i := i) (j := j') (by omega); omega
theorem SHi_bd {y : Nat → Int} {f0 m i j : Nat} (hm : m ≤ 60) (hj : j ≤ m + 1) {p q : Int} (h : SHi (As y f0) m i j p q) : 1 ≤ p ∧ p ≤ 61 ∧ 1 ≤ q ∧ q ≤ 60 := by
  rcases h with (⟨rfl, rfl⟩ | ⟨i', j', h1, h2, h3, rfl, rfl⟩) | ⟨j', h1, h2, rfl, rfl⟩
  · omega
  · have := As_bd y f0 (i := i') (j := j') (by omega); omega
  · have := As_bd y f0 (i := i) (j := j') (by omega); omega
theorem SLi_0 {A : Nat → Int} {m i : Nat} (p q : Int) : SLo A m i p q ↔ SLi A m i (i + 1) p q := ⟨Or.inl, fun h => h.elim id (fun ⟨j', h1, h2, _⟩ => absurd h1 (by omega))⟩
theorem SHi_0 {A : Nat → Int} {m i : Nat} (p q : Int) : SHo A m i p q ↔ SHi A m i (i + 1) p q := ⟨Or.inl, fun h => h.elim id (fun ⟨j', h1, h2, _⟩ => absurd h1 (by omega))⟩
theorem SLi_s {A : Nat → Int} {m i j : Nat} (hij : i < j) (p q : Int) : (SLi A m i j p q ∨ (p = A j - A i - 1 ∧ q = (j : Int) - i)) ↔ SLi A m i (j + 1) p q := by
  constructor
  · rintro ((h | ⟨j', h1, h2, h3, h4⟩) | ⟨h3, h4⟩)
    · exact Or.inl h
    · exact Or.inr ⟨j', h1, by omega, h3, h4⟩
    · exact Or.inr ⟨j, hij, by omega, h3, h4⟩
  · rintro (h | ⟨j', h1, h2, h3, h4⟩)
    · exact Or.inl (Or.inl h)
    · by_cases c : j' = j
      · subst c; exact Or.inr ⟨h3, h4⟩
      · exact Or.inl (Or.inr ⟨j', h1, by omega, h3, h4⟩)
theorem SHi_s {A : Nat → Int} {m i j : Nat} (hij : i < j) (p q : Int) : (SHi A m i j p q ∨ (p = A j - A i + 1 ∧ q = (j : Int) - i)) ↔ SHi A m i (j + 1) p q := by
  constructor
  · rintro ((h | ⟨j', h1, h2, h3, h4⟩) | ⟨h3, h4⟩)
    · exact Or.inl h
    · exact Or.inr ⟨j', h1, by omega, h3, h4⟩
    · exact Or.inr ⟨j, hij, by omega, h3, h4⟩
  · rintro (h | ⟨j', h1, h2, h3, h4⟩)
    · exact Or.inl (Or.inl h)
    · by_cases c : j' = j
      · subst c; exact Or.inr ⟨h3, h4⟩
      · exact Or.inl (Or.inr ⟨j', h1, by omega, h3, h4⟩)
theorem SLi_e {A : Nat → Int} {m i : Nat} (p q : Int) : SLi A m i (m + 1) p q ↔ SLo A m (i + 1) p q := by
  constructor
  · rintro ((h | ⟨i', j', h1, h2, h3, h4, h5⟩) | ⟨j', h1, h2, h3, h4⟩)
    · exact Or.inl h
    · exact Or.inr ⟨i', j', by omega, h2, h3, h4, h5⟩
    · exact Or.inr ⟨i, j', by omega, h1, by omega, h3, h4⟩
  · rintro (h | ⟨i', j', h1, h2, h3, h4, h5⟩)
    · exact Or.inl (Or.inl h)
    · by_cases c : i' = i
      · subst c; exact Or.inr ⟨j', h2, by omega, h4, h5⟩
      · exact Or.inl (Or.inr ⟨i', j', by omega, h2, h3, h4, h5⟩)
theorem SHi_e {A : Nat → Int} {m i : Nat} (p q : Int) : SHi A m i (m + 1) p q ↔ SHo A m (i + 1) p q := by
  constructor
  · rintro ((h | ⟨i', j', h1, h2, h3, h4, h5⟩) | ⟨j', h1, h2, h3, h4⟩)
    · exact Or.inl h
    · exact Or.inr ⟨i', j', by omega, h2, h3, h4, h5⟩
    · exact Or.inr ⟨i, j', by omega, h1, by omega, h3, h4⟩
  · rintro (h | ⟨i', j', h1, h2, h3, h4, h5⟩)
    · exact Or.inl (Or.inl h)
    · by_cases c : i' = i
      · subst c; exact Or.inr ⟨j', h2, by omega, h4, h5⟩
      · exact Or.inl (Or.inr ⟨i', j', by omega, h2, h3, h4, h5⟩)
theorem SLo_e {A : Nat → Int} {m : Nat} (p q : Int) : SLo A m m p q ↔ SL A m p q := by
  constructor
  · rintro (h | ⟨i', j', h1, h2, h3, h4, h5⟩)
    · exact Or.inl h
    · exact Or.inr ⟨i', j', h2, h3, h4, h5⟩
  · rintro (h | ⟨i', j', h2, h3, h4, h5⟩)
    · exact Or.inl h
    · exact Or.inr ⟨i', j', by omega, h2, h3, h4, h5⟩
theorem SHo_e {A : Nat → Int} {m : Nat} (p q : Int) : SHo A m m p q ↔ SH A m p q := by
  constructor
  · rintro (h | ⟨i', j', h1, h2, h3, h4, h5⟩)
    · exact Or.inl h
    · exact Or.inr ⟨i', j', h2, h3, h4, h5⟩
  · rintro (h | ⟨i', j', h2, h3, h4, h5⟩)
    · exact Or.inl h
    · exact Or.inr ⟨i', j', by omega, h2, h3, h4, h5⟩
theorem SLo_0 (A : Nat → Int) (m : Nat) : Mx (SLo A m 0) (-1) 1 := by
  refine ⟨by decide, ?_, Or.inl ⟨rfl, rfl⟩⟩
  rintro p q (⟨rfl, rfl⟩ | ⟨i, j, h1, -⟩)
  · decide
  · omega
theorem SHo_0 (A : Nat → Int) (m : Nat) : Mn (SHo A m 0) 2 1 := by
  refine ⟨by decide, ?_, Or.inl ⟨rfl, rfl⟩⟩
  rintro p q (⟨rfl, rfl⟩ | ⟨i, j, h1, -⟩)
  · decide
  · omega
/-- what holds between two pairs: nothing was looked at yet, or the flag is down -/
def Fst (x3 : Int) (first : Prop) (s : xSt) : Prop := x3 = 0 ∨ (x3 = 1 ∧ first ∧ s 2 0 = -1 ∧ s 2 1 = 1 ∧ s 3 0 = 2 ∧ s 3 1 = 1)
theorem sm_spans {τ : xSt} {Post : Int → xSt → Prop} {f0 m : Nat} (hm : f0 + m ≤ 60) (hy : ∀ i : Nat, 0 ≤ τ 1 i ∧ τ 1 i < 8) {a b : Int} (ea : a = (f0 : Int)) (eb : b = ((f0 + m : Nat) : Int))
    (hp : ∀ s, eqx [2, 3] τ s → Mx (SL (As (τ 1) f0) m) (s 2 0) (s 2 1) → Mn (SH (As (τ 1) f0) m) (s 3 0) (s 3 1) → Post (bI (s 2 0 * s 3 1 < s 3 0 * s 2 1)) s) : wp_X10_spans a b τ Post := by
  unfold wp_X10_spans
  intro s1 e1 s2 e2 s3 e3 s4 e4
  have q4 : eqx [2, 3] τ s4 := by
    rw [e4, e3, e2, e1]
    exact eqx_tr (eqx_tr (eqx_tr (eqx_up τ _ (by simp)) (eqx_up _ _ (by simp))) (eqx_up _ _ (by simp))) (eqx_up _ _ (by simp))
  have v1 : s4 2 0 = -1 := by rw [e4, e3, e2, e1]; rfl
  have v2 : s4 2 1 = 1 := by rw [e4, e3, e2, e1]; rfl
  have v3 : s4 3 0 = 2 := by rw [e4, e3, e2, e1]; rfl
  have v4 : s4 3 1 = 1 := by rw [e4, e3, e2, e1]; rfl
  intro k hk
  have key := lpU (P := fun x => a ≤ x → ∀ (x3 : Int) (s : xSt), eqx [2, 3] τ s → Fst x3 (x = a) s → Mx (SLo (As (τ 1) f0) m (x - a).toNat) (s 2 0) (s 2 1) → Mn (SHo (As (τ 1) f0) m (x - a).toNat) (s 3 0) (s 3 1) → k x3 x s) b (fun x hx ih x0 x3 s qs fs hl hh => ?_) a (by omega) (by omega) 1 s4 q4 (Or.inr ⟨rfl, rfl, v1, v2, v3, v4⟩) (by rw [show (a - a).toNat = 0 by omega, v1, v2]; exact SLo_0 _ _) (by rw [show (a - a).toNat = 0 by omega, v3, v4]; exact SHo_0 _ _)
  · exact key
  · refine hk x3 x s ⟨by omega, by omega, fun c => ?_, fun c => ?_⟩
    · have e : (x - a).toNat = m := by omega
      rw [e] at hl hh
      have hl2 := Mx_c hl SLo_e
      have hh2 := Mn_c hh SHo_e
      have bl := SL_bd (by omega) hl2.2.2
      have bh := SH_bd (by omega) hh2.2.2
      have r1 := mb (x := s 2 0) (y := s 3 1) (B := 61) (C := 61) (by omega) (by omega) (by omega) (by omega)
      have r2 := mb (x := s 3 0) (y := s 2 1) (B := 61) (C := 61) (by omega) (by omega) (by omega) (by omega)
      have hq := hp s qs hl2 hh2
      refine ⟨by omega, by omega, fun c2 => ?_, fun c2 => ?_⟩
      · rw [bI_f (by omega)] at hq; exact hq
      · rw [bI_t c2] at hq; exact hq
    · intro k2 hk2
      have ix : x = (f0 : Int) + ((x - a).toNat : Int) := by omega
      generalize hi : (x - a).toNat = i at hl hh ix
      have key2 := lpU (P := fun z => x + 1 ≤ z → ∀ (x3 : Int) (t : xSt), eqx [2, 3] τ t → Fst x3 (z = x + 1) t → Mx (SLi (As (τ 1) f0) m i (z - a).toNat) (t 2 0) (t 2 1) → Mn (SHi (As (τ 1) f0) m i (z - a).toNat) (t 3 0) (t 3 1) → k2 x3 (As (τ 1) f0 (z - 1 - a).toNat - As (τ 1) f0 i) z t) (b + 1) (fun z hz ih2 z0 x3 t qt ft hl2 hh2 => ?_) (x + 1) (by omega) (by omega) x3 s qs ?_ ?_ ?_
      · have e : (x + 1 - 1 - a).toNat = i := by omega
        rw [e, Int.sub_self] at key2
        exact key2
      · have f3 : 0 ≤ x3 ∧ x3 ≤ 1 := by rcases ft with h | ⟨h, -⟩ <;> omega
        have bl := SLi_bd (by omega) (by omega) hl2.2.2
        have bh := SHi_bd (by omega) (by omega) hh2.2.2
        refine hk2 _ _ _ _ ⟨by omega, by omega, fun c2 => ?_, fun c2 => ?_⟩
        · have e : (z - a).toNat = m + 1 := by omega
          have e2 : (x + 1 - a).toNat = i + 1 := by omega
          rw [e] at hl2 hh2
          refine ih (x + 1) (by omega) (by omega) (by omega) _ t qt ?_ (by rw [e2]; exact Mx_c hl2 SLi_e) (by rw [e2]; exact Mn_c hh2 SHi_e)
          rcases ft with h | ⟨h1, h2, -⟩
          · exact Or.inl h
          · omega
        · have t1 : t 1 = τ 1 := qt 1 (by decide)
          have ej : (z - a).toNat = (z - 1 - a).toNat + 1 := by omega
          have ez : (z - 1).toNat = f0 + (z - 1 - a).toNat := by omega
          have hyz := hy (f0 + (z - 1 - a).toNat)
          rw [t1, ez]
          refine ⟨by omega, by omega, by omega, by omega, ?_⟩
          intro w ew
          rw [tmod_e hyz.1] at ew
          have ew2 : w = As (τ 1) f0 (z - a).toNat - As (τ 1) f0 i := by
            rw [ej, As_s, ew]; omega
          have ab := As_bd (τ 1) f0 (i := i) (j := (z - a).toNat) (by omega)
          have ev : z - x = ((z - a).toNat : Int) - (i : Int) := by omega
          have en : (z + 1 - a).toNat = (z - a).toNat + 1 := by omega
          have en2 : (z + 1 - 1 - a).toNat = (z - a).toNat := by omega
          have hij : i < (z - a).toNat := by omega
          have next : ∀ t' : xSt, eqx [2, 3] τ t' → Mx (SLi (As (τ 1) f0) m i ((z - a).toNat + 1)) (t' 2 0) (t' 2 1) → Mn (SHi (As (τ 1) f0) m i ((z - a).toNat + 1)) (t' 3 0) (t' 3 1) → k2 0 w (z + 1) t' := by
            intro t' q' l' h'
            have := ih2 (z + 1) (by omega) (by omega) (by omega) 0 t' q' (Or.inl rfl) (by rw [en]; exact l') (by rw [en]; exact h')
            rw [en2, ← ew2] at this
            exact this
          have ml := Mx_add hl2 (u := w - 1) (v := z - x) (by omega) (fun p q h => by have := SLi_bd (by omega) (by omega) h; omega)
          have mh := Mn_add hh2 (u := w + 1) (v := z - x) (by omega) (fun p q h => by have := SHi_bd (by omega) (by omega) h; omega)
          have sl : ∀ u v : Int, Mx (fun p q => SLi (As (τ 1) f0) m i (z - a).toNat p q ∨ (p = w - 1 ∧ q = z - x)) u v → Mx (SLi (As (τ 1) f0) m i ((z - a).toNat + 1)) u v := fun u v h => Mx_c h (fun p q => by rw [ew2, ev]; exact SLi_s hij p q)
          have sh : ∀ u v : Int, Mn (fun p q => SHi (As (τ 1) f0) m i (z - a).toNat p q ∨ (p = w + 1 ∧ q = z - x)) u v → Mn (SHi (As (τ 1) f0) m i ((z - a).toNat + 1)) u v := fun u v h => Mn_c h (fun p q => by rw [ew2, ev]; exact SHi_s hij p q)
          have r1 := mb (x := w - 1) (y := t 2 1) (B := 61) (C := 61) (by omega) (by omega) (by omega) (by omega)
          have r2 := mb (x := t 2 0) (y := z - x) (B := 61) (C := 61) (by omega) (by omega) (by omega) (by omega)
          have r3 := mb (x := w + 1) (y := t 3 1) (B := 61) (C := 61) (by omega) (by omega) (by omega) (by omega)
          have r4 := mb (x := t 3 0) (y := z - x) (B := 61) (C := 61) (by omega) (by omega) (by omega) (by omega)
          intro k3 hk3
          -- the upper end, once the lower one stands
          have up : ∀ t' : xSt, eqx [2, 3] τ t' → t' 3 = t 3 → Mx (SLi (As (τ 1) f0) m i ((z - a).toNat + 1)) (t' 2 0) (t' 2 1) → k3 t' := by
            intro t' q' e3' l'
            refine hk3 t' ?_
            intro k4 hk4
            have set4 : Mn (SHi (As (τ 1) f0) m i ((z - a).toNat + 1)) (w + 1) (z - x) → k4 := by
              intro hset
              refine hk4 ⟨by omega, ?_⟩
              intro t1' d1
              refine ⟨by omega, ?_⟩
              intro t2' d2
              refine next t2' ?_ ?_ ?_
              · rw [d2, d1]; exact eqx_tr q' (eqx_tr (eqx_up t' _ (by simp)) (eqx_up _ _ (by simp)))
              · rw [d2, d1]; exact l'
              · have z1 : t2' 3 0 = w + 1 := by rw [d2, d1]; rfl
                have z2 : t2' 3 1 = z - x := by rw [d2]; rfl
                rw [z1, z2]; exact hset
            have e30 : t' 3 0 = t 3 0 := by rw [e3']
            have e31 : t' 3 1 = t 3 1 := by rw [e3']
            refine ⟨by omega, fun c3 => set4 ?_, fun c3 => ⟨by omega, by omega, by rw [e31]; omega, by rw [e30]; omega, fun c4 => ?_, fun c4 => set4 ?_⟩⟩
            · rcases ft with h | ⟨h1, h2, h3, h4, h5, h6⟩
              · exact absurd h c3
              · have zx : z - x = 1 := by omega
                by_cases cw : w = 1
                · have := sh _ _ (mh.2 (by rw [h5, h6, zx, cw]; decide))
                  rw [h5, h6] at this
                  rw [zx, cw]; exact this
                · have w0 : w = 0 := by omega
                  exact sh _ _ (mh.1 (by rw [h5, h6, zx, w0]; decide))
            · rw [e30, e31] at c4
              refine next t' q' l' ?_
              rw [e30, e31]; exact sh _ _ (mh.2 c4)
            · rw [e30, e31] at c4
              exact sh _ _ (mh.1 c4)
          intro k5 hk5
          have set5 : Mx (SLi (As (τ 1) f0) m i ((z - a).toNat + 1)) (w - 1) (z - x) → k5 := by
            intro hset
            refine hk5 ⟨by omega, ?_⟩
            intro t1' d1
            refine ⟨by omega, ?_⟩
            intro t2' d2
            refine up t2' ?_ ?_ ?_
            · rw [d2, d1]; exact eqx_tr qt (eqx_tr (eqx_up t _ (by simp)) (eqx_up _ _ (by simp)))
            · rw [d2, d1]; rfl
            · have z1 : t2' 2 0 = w - 1 := by rw [d2, d1]; rfl
              have z2 : t2' 2 1 = z - x := by rw [d2]; rfl
              rw [z1, z2]; exact hset
          refine ⟨by omega, fun c3 => set5 ?_, fun c3 => ⟨by omega, by omega, by omega, by omega, fun c4 => ?_, fun c4 => set5 ?_⟩⟩
          · rcases ft with h | ⟨h1, h2, h3, h4, h5, h6⟩
            · exact absurd h c3
            · have zx : z - x = 1 := by omega
              by_cases cw : w = 0
              · have := sl _ _ (ml.2 (by rw [h3, h4, zx, cw]; decide))
                rw [h3, h4] at this
                rw [zx, cw]; exact this
              · have w1 : w = 1 := by omega
                exact sl _ _ (ml.1 (by rw [h3, h4, zx, w1]; decide))
          · exact up t qt rfl (sl _ _ (ml.2 c4))
          · exact sl _ _ (ml.1 c4)
      · rcases fs with h | ⟨h1, h2, h3⟩
        · exact Or.inl h
        · exact Or.inr ⟨h1, rfl, h3⟩
      · have e : (x + 1 - a).toNat = i + 1 := by omega
        rw [e]; exact Mx_c hl SLi_0
      · have e : (x + 1 - a).toNat = i + 1 := by omega
        rw [e]; exact Mn_c hh SHi_0
