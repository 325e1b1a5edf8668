/-! a piece of the row -/
def As (y : Nat → Int) (f0 : Nat) : Nat → Int := sI (fun i => y (f0 + i) % 2)
theorem As_s (y : Nat → Int) (f0 k : Nat) : As y f0 (k + 1) = As y f0 k + y (f0 + k) % 2 := rfl
theorem As_bd (y : Nat → Int) (f0 : Nat) {i j : Nat} (h : i ≤ j) : 0 ≤ As y f0 j - As y f0 i ∧ As y f0 j - As y f0 i ≤ (j : Int) - i := by
  induction j with
  | zero =>
    have e : i = 0 := by omega
    subst e; omega
  | succ j ih =>
    by_cases c : i = j + 1
    · subst c; omega
    · have h1 := ih (by omega)
      rw [As_s]
      have h2 : 0 ≤ y (f0 + j) % 2 ∧ y (f0 + j) % 2 < 2 := by omega
      omega
def SL (A : Nat → Int) (m : Nat) : Int → Int → Prop := fun p q => (p = -1 ∧ q = 1) ∨ ∃ i j : Nat, i < j ∧ j ≤ m ∧ p = A j - A i - 1 ∧ q = (j : Int) - i
def SH (A : Nat → Int) (m : Nat) : Int → Int → Prop := fun p q => (p = 2 ∧ q = 1) ∨ ∃ i j : Nat, i < j ∧ j ≤ m ∧ p = A j - A i + 1 ∧ q = (j : Int) - i
/-- with the pairs (i, m + 1) for i below k -/
def SLk (A : Nat → Int) (m k : Nat) : Int → Int → Prop := fun p q => SL A m p q ∨ ∃ i : Nat, i < k ∧ p = A (m + 1) - A i - 1 ∧ q = ((m + 1 : Nat) : Int) - i
def SHk (A : Nat → Int) (m k : Nat) : Int → Int → Prop := fun p q => SH A m p q ∨ ∃ i : Nat, i < k ∧ p = A (m + 1) - A i + 1 ∧ q = ((m + 1 : Nat) : Int) - i
theorem SL_bd {y : Nat → Int} {f0 m : Nat} (hm : m ≤ 60) {p q : Int} (h : SL (As y f0) m p q) : -1 ≤ p ∧ p ≤ 60 ∧ 1 ≤ q ∧ q ≤ 60 := by
  rcases h with ⟨rfl, rfl⟩ | ⟨i, j, h1, h2, rfl, rfl⟩
  · omega
  · have := As_bd y f0 (Nat.le_of_lt h1); omega
theorem SH_bd {y : Nat → Int} {f0 m : Nat} (hm : m ≤ 60) {p q : Int} (h : SH (As y f0) m p q) : 1 ≤ p ∧ p ≤ 61 ∧ 1 ≤ q ∧ q ≤ 60 := by
  rcases h with ⟨rfl, rfl⟩ | ⟨i, j, h1, h2, rfl, rfl⟩
  · omega
  · have := As_bd y f0 (Nat.le_of_lt h1); omega
theorem SLk_bd {y : Nat → Int} {f0 m k : Nat} (hm : m < 60) (hk : k ≤ m + 1) {p q : Int} (h : SLk (As y f0) m k p q) : -1 ≤ p ∧ p ≤ 60 ∧ 1 ≤ q ∧ q ≤ 60 := by
  rcases h with h | ⟨i, h1, rfl, rfl⟩
  · exact SL_bd (by omega) h
  · have := As_bd y f0 (i := i) (j := m + 1) (by omega); omega
theorem SHk_bd {y : Nat → Int} {f0 m k : Nat} (hm : m < 60) (hk : k ≤ m + 1) {p q : Int} (h : SHk (As y f0) m k p q) : 1 ≤ p ∧ p ≤ 61 ∧ 1 ≤ q ∧ q ≤ 60 := by
  rcases h with h | ⟨i, h1, rfl, rfl⟩
  · exact SH_bd (by omega) h
  · have := As_bd y f0 (i := i) (j := m + 1) (by omega); omega
theorem SLk_0 {A : Nat → Int} {m : Nat} (p q : Int) : SL A m p q ↔ SLk A m 0 p q := ⟨Or.inl, fun h => h.elim id (fun ⟨i, h1, _⟩ => absurd h1 (by omega))⟩
theorem SHk_0 {A : Nat → Int} {m : Nat} (p q : Int) : SH A m p q ↔ SHk A m 0 p q := ⟨Or.inl, fun h => h.elim id (fun ⟨i, h1, _⟩ => absurd h1 (by omega))⟩
theorem SLk_s {A : Nat → Int} {m k : Nat} (p q : Int) : (SLk A m k p q ∨ (p = A (m + 1) - A k - 1 ∧ q = ((m + 1 : Nat) : Int) - k)) ↔ SLk A m (k + 1) p q := by
  constructor
  · rintro ((h | ⟨i, h1, h2, h3⟩) | ⟨h2, h3⟩)
    · exact Or.inl h
    · exact Or.inr ⟨i, by omega, h2, h3⟩
    · exact Or.inr ⟨k, by omega, h2, h3⟩
  · rintro (h | ⟨i, h1, h2, h3⟩)
    · exact Or.inl (Or.inl h)
    · by_cases c : i = k
      · subst c; exact Or.inr ⟨h2, h3⟩
      · exact Or.inl (Or.inr ⟨i, by omega, h2, h3⟩)
theorem SHk_s {A : Nat → Int} {m k : Nat} (p q : Int) : (SHk A m k p q ∨ (p = A (m + 1) - A k + 1 ∧ q = ((m + 1 : Nat) : Int) - k)) ↔ SHk A m (k + 1) p q := by
  constructor
  · rintro ((h | ⟨i, h1, h2, h3⟩) | ⟨h2, h3⟩)
    · exact Or.inl h
    · exact Or.inr ⟨i, by omega, h2, h3⟩
    · exact Or.inr ⟨k, by omega, h2, h3⟩
  · rintro (h | ⟨i, h1, h2, h3⟩)
    · exact Or.inl (Or.inl h)
    · by_cases c : i = k
      · subst c; exact Or.inr ⟨h2, h3⟩
      · exact Or.inl (Or.inr ⟨i, by omega, h2, h3⟩)
theorem SLk_e {A : Nat → Int} {m : Nat} (p q : Int) : SLk A m (m + 1) p q ↔ SL A (m + 1) p q := by
  constructor
  · rintro ((h | ⟨i, j, h1, h2, h3, h4⟩) | ⟨i, h1, h2, h3⟩)
    · exact Or.inl h
    · exact Or.inr ⟨i, j, h1, by omega, h3, h4⟩
    · exact Or.inr ⟨i, m + 1, h1, by omega, h2, h3⟩
  · rintro (h | ⟨i, j, h1, h2, h3, h4⟩)
    · exact Or.inl (Or.inl h)
    · by_cases c : j = m + 1
      · subst c; exact Or.inr ⟨i, h1, h3, h4⟩
      · exact Or.inl (Or.inr ⟨i, j, h1, by omega, h3, h4⟩)
theorem SHk_e {A : Nat → Int} {m : Nat} (p q : Int) : SHk A m (m + 1) p q ↔ SH A (m + 1) p q := by
  constructor
  · rintro ((h | ⟨i, j, h1, h2, h3, h4⟩) | ⟨i, h1, h2, h3⟩)
    · exact Or.inl h
    · exact Or.inr ⟨i, j, h1, by omega, h3, h4⟩
    · exact Or.inr ⟨i, m + 1, h1, by omega, h2, h3⟩
  · rintro (h | ⟨i, j, h1, h2, h3, h4⟩)
    · exact Or.inl (Or.inl h)
    · by_cases c : j = m + 1
      · subst c; exact Or.inr ⟨i, h1, h3, h4⟩
      · exact Or.inl (Or.inr ⟨i, j, h1, by omega, h3, h4⟩)
def mK (y : Nat → Int) (f0 : Nat) : Nat → Int
  | 0 => 0
  | m + 1 => xOr (mK y f0 m) (xShl 1 (y (f0 + m)))
def POk (σ : xSt) (y : Nat → Int) (f0 m : Nat) : Prop := σ 5 1 = m ∧ σ 5 2 = mK y f0 m ∧ Mx (SL (As y f0) m) (σ 5 3) (σ 5 4) ∧ Mn (SH (As y f0) m) (σ 5 5) (σ 5 6) ∧ ∀ k : Nat, k ≤ m → σ 6 k = As y f0 k
theorem sx_begin {σ : xSt} {PostV : xSt → Prop} {y : Nat → Int} {f0 : Nat} (h6 : σ 6 0 = 0) (hp : ∀ σ', eqx [5, 6] σ σ' → σ' 6 0 = σ 6 0 → POk σ' y f0 0 → PostV σ') : wp_X5_begin σ PostV := by
  unfold wp_X5_begin
  intro s1 e1 s2 e2 s3 e3 s4 e4 s5 e5 s6 e6
  subst e1 e2 e3 e4 e5 e6
  refine hp _ ?_ rfl ⟨rfl, rfl, ?_, ?_, ?_⟩
  · intro k hk
    have : k ≠ 5 := fun e => hk (by simp [e])
    simp [xU, this]
  · show Mx (SL (As y f0) 0) (-1) 1
    refine ⟨by decide, ?_, Or.inl ⟨rfl, rfl⟩⟩
    rintro p q (⟨rfl, rfl⟩ | ⟨i, j, h1, h2, -⟩)
    · decide
    · omega
  · show Mn (SH (As y f0) 0) 2 1
    refine ⟨by decide, ?_, Or.inl ⟨rfl, rfl⟩⟩
    rintro p q (⟨rfl, rfl⟩ | ⟨i, j, h1, h2, -⟩)
    · decide
    · omega
  · intro k hk
    have e : k = 0 := by omega
    subst e; exact h6
theorem sx_narrow {σ : xSt} {PostV : xSt → Prop} {a1 a2 : Int} (b1 : 0 ≤ a1) (b2 : a1 ≤ 60) (b3 : 1 ≤ a2) (b4 : a2 ≤ 60) (c1 : -1 ≤ σ 5 3) (c2 : σ 5 3 ≤ 60) (c3 : 1 ≤ σ 5 4) (c4 : σ 5 4 ≤ 60) (d1 : 1 ≤ σ 5 5) (d2 : σ 5 5 ≤ 61) (d3 : 1 ≤ σ 5 6) (d4 : σ 5 6 ≤ 60)
    (hp : ∀ σ', eqx [5] σ σ' → σ' 5 1 = σ 5 1 → σ' 5 2 = σ 5 2 → ((σ 5 3 * a2 < (a1 - 1) * σ 5 4 ∧ σ' 5 3 = a1 - 1 ∧ σ' 5 4 = a2) ∨ ((a1 - 1) * σ 5 4 ≤ σ 5 3 * a2 ∧ σ' 5 3 = σ 5 3 ∧ σ' 5 4 = σ 5 4)) → (((a1 + 1) * σ 5 6 < σ 5 5 * a2 ∧ σ' 5 5 = a1 + 1 ∧ σ' 5 6 = a2) ∨ (σ 5 5 * a2 ≤ (a1 + 1) * σ 5 6 ∧ σ' 5 5 = σ 5 5 ∧ σ' 5 6 = σ 5 6)) → PostV σ') : wp_X5_narrow a1 a2 σ PostV := by
  have r1 := mb (x := a1 - 1) (y := σ 5 4) (B := 61) (C := 61) (by omega) (by omega) (by omega) (by omega)
  have r2 := mb (x := σ 5 3) (y := a2) (B := 61) (C := 61) (by omega) (by omega) (by omega) (by omega)
  have r3 := mb (x := a1 + 1) (y := σ 5 6) (B := 61) (C := 61) (by omega) (by omega) (by omega) (by omega)
  have r4 := mb (x := σ 5 5) (y := a2) (B := 61) (C := 61) (by omega) (by omega) (by omega) (by omega)
  unfold wp_X5_narrow
  intro k hk
  have step : ∀ s : xSt, eqx [5] σ s → s 5 1 = σ 5 1 → s 5 2 = σ 5 2 → s 5 5 = σ 5 5 → s 5 6 = σ 5 6 → ((σ 5 3 * a2 < (a1 - 1) * σ 5 4 ∧ s 5 3 = a1 - 1 ∧ s 5 4 = a2) ∨ ((a1 - 1) * σ 5 4 ≤ σ 5 3 * a2 ∧ s 5 3 = σ 5 3 ∧ s 5 4 = σ 5 4)) → k s := by
    intro s q0 q1 q2 q5 q6 ql
    refine hk s ?_
    rw [q5, q6]
    refine ⟨by omega, by omega, fun c => ?_, fun c => ?_⟩
    · exact hp s q0 q1 q2 ql (Or.inr ⟨c, q5, q6⟩)
    · intro s1 e1 s2 e2
      subst e1 e2
      refine hp _ (eqx_tr q0 (eqx_tr (eqx_up s _ (by simp)) (eqx_up _ _ (by simp)))) q1 q2 ql (Or.inl ⟨c, rfl, rfl⟩)
  refine ⟨by omega, by omega, fun c => ?_, fun c => ?_⟩
  · exact step σ (eqx_rf _ _) rfl rfl rfl rfl (Or.inr ⟨c, rfl, rfl⟩)
  · intro s1 e1 s2 e2
    subst e1 e2
    exact step _ (eqx_tr (eqx_up σ _ (by simp)) (eqx_up _ _ (by simp))) rfl rfl rfl rfl (Or.inl ⟨c, rfl, rfl⟩)
theorem sx_grow {σ : xSt} {PostV : xSt → Prop} {y : Nat → Int} {f0 m : Nat} (hP : POk σ y f0 m) (hm : m < 60) {a : Int} (ha : a = y (f0 + m)) (a0 : 0 ≤ a) (a8 : a < 8) (hp : ∀ σ', eqx [5, 6] σ σ' → σ' 6 0 = σ 6 0 → POk σ' y f0 (m + 1) → PostV σ') : wp_X5_grow a σ PostV := by
  obtain ⟨p1, p2, p3, p4, p6⟩ := hP
  unfold wp_X5_grow
  refine ⟨by omega, fun c => absurd c (by omega), fun c => ⟨by omega, fun c => absurd c (by omega), fun c => ⟨by omega, fun c => ?_, fun c => absurd c (by omega)⟩⟩⟩
  intro s1 e1
  have f1 : s1 5 1 = m := by rw [e1]; exact p1
  have g1 : s1 6 = σ 6 := by rw [e1]; rfl
  refine ⟨by omega, by omega, by omega, by omega, by omega, ?_⟩
  intro s2 e2
  have f2 : s2 5 1 = m := by rw [e2]; exact f1
  intro s3 e3
  have f3 : s3 5 1 = ((m + 1 : Nat) : Int) := by rw [e3, xU_s, f2]; omega
  have m3 : s3 5 2 = mK y f0 (m + 1) := by rw [e3, e2, e1]; show xOr (σ 5 2) (xShl 1 a) = _; rw [p2, ha]; rfl
  have l3 : s3 5 3 = σ 5 3 := by rw [e3, e2, e1]; rfl
  have l4 : s3 5 4 = σ 5 4 := by rw [e3, e2, e1]; rfl
  have l5 : s3 5 5 = σ 5 5 := by rw [e3, e2, e1]; rfl
  have l6 : s3 5 6 = σ 5 6 := by rw [e3, e2, e1]; rfl
  have q3 : eqx [5, 6] σ s3 := by
    rw [e3, e2, e1]
    exact eqx_tr (eqx_tr (eqx_up σ _ (by simp)) (eqx_up _ _ (by simp))) (eqx_up _ _ (by simp))
  have a6 : ∀ k : Nat, k ≤ m + 1 → s3 6 k = As y f0 k := by
    intro k hk
    have ee : s3 6 k = xU s1 6 (s1 5 1 + 1).toNat (s1 6 (s1 5 1).toNat + Int.tmod a 2) 6 k := by rw [e3, e2]; rfl
    rw [ee, xU_i, f1]
    have en : ((m : Int) + 1).toNat = m + 1 := by omega
    have en2 : ((m : Int)).toNat = m := by omega
    rw [en, en2, g1]
    by_cases c : k = m + 1
    · rw [if_pos c, c, As_s, p6 m (Nat.le_refl m), tmod_e a0, ha]
    · rw [if_neg c]; exact p6 k (by omega)
  intro k hk
  have key := lpU (P := fun i => 0 ≤ i → ∀ s : xSt, eqx [5] s3 s → s 5 1 = ((m + 1 : Nat) : Int) → s 5 2 = mK y f0 (m + 1) → Mx (SLk (As y f0) m i.toNat) (s 5 3) (s 5 4) → Mn (SHk (As y f0) m i.toNat) (s 5 5) (s 5 6) → k i s) ((m + 1 : Nat) : Int) (fun i hi ih i0 s q0 h1 h2 hx hn => ?_) 0 (by omega) (by omega) s3 (eqx_rf _ _) f3 m3 (by rw [l3, l4]; exact Mx_c p3 SLk_0) (by rw [l5, l6]; exact Mn_c p4 SHk_0)
  · exact key
  · have s6 : s 6 = s3 6 := q0 6 (by decide)
    have bl := SLk_bd hm (by omega) hx.2.2
    have bh := SHk_bd hm (by omega) hn.2.2
    refine hk i s ⟨by omega, by omega, fun c => ?_, fun c => ⟨by omega, by omega, ?_⟩⟩
    · have e : i.toNat = m + 1 := by omega
      rw [e] at hx hn
      refine hp s (eqx_tr q3 (eqx_wk q0 (by simp))) ?_ ⟨h1, h2, Mx_c hx SLk_e, Mn_c hn SHk_e, fun k hk => by rw [s6]; exact a6 k hk⟩
      rw [s6, a6 0 (by omega), p6 0 (by omega)]
    · have ej : (s 5 1).toNat = m + 1 := by omega
      rw [ej, s6, a6 (m + 1) (Nat.le_refl _), a6 i.toNat (by omega), h1]
      have ab := As_bd y f0 (i := i.toNat) (j := m + 1) (by omega)
      refine sx_narrow (by omega) (by omega) (by omega) (by omega) (by omega) (by omega) (by omega) (by omega) (by omega) (by omega) (by omega) (by omega) (fun s' z0 z1 z2 zl zh => ?_)
      have ei : (i + 1).toNat = i.toNat + 1 := by omega
      have ev : ((m + 1 : Nat) : Int) - i = ((m + 1 : Nat) : Int) - (i.toNat : Int) := by omega
      refine ih (i + 1) (by omega) (by omega) (by omega) s' (eqx_tr q0 z0) (z1.trans h1) (z2.trans h2) ?_ ?_
      · rw [ei]
        have ma := Mx_add hx (u := As y f0 (m + 1) - As y f0 i.toNat - 1) (v := ((m + 1 : Nat) : Int) - (i.toNat : Int)) (by omega) (fun p q h => by have := SLk_bd hm (by omega) h; omega)
        rw [ev] at zl
        rcases zl with ⟨z, za, zb⟩ | ⟨z, za, zb⟩
        · rw [za, zb]; exact Mx_c (ma.1 z) SLk_s
        · rw [za, zb]; exact Mx_c (ma.2 z) SLk_s
      · rw [ei]
        have ma := Mn_add hn (u := As y f0 (m + 1) - As y f0 i.toNat + 1) (v := ((m + 1 : Nat) : Int) - (i.toNat : Int)) (by omega) (fun p q h => by have := SHk_bd hm (by omega) h; omega)
        rw [ev] at zh
        rcases zh with ⟨z, za, zb⟩ | ⟨z, za, zb⟩
        · rw [za, zb]; exact Mn_c (ma.1 z) SHk_s
        · rw [za, zb]; exact Mn_c (ma.2 z) SHk_s
