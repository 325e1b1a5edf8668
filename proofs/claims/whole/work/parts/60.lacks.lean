/-! fields that the hull has and the heap lacks -/
def Sds (n : Nat) (P : Nat → Int × Int) (q : Int × Int) : Prop := ∀ i, i < n → 0 ≤ sd (P i) (P (if i + 1 < n then i + 1 else 0)) q
def Cov (n : Nat) (P : Nat → Int × Int) (q : Int × Int) : Prop := Sds n P q ∧ (∃ c, c < n ∧ (P c).1 ≤ q.1) ∧ (∃ c, c < n ∧ q.1 ≤ (P c).1) ∧ (∃ c, c < n ∧ (P c).2 ≤ q.2) ∧ (∃ c, c < n ∧ q.2 ≤ (P c).2)
def Hul (n : Nat) (P : Nat → Int × Int) (q : Int × Int) : Prop := n ≠ 0 ∧ (n = 1 → P 0 = q) ∧ (2 ≤ n → Sds n P q) ∧ (n = 2 → ((P 0).1 ≤ q.1 ∧ q.1 ≤ (P 1).1) ∧ (((P 0).2 ≤ q.2 ∧ q.2 ≤ (P 1).2) ∨ ((P 1).2 ≤ q.2 ∧ q.2 ≤ (P 0).2)))
theorem cov_eq {n : Nat} {P : Nat → Int × Int} (q : Int × Int) (h2 : n = 2 → (P 0).1 ≤ (P 1).1) (h3 : 3 ≤ n → ∃ i, i < n ∧ ∃ j, j < n ∧ ∃ k, k < n ∧ sd (P i) (P j) (P k) ≠ 0) : Cov n P q ↔ Hul n P q := by
  constructor
  · rintro ⟨s, ⟨a, a1, a2⟩, ⟨b, b1, b2⟩, ⟨c, c1, c2⟩, ⟨d, d1, d2⟩⟩
    refine ⟨by omega, fun e => ?_, fun _ => s, fun e => ?_⟩
    · have ea : a = 0 := by omega
      have eb : b = 0 := by omega
      have ec : c = 0 := by omega
      have ed : d = 0 := by omega
      rw [ea] at a2; rw [eb] at b2; rw [ec] at c2; rw [ed] at d2
      exact Prod.ext (by omega) (by omega)
    · have h := h2 e
      have t : ∀ m : Nat, m < n → m = 0 ∨ m = 1 := by intro m hm; omega
      constructor
      · constructor
        · rcases t a a1 with e1 | e1 <;> rw [e1] at a2 <;> omega
        · rcases t b b1 with e1 | e1 <;> rw [e1] at b2 <;> omega
      · by_cases y : (P 0).2 ≤ (P 1).2
        · refine Or.inl ⟨?_, ?_⟩
          · rcases t c c1 with e1 | e1 <;> rw [e1] at c2 <;> omega
          · rcases t d d1 with e1 | e1 <;> rw [e1] at d2 <;> omega
        · refine Or.inr ⟨?_, ?_⟩
          · rcases t c c1 with e1 | e1 <;> rw [e1] at c2 <;> omega
          · rcases t d d1 with e1 | e1 <;> rw [e1] at d2 <;> omega
  · rintro ⟨n0, n1, n2, n3⟩
    by_cases c1 : n = 1
    · have e := n1 c1
      refine ⟨fun i hi => ?_, ⟨0, by omega, by rw [e]; exact Int.le_refl _⟩, ⟨0, by omega, by rw [e]; exact Int.le_refl _⟩, ⟨0, by omega, by rw [e]; exact Int.le_refl _⟩, ⟨0, by omega, by rw [e]; exact Int.le_refl _⟩⟩
      have e0 : i = 0 := by omega
      rw [if_neg (by omega), e0, sd_0]; exact Int.le_refl _
    · have s := n2 (by omega)
      by_cases c2 : n = 2
      · obtain ⟨⟨x1, x2⟩, y⟩ := n3 c2
        refine ⟨s, ⟨0, by omega, x1⟩, ⟨1, by omega, x2⟩, ?_, ?_⟩
        · rcases y with y | y
          · exact ⟨0, by omega, y.1⟩
          · exact ⟨1, by omega, y.1⟩
        · rcases y with y | y
          · exact ⟨1, by omega, y.2⟩
          · exact ⟨0, by omega, y.2⟩
      · obtain ⟨i, i1, j, j1, k, k1, ne⟩ := h3 (by omega)
        have no : ∀ al be : Int, ¬ ∀ c, c < n → lf al be q (P c) < 0 := fun al be hl => ne (flat hl s i1 j1 k1)
        refine ⟨s, Classical.byContradiction (fun w => no (-1) 0 (fun c hc => ?_)), Classical.byContradiction (fun w => no 1 0 (fun c hc => ?_)), Classical.byContradiction (fun w => no 0 (-1) (fun c hc => ?_)), Classical.byContradiction (fun w => no 0 1 (fun c hc => ?_))⟩
        · have : ¬ (P c).1 ≤ q.1 := fun e => w ⟨c, hc, e⟩
          unfold lf; omega
        · have : ¬ q.1 ≤ (P c).1 := fun e => w ⟨c, hc, e⟩
          unfold lf; omega
        · have : ¬ (P c).2 ≤ q.2 := fun e => w ⟨c, hc, e⟩
          unfold lf; omega
        · have : ¬ q.2 ≤ (P c).2 := fun e => w ⟨c, hc, e⟩
          unfold lf; omega
theorem sx_inBox {σ : xSt} {Post : Int → Prop} {n : Nat} (hn : σ 15 2 = (n : Int)) (n24 : n ≤ 24) (hB : ∀ i, i < n → 0 ≤ σ 16 i ∧ σ 16 i ≤ 11 ∧ 0 ≤ σ 17 i ∧ σ 17 i ≤ 11) {a b : Int} (ha : xR a) (hb : xR b) (hp : Post (cI ((∃ c, c < n ∧ σ 16 c ≤ a) ∧ (∃ c, c < n ∧ a ≤ σ 16 c) ∧ (∃ c, c < n ∧ σ 17 c ≤ b) ∧ (∃ c, c < n ∧ b ≤ σ 17 c)))) : wp_X3_inBox a b σ Post := by
  unfold wp_X3_inBox
  intro k hk
  have key := lpU (P := fun x => 0 ≤ x → ∀ f1 f2 f3 f4 : Int, (f1 = 0 ∨ f1 = 1) → (f2 = 0 ∨ f2 = 1) → (f3 = 0 ∨ f3 = 1) → (f4 = 0 ∨ f4 = 1) → (f1 ≠ 0 ↔ ∃ c : Nat, (c : Int) < x ∧ σ 16 c ≤ a) → (f2 ≠ 0 ↔ ∃ c : Nat, (c : Int) < x ∧ a ≤ σ 16 c) → (f3 ≠ 0 ↔ ∃ c : Nat, (c : Int) < x ∧ σ 17 c ≤ b) → (f4 ≠ 0 ↔ ∃ c : Nat, (c : Int) < x ∧ b ≤ σ 17 c) → k f1 f2 f3 f4 x) (n : Int) (fun x hx ih x0 f1 f2 f3 f4 b1 b2 b3 b4 i1 i2 i3 i4 => ?_) 0 (by omega) (by omega) 0 0 0 0 (Or.inl rfl) (Or.inl rfl) (Or.inl rfl) (Or.inl rfl) ⟨fun q => absurd rfl q, fun ⟨c, c1, _⟩ => absurd c1 (by omega)⟩ ⟨fun q => absurd rfl q, fun ⟨c, c1, _⟩ => absurd c1 (by omega)⟩ ⟨fun q => absurd rfl q, fun ⟨c, c1, _⟩ => absurd c1 (by omega)⟩ ⟨fun q => absurd rfl q, fun ⟨c, c1, _⟩ => absurd c1 (by omega)⟩
  · exact key
  · refine hk f1 f2 f3 f4 x ?_
    rw [hn]
    refine ⟨by omega, by omega, fun c => ?_, fun c => ?_⟩
    · have ex : x = (n : Int) := by omega
      have tr : ∀ {R : Nat → Prop}, (∃ c : Nat, (c : Int) < x ∧ R c) → ∃ c, c < n ∧ R c := fun ⟨c, c1, c2⟩ => ⟨c, by omega, c2⟩
      have rt : ∀ {R : Nat → Prop}, (∃ c, c < n ∧ R c) → ∃ c : Nat, (c : Int) < x ∧ R c := fun ⟨c, c1, c2⟩ => ⟨c, by omega, c2⟩
      refine ⟨r01 b1, fun q => ?_, fun q1 => ⟨r01 b2, fun q => ?_, fun q2 => ⟨r01 b3, fun q => ?_, fun q3 => ⟨r01 b4, fun q => ?_, fun q4 => ?_⟩⟩⟩⟩
      · rw [cI_f (fun w => i1.mpr (rt w.1) q)] at hp; exact hp
      · rw [cI_f (fun w => i2.mpr (rt w.2.1) q)] at hp; exact hp
      · rw [cI_f (fun w => i3.mpr (rt w.2.2.1) q)] at hp; exact hp
      · rw [cI_f (fun w => i4.mpr (rt w.2.2.2) q)] at hp; exact hp
      · rw [cI_t ⟨tr (i1.mp q1), tr (i2.mp q2), tr (i3.mp q3), tr (i4.mp q4)⟩] at hp; exact hp
    · have ex : ((x.toNat : Nat) : Int) = x := by omega
      have bx := hB x.toNat (by omega)
      have ext : ∀ {R : Nat → Prop} {f e : Int}, (f ≠ 0 ↔ ∃ c : Nat, (c : Int) < x ∧ R c) → (e ≠ 0 ↔ (f ≠ 0 ∨ R x.toNat)) → (e ≠ 0 ↔ ∃ c : Nat, (c : Int) < x + 1 ∧ R c) := by
        intro R f e h1 h2
        rw [h2, h1]
        constructor
        · rintro (⟨c, c1, c2⟩ | q)
          · exact ⟨c, by omega, c2⟩
          · exact ⟨x.toNat, by omega, q⟩
        · rintro ⟨c, c1, c2⟩
          by_cases cc : (c : Int) < x
          · exact Or.inl ⟨c, cc, c2⟩
          · have ec : c = x.toNat := by omega
            rw [ec] at c2; exact Or.inr c2
      have last : ∀ e1 e2 e3 e4 : Int, (e1 = 0 ∨ e1 = 1) → (e2 = 0 ∨ e2 = 1) → (e3 = 0 ∨ e3 = 1) → (e4 = 0 ∨ e4 = 1) → (e1 ≠ 0 ↔ (f1 ≠ 0 ∨ σ 16 x.toNat ≤ a)) → (e2 ≠ 0 ↔ (f2 ≠ 0 ∨ a ≤ σ 16 x.toNat)) → (e3 ≠ 0 ↔ (f3 ≠ 0 ∨ σ 17 x.toNat ≤ b)) → (e4 ≠ 0 ↔ (f4 ≠ 0 ∨ b ≤ σ 17 x.toNat)) → k e1 e2 e3 e4 (x + 1) := by
        intro e1 e2 e3 e4 z1 z2 z3 z4 w1 w2 w3 w4
        exact ih (x + 1) (by omega) (by omega) (by omega) _ _ _ _ z1 z2 z3 z4 (ext (R := fun c => σ 16 c ≤ a) i1 w1) (ext (R := fun c => a ≤ σ 16 c) i2 w2) (ext (R := fun c => σ 17 c ≤ b) i3 w3) (ext (R := fun c => b ≤ σ 17 c) i4 w4)
      have o01 : ((1 : Int) = 0 ∨ (1 : Int) = 1) := Or.inr rfl
      have z01 : ((0 : Int) = 0 ∨ (0 : Int) = 1) := Or.inl rfl
      have l1 : ∀ {f : Int} {R : Prop}, f ≠ 0 → ((1 : Int) ≠ 0 ↔ (f ≠ 0 ∨ R)) := fun q => ⟨fun _ => Or.inl q, fun _ => by decide⟩
      have l2 : ∀ {f : Int} {R : Prop}, R → ((1 : Int) ≠ 0 ↔ (f ≠ 0 ∨ R)) := fun q => ⟨fun _ => Or.inr q, fun _ => by decide⟩
      have l3 : ∀ {f : Int} {R : Prop}, f = 0 → ¬ R → ((0 : Int) ≠ 0 ↔ (f ≠ 0 ∨ R)) := fun q d => ⟨fun w => absurd rfl w, fun w => w.elim (fun v => absurd q v) (fun v => absurd v d)⟩
      intro k1 hk1
      have g1 : ∀ e1 : Int, (e1 = 0 ∨ e1 = 1) → (e1 ≠ 0 ↔ (f1 ≠ 0 ∨ σ 16 x.toNat ≤ a)) → k1 e1 := by
        intro e1 z1 w1
        refine hk1 e1 ?_
        intro k2 hk2
        have g2 : ∀ e2 : Int, (e2 = 0 ∨ e2 = 1) → (e2 ≠ 0 ↔ (f2 ≠ 0 ∨ a ≤ σ 16 x.toNat)) → k2 e2 := by
          intro e2 z2 w2
          refine hk2 e2 ?_
          intro k3 hk3
          have g3 : ∀ e3 : Int, (e3 = 0 ∨ e3 = 1) → (e3 ≠ 0 ↔ (f3 ≠ 0 ∨ σ 17 x.toNat ≤ b)) → k3 e3 := by
            intro e3 z3 w3
            exact hk3 e3 ⟨r01 b4, fun q => last e1 e2 e3 1 z1 z2 z3 o01 w1 w2 w3 (l1 q), fun q => ⟨by omega, hb, by omega, fun d => last e1 e2 e3 0 z1 z2 z3 z01 w1 w2 w3 (l3 q (by omega)), fun d => last e1 e2 e3 1 z1 z2 z3 o01 w1 w2 w3 (l2 d)⟩⟩
          exact ⟨r01 b3, fun q => g3 1 o01 (l1 q), fun q => ⟨by omega, hb, by omega, fun d => g3 0 z01 (l3 q (by omega)), fun d => g3 1 o01 (l2 d)⟩⟩
        exact ⟨r01 b2, fun q => g2 1 o01 (l1 q), fun q => ⟨by omega, ha, by omega, fun d => g2 0 z01 (l3 q (by omega)), fun d => g2 1 o01 (l2 d)⟩⟩
      exact ⟨r01 b1, fun q => g1 1 o01 (l1 q), fun q => ⟨by omega, ha, by omega, fun d => g1 0 z01 (l3 q (by omega)), fun d => g1 1 o01 (l2 d)⟩⟩
theorem sx_sideI {σ : xSt} {Post : Int → Prop} {i j : Nat} (hi : i < 24) (hj : j < 24) {q : Int × Int} (hp : Post (sd (σ 16 i, σ 17 i) (σ 16 j, σ 17 j) q)) : wp_X3_side (i : Int) (j : Int) q.1 q.2 σ Post := by
  have e0 : ((i : Int)).toNat = i := by omega
  have e1 : ((j : Int)).toNat = j := by omega
  unfold wp_X3_side
  rw [e0, e1]
  exact ⟨by omega, fun c => absurd c (by omega), fun _ => ⟨by omega, fun c => absurd c (by omega), fun _ => ⟨by omega, fun c => absurd c (by omega), fun _ => ⟨by omega, fun _ => ⟨by omega, by omega, by omega, by omega, by omega, by omega, hp⟩, fun c => absurd c (by omega)⟩⟩⟩⟩
theorem sx_covers {σ : xSt} {Post : Int → Prop} {n : Nat} (hn : σ 15 2 = (n : Int)) (n24 : n ≤ 24) (hB : ∀ i, i < n → 0 ≤ σ 16 i ∧ σ 16 i ≤ 11 ∧ 0 ≤ σ 17 i ∧ σ 17 i ≤ 11) {q : Int × Int} (hq : 0 ≤ q.1 ∧ q.1 ≤ 11 ∧ 0 ≤ q.2 ∧ q.2 ≤ 11) (hp : Post (cI (Cov n (fun i => (σ 16 i, σ 17 i)) q))) : wp_X3_covers q.1 q.2 σ Post := by
  unfold wp_X3_covers
  intro k hk
  have key := lpU (P := fun x => 0 ≤ x → (∀ i : Nat, (i : Int) < x → 0 ≤ sd (σ 16 i, σ 17 i) (σ 16 (if i + 1 < n then i + 1 else 0), σ 17 (if i + 1 < n then i + 1 else 0)) q) → k x) (n : Int) (fun x hx ih x0 hs => ?_) 0 (by omega) (by omega) (fun i hi => absurd hi (by omega))
  · exact key
  · refine hk x ?_
    rw [hn]
    refine ⟨by omega, by omega, fun c => ?_, fun c => ?_⟩
    · have s : Sds n (fun i => (σ 16 i, σ 17 i)) q := fun i hi => hs i (by omega)
      refine sx_inBox hn n24 hB (by omega) (by omega) ⟨cI_01 _, ?_⟩
      have e : cI ((∃ c, c < n ∧ σ 16 c ≤ q.1) ∧ (∃ c, c < n ∧ q.1 ≤ σ 16 c) ∧ (∃ c, c < n ∧ σ 17 c ≤ q.2) ∧ (∃ c, c < n ∧ q.2 ≤ σ 17 c)) = cI (Cov n (fun i => (σ 16 i, σ 17 i)) q) := cI_c ⟨fun w => ⟨s, w⟩, fun w => w.2⟩
      rw [e]; exact hp
    · have ex : ((x.toNat : Nat) : Int) = x := by omega
      have bx := hB x.toNat (by omega)
      intro k2 hk2
      have go : ∀ j : Nat, j = (if x.toNat + 1 < n then x.toNat + 1 else 0) → k2 (j : Int) := by
        intro j ej
        have jn : j < n := by rw [ej]; split <;> omega
        have bj := hB j jn
        have sb := sd_bd (a := (σ 16 x.toNat, σ 17 x.toNat)) (b := (σ 16 j, σ 17 j)) (p := q) bx bj hq
        have pr := sx_sideI (σ := σ) (Post := fun r35 => xR r35 ∧ (0 ≤ r35 → k (x + 1)) ∧ (r35 < 0 → Post 0)) (i := x.toNat) (j := j) (by omega) (by omega) (q := q) ⟨sb, fun w => ih (x + 1) (by omega) (by omega) (by omega) (fun i hi => ?_), fun w => ?_⟩
        · refine hk2 (j : Int) ?_
          rw [ex] at pr; exact pr
        · by_cases ci : (i : Int) < x
          · exact hs i ci
          · have ei : i = x.toNat := by omega
            rw [ei, ← ej]; exact w
        · rw [cI_f] at hp
          · exact hp
          · intro cv
            have s := cv.1 x.toNat (by omega)
            rw [← ej] at s
            exact absurd (show 0 ≤ sd (σ 16 x.toNat, σ 17 x.toNat) (σ 16 j, σ 17 j) q from s) (by omega)
      refine ⟨by omega, by omega, fun d => ?_, fun d => ?_⟩
      · exact go 0 (by rw [if_neg (by omega)])
      · have g := go (x.toNat + 1) (by rw [if_pos (by omega)])
        have e : ((x.toNat + 1 : Nat) : Int) = x + 1 := by omega
        rw [e] at g; exact g
theorem sx_lacks {σ : xSt} {Post : Int → Prop} (hG : GOk (σ 7 1) (σ 7 2) (σ 8)) {N : Nat} (hN : (N : Int) = σ 7 1 * σ 7 2) {n : Nat} (hn : σ 15 2 = (n : Int)) (n24 : n ≤ 24) (hB : ∀ i, i < n → 0 ≤ σ 16 i ∧ σ 16 i ≤ 11 ∧ 0 ≤ σ 17 i ∧ σ 17 i ≤ 11) (hp : Post (sI (fun f => cI (σ 8 f = 0 ∧ Cov n (fun i => (σ 16 i, σ 17 i)) ((f : Int) % σ 7 1, (f : Int) / σ 7 1))) N)) : wp_X3_lacks σ Post := by
  have hN1 := hG.N
  obtain ⟨g1, g2, g3, g4, -⟩ := id hG
  unfold wp_X3_lacks
  intro k hk
  have key := lpU (P := fun x => 0 ≤ x → k (sI (fun f => cI (σ 8 f = 0 ∧ Cov n (fun i => (σ 16 i, σ 17 i)) ((f : Int) % σ 7 1, (f : Int) / σ 7 1))) x.toNat) x) (N : Int) (fun x hx ih x0 => ?_) 0 (by omega) (by omega)
  · exact key
  · refine hk _ x (sx_fields ?_)
    rw [← hN]
    refine ⟨by omega, by omega, fun c => ?_, fun c => sx_holds hG (by omega) ?_⟩
    · have ex : x.toNat = N := by omega
      rw [ex]; exact hp
    · rw [hV_in x0 (by omega)]
      have ex : ((x.toNat : Nat) : Int) = x := by omega
      have st := ih (x + 1) (by omega) (by omega) (by omega)
      rw [sI_s _ x0, ex] at st
      have hF := fxy (w := σ 7 1) (h := σ 7 2) g1 x0 (by omega)
      refine ⟨r01 (hG.2.2.2.2 _), fun d => ?_, fun d => sx_col hG (by omega) x0 (sx_line hG (by omega) x0 ?_)⟩
      · rw [cI_f (fun q => d q.1), Int.add_zero] at st; exact st
      · refine sx_covers hn n24 hB (q := (x % σ 7 1, x / σ 7 1)) ⟨hF.1, by show x % σ 7 1 ≤ 11; omega, hF.2.2.1, by show x / σ 7 1 ≤ 11; omega⟩ ⟨r01 (cI_01 _), fun q => ?_, fun q => ?_⟩
        · rw [cI_f (fun w => cI_z.mp q w.2), Int.add_zero] at st; exact st
        · rw [cI_t ⟨d, cI_nz.mp q⟩] at st; exact st
theorem sm_inHull {σ : xSt} {Post : Int → Prop} (hG : GOk (σ 0 5) (σ 0 6) (σ 4)) {n : Nat} (n24 : n ≤ 24) {P : Nat → Int × Int} (hP : ∀ i, i < n → σ 9 i = (P i).2 * σ 0 5 + (P i).1 ∧ 0 ≤ (P i).1 ∧ (P i).1 < σ 0 5 ∧ 0 ≤ (P i).2 ∧ (P i).2 < σ 0 6) {f : Int} (f0 : 0 ≤ f) (f1 : f < σ 0 5 * σ 0 6) (hp : Post (cI (Hul n P (f % σ 0 5, f / σ 0 5)))) : wp_X10_inHull (n : Int) f σ Post := by
  have hN1 := hG.N
  obtain ⟨g1, g2, g3, g4, -⟩ := id hG
  have hF := fxy (w := σ 0 5) (h := σ 0 6) g1 f0 f1
  have hD : ∀ i, i < n → 0 ≤ σ 9 i ∧ σ 9 i < 144 ∧ σ 9 i % σ 0 5 = (P i).1 ∧ σ 9 i / σ 0 5 = (P i).2 := by
    intro i hi
    obtain ⟨p1, p2, p3, p4, p5⟩ := hP i hi
    have q := fN (w := σ 0 5) (h := σ 0 6) g1 p2 p3 p4 p5
    rw [p1]
    exact ⟨q.1, by omega, q.2.2.1, q.2.2.2⟩
  unfold wp_X10_inHull
  refine ⟨by omega, fun c => ?_, fun c => ⟨by omega, fun d => ?_, fun d => ?_⟩⟩
  · intro k hk
    have key := lpU (P := fun x => 0 ≤ x → ∀ b : Int, (b = 0 ∨ b = 1) → (b ≠ 0 ↔ ∀ i : Nat, (i : Int) < x → 0 ≤ sd (P i) (P (if i + 1 < n then i + 1 else 0)) (f % σ 0 5, f / σ 0 5)) → k b x) (n : Int) (fun x hx ih x0 b hb hi => ?_) 0 (by omega) (by omega) 1 (Or.inr rfl) ⟨fun _ i h1 => absurd h1 (by omega), fun _ => by omega⟩
    · exact key
    · refine hk b x ⟨by omega, by omega, fun d => ⟨by omega, fun e => ⟨hb, ?_⟩, fun e => ⟨r01 hb, fun q => ?_, fun q => ?_⟩⟩, fun d => ⟨r01 hb, fun q => ?_, fun q => ⟨by omega, by omega, by omega, by omega, ?_⟩⟩⟩
      · have eS : b ≠ 0 ↔ Hul n P (f % σ 0 5, f / σ 0 5) := by
          rw [hi]
          exact ⟨fun w => ⟨by omega, fun w1 => absurd w1 (by omega), fun _ i i1 => w i (by omega), fun w1 => absurd w1 (by omega)⟩, fun w i i1 => w.2.2.1 (by omega) i (by omega)⟩
        rcases hb with e1 | e1
        · rw [cI_f (fun w => eS.mpr w e1)] at hp
          rw [e1]; exact hp
        · rw [cI_t (eS.mp (by omega))] at hp
          rw [e1]; exact hp
      · rw [cI_f] at hp
        · exact hp
        · intro w
          exact absurd q (hi.mpr (fun i i1 => w.2.2.1 (by omega) i (by omega)))
      · have n2 : n = 2 := by omega
        have s := hi.mp q
        have d0 := hD 0 (by omega)
        have d1 := hD 1 (by omega)
        have p0 := hP 0 (by omega)
        have p1 := hP 1 (by omega)
        rw [tmod_e f0, tdiv_e f0, tmod_e d0.1, tdiv_e d0.1, tmod_e d1.1, tdiv_e d1.1, d0.2.2.1, d0.2.2.2, d1.2.2.1, d1.2.2.2]
        have yes : ((P 0).1 ≤ f % σ 0 5 ∧ f % σ 0 5 ≤ (P 1).1) → (((P 0).2 ≤ f / σ 0 5 ∧ f / σ 0 5 ≤ (P 1).2) ∨ ((P 1).2 ≤ f / σ 0 5 ∧ f / σ 0 5 ≤ (P 0).2)) → Post 1 := by
          intro w1 w2
          rw [cI_t ⟨by omega, fun w => absurd w (by omega), fun _ i i1 => s i (by omega), fun _ => ⟨w1, w2⟩⟩] at hp; exact hp
        have non : ¬ (((P 0).1 ≤ f % σ 0 5 ∧ f % σ 0 5 ≤ (P 1).1) ∧ (((P 0).2 ≤ f / σ 0 5 ∧ f / σ 0 5 ≤ (P 1).2) ∨ ((P 1).2 ≤ f / σ 0 5 ∧ f / σ 0 5 ≤ (P 0).2))) → Post 0 := by
          intro w1
          rw [cI_f (fun w => w1 (w.2.2.2 n2))] at hp; exact hp
        refine ⟨by omega, by omega, by omega, by omega, by omega, by omega, by omega, by omega, by omega, by omega, by omega, by omega, sm_in (by omega) (by omega) (by omega) (br_z (fun w => non (fun v => w v.1)) (fun w => ?_))⟩
        refine ⟨by omega, by omega, by omega, by omega, by omega, by omega, by omega, by omega, by omega, by omega, by omega, by omega, sm_in (by omega) (by omega) (by omega) (br_n (fun w2 => yes w (Or.inl w2)) (fun w2 => ?_))⟩
        refine ⟨by omega, by omega, by omega, by omega, by omega, by omega, by omega, by omega, by omega, by omega, by omega, by omega, sm_in (by omega) (by omega) (by omega) (br_z (fun w3 => non (fun v => v.2.elim w2 w3)) (fun w3 => yes w (Or.inr w3)))⟩
      · refine ih (x + 1) (by omega) (by omega) (by omega) 0 (Or.inl rfl) ⟨fun w => absurd rfl w, fun w => ?_⟩
        exact absurd q (hi.mpr (fun i i1 => w i (by omega)))
      · have ex : ((x.toNat : Nat) : Int) = x := by omega
        have em : Int.tmod (x + 1) (n : Int) = ((if x.toNat + 1 < n then x.toNat + 1 else 0 : Nat) : Int) := by
          rw [tmod_e (by omega)]
          by_cases c1 : x.toNat + 1 < n
          · rw [if_pos c1, Int.emod_eq_of_lt (by omega) (by omega)]; omega
          · rw [if_neg c1]
            have : x + 1 = (n : Int) := by omega
            rw [this, Int.emod_self]; rfl
        generalize ej : (if x.toNat + 1 < n then x.toNat + 1 else 0) = j at em
        have jn : j < n := by rw [← ej]; split <;> omega
        rw [em]
        have ejn : ((j : Int)).toNat = j := by omega
        rw [ejn]
        have px := hP x.toNat (by omega)
        have pj := hP j jn
        have sb := sd_bd (a := P x.toNat) (b := P j) (p := (f % σ 0 5, f / σ 0 5)) (by omega) (by omega) ⟨hF.1, by show f % σ 0 5 ≤ 11; omega, hF.2.2.1, by show f / σ 0 5 ≤ 11; omega⟩
        refine ⟨by omega, sm_side hG (a := P x.toNat) (b := P j) (p := (f % σ 0 5, f / σ 0 5)) px.2 pj.2 ⟨hF.1, hF.2.1, hF.2.2.1, hF.2.2.2.1⟩ px.1 pj.1 hF.2.2.2.2.symm ⟨sb, fun w => ?_, fun w => ?_⟩⟩
        · refine ih (x + 1) (by omega) (by omega) (by omega) 0 (Or.inl rfl) ⟨fun v => absurd rfl v, fun v => ?_⟩
          have s := v x.toNat (by omega)
          rw [ej] at s
          omega
        · refine ih (x + 1) (by omega) (by omega) (by omega) 1 (Or.inr rfl) ⟨fun _ i i1 => ?_, fun _ => by omega⟩
          by_cases ci : (i : Int) < x
          · exact hi.mp q i ci
          · have ei : i = x.toNat := by omega
            rw [ei, ej]; exact w
  · rw [cI_f (fun w => absurd w.1 (by omega))] at hp; exact hp
  · have n1 : n = 1 := by omega
    have d0 := hD 0 (by omega)
    refine ⟨by omega, by omega, fun q => ?_, fun q => ?_⟩
    · rw [cI_f] at hp
      · exact hp
      · intro w
        have e := w.2.1 n1
        have p1 := (hP 0 (by omega)).1
        rw [e] at p1
        exact q (p1.trans hF.2.2.2.2)
    · rw [cI_t] at hp
      · exact hp
      · refine ⟨by omega, fun _ => ?_, fun w => absurd w (by omega), fun w => absurd w (by omega)⟩
        rw [q] at d0
        exact Prod.ext d0.2.2.1.symm d0.2.2.2.symm
