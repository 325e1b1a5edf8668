/-! a row poured into the heap -/
abbrev Inn (w h : Int) (X Y : Nat → Int) (i : Nat) : Prop := 0 ≤ X i ∧ X i < w ∧ 0 ≤ Y i ∧ Y i < h
def Wl (w : Int) (X Y : Nat → Int) (n : Int) (g : Nat) : Prop := ∃ i : Nat, (i : Int) < n ∧ Y i * w + X i = (g : Int)
theorem Wl_s {w : Int} {X Y : Nat → Int} {n : Int} (n0 : 0 ≤ n) {g : Nat} : Wl w X Y (n + 1) g ↔ (Y n.toNat * w + X n.toNat = (g : Int) ∨ Wl w X Y n g) := by
  constructor
  · rintro ⟨i, i1, i2⟩
    by_cases c : (i : Int) < n
    · exact Or.inr ⟨i, c, i2⟩
    · have e : i = n.toNat := by omega
      rw [← e]; exact Or.inl i2
  · rintro (q | ⟨i, i1, i2⟩)
    · exact ⟨n.toNat, by omega, q⟩
    · exact ⟨i, by omega, i2⟩
theorem sx_follow {σ : xSt} {Post : Int → xSt → Prop} (hG : GOk (σ 7 1) (σ 7 2) (σ 8)) (n1 : 0 ≤ σ 1 3) (n2 : σ 1 3 ≤ 60) {a : Int} (a0 : 0 ≤ a) (a1 : a < σ 7 1 * σ 7 2) {X Y : Nat → Int}
    (hX : ∀ i : Nat, (i : Int) ≤ σ 1 3 → X i = a % σ 7 1 + σ 3 i ∧ -60 ≤ σ 3 i ∧ σ 3 i ≤ 60) (hY : ∀ i : Nat, (i : Int) ≤ σ 1 3 → Y i = a / σ 7 1 + σ 4 i ∧ -60 ≤ σ 4 i ∧ σ 4 i ≤ 60)
    (h1 : (∀ i : Nat, (i : Int) ≤ σ 1 3 → Inn (σ 7 1) (σ 7 2) X Y i) → ∀ s', eqx [14] σ s' → (∀ g : Nat, g < 144 → s' 14 g = cI (Wl (σ 7 1) X Y (σ 1 3 + 1) g)) → Post 1 s')
    (h0 : ¬ (∀ i : Nat, (i : Int) ≤ σ 1 3 → Inn (σ 7 1) (σ 7 2) X Y i) → ∀ s', eqx [14] σ s' → Post 0 s') : wp_X8_follow a σ Post := by
  have hN1 := hG.N
  obtain ⟨g1, g2, g3, g4, -⟩ := id hG
  have hF := fxy hG.1 a0 a1
  unfold wp_X8_follow
  intro k hk
  have key := lpU (P := fun x => 0 ≤ x → ∀ s : xSt, eqx [14] σ s → (∀ i : Nat, (i : Int) < x → s 14 i = 0) → k x s) 144 (fun x hx ih x0 s qs h14 => ?_) 0 (by omega) (by omega) σ (eqx_rf _ _) (fun i hi => absurd hi (by omega))
  · exact key
  · refine hk x s ⟨by omega, fun c => ?_, fun c => ⟨by omega, ?_⟩⟩
    · have s7 : s 7 = σ 7 := qs 7 (by decide)
      have s8 : s 8 = σ 8 := qs 8 (by decide)
      have gs : GOk (s 7 1) (s 7 2) (s 8) := by rw [s7, s8]; exact hG
      refine sx_col gs (by omega) a0 (sx_line gs (by omega) a0 ?_)
      rw [s7]
      intro k2 hk2
      have key2 := lpU (P := fun z => 0 ≤ z → ∀ u : xSt, eqx [14] σ u → (∀ i : Nat, (i : Int) < z → Inn (σ 7 1) (σ 7 2) X Y i) → (∀ g : Nat, g < 144 → u 14 g = cI (Wl (σ 7 1) X Y z g)) → k2 z u) (σ 1 3 + 1) (fun z hz ih2 z0 u qu hi hw => ?_) 0 (by omega) (by omega) s qs (fun i hi => absurd hi (by omega)) (fun g hg => by rw [h14 g (by omega), cI_f (fun ⟨i, i1, _⟩ => absurd i1 (by omega))])
      · exact key2
      · have u1 : u 1 = σ 1 := qu 1 (by decide)
        have u3 : u 3 = σ 3 := qu 3 (by decide)
        have u4 : u 4 = σ 4 := qu 4 (by decide)
        have u7 : u 7 = σ 7 := qu 7 (by decide)
        have u8 : u 8 = σ 8 := qu 8 (by decide)
        have gu : GOk (u 7 1) (u 7 2) (u 8) := by rw [u7, u8]; exact hG
        refine hk2 z u (sx_steps ?_)
        rw [u1]
        refine ⟨by omega, by omega, fun d => ?_, fun d => sx_xOf z0 (by rw [u1]; exact d) (by rw [u1]; exact n2) (sx_yOf z0 (by rw [u1]; exact d) (by rw [u1]; exact n2) ?_)⟩
        · have ez : z = σ 1 3 + 1 := by omega
          rw [ez] at hw
          exact h1 (fun i hi2 => hi i (by omega)) u qu hw
        · rw [u3, u4]
          have ex := hX z.toNat (by omega)
          have ey := hY z.toNat (by omega)
          rw [← ex.1, ← ey.1]
          refine sx_fieldAt gu (by omega) (by omega) ?_
          rw [u7]
          by_cases ci : Inn (σ 7 1) (σ 7 2) X Y z.toNat
          · have hf := fN (w := σ 7 1) (h := σ 7 2) hG.1 ci.1 ci.2.1 ci.2.2.1 ci.2.2.2
            rw [if_pos ci]
            refine sx_knows gu (by omega) (br_n (fun _ => ⟨by omega, ?_⟩) (fun q => absurd (by rw [u7]; exact ⟨hf.1, hf.2.1⟩) q))
            intro u' e'; subst e'
            refine ih2 (z + 1) (by omega) (by omega) (by omega) _ (eqx_tr qu (eqx_up u _ (by simp))) (fun i hi2 => ?_) (fun g hg => ?_)
            · by_cases c3 : (i : Int) < z
              · exact hi i c3
              · have e : i = z.toNat := by omega
                rw [e]; exact ci
            · rw [xU_i]
              by_cases cg : g = (Y z.toNat * σ 7 1 + X z.toNat).toNat
              · rw [if_pos cg, cI_t ((Wl_s z0).mpr (Or.inl (by omega)))]
              · rw [if_neg cg, hw g hg]
                exact cI_c ⟨fun q => (Wl_s z0).mpr (Or.inr q), fun q => ((Wl_s z0).mp q).resolve_left (fun e => cg (by omega))⟩
          · rw [if_neg ci]
            exact sx_knows gu (by omega) (br_n (fun q => absurd q (by omega)) (fun _ => h0 (fun q => ci (q _ (by omega))) u qu))
    · intro s' e'; subst e'
      refine ih (x + 1) (by omega) (by omega) (by omega) _ (eqx_tr qs (eqx_up s _ (by simp))) (fun i hi => ?_)
      rw [xU_i]
      by_cases ci : i = x.toNat
      · rw [if_pos ci]
      · rw [if_neg ci]; exact h14 i (by omega)
theorem sx_comesToEdge {σ : xSt} {Post : Int → Prop} {N : Nat} (hN : N ≤ 144) {w h : Int} (hL : ∀ g, g < N → σ 10 g = -999 ∨ (0 ≤ σ 10 g ∧ σ 10 g < N)) (ho : ∀ i : Nat, i < N → (σ 12 i = 0 ∨ σ 12 i = 1) ∧ (σ 12 i ≠ 0 ↔ Opn N w h (σ 10) (i : Int))) {f : Int} (f0 : 0 ≤ f) (f1 : f < N) (hp : Post (cI (σ 10 f.toNat ≠ -999 ∧ Opn N w h (σ 10) (σ 10 f.toNat)))) : wp_X4_comesToEdge f σ Post := by
  unfold wp_X4_comesToEdge
  have bd := hL f.toNat (by omega)
  refine ⟨by omega, fun c => absurd c (by omega), fun c => ⟨by omega, fun c => absurd c (by omega), fun c => ⟨by omega, by omega, fun c => ?_, fun c => ⟨by omega, fun c => absurd c (by omega), fun c => ⟨by omega, ?_⟩⟩⟩⟩⟩
  · rw [cI_f (fun q => q.1 (by omega))] at hp; exact hp
  · obtain ⟨o1, o2⟩ := ho (σ 10 f.toNat).toNat (by omega)
    have e : (((σ 10 f.toNat).toNat : Nat) : Int) = σ 10 f.toNat := by omega
    rw [e] at o2
    refine ⟨r01 o1, fun q => ?_, fun q => ?_⟩
    · rw [cI_f (fun w => o2.mpr w.2 q)] at hp; exact hp
    · rw [cI_t ⟨by omega, o2.mp q⟩] at hp; exact hp
theorem sx_shutIn {σ : xSt} {Post : xSt → Prop} (hG : GOk (σ 7 1) (σ 7 2) (σ 8)) {N : Nat} (hN : (N : Int) = σ 7 1 * σ 7 2) (hD : ∀ g, g < N → σ 14 g = 0 ∨ σ 14 g = 1)
    (hp : ∀ s' L, eqx [10, 11, 12, 14] σ s' → Lab N (fun g => g < N ∧ σ 14 g = 0) (adj (σ 7 1) 0) L → (∀ g, g < N → s' 14 g = cI (σ 14 g ≠ 0 ∨ ¬ Opn N (σ 7 1) (σ 7 2) L (L g))) → Post s') : wp_X8_shutIn σ Post := by
  have hN1 := hG.N
  unfold wp_X8_shutIn
  refine sx_split (by decide) (by decide) hG hN hD (by omega) (by omega) (fun s qs hl => ?_)
  have s7 : s 7 = σ 7 := qs 7 (by decide)
  have s8 : s 8 = σ 8 := qs 8 (by decide)
  have s14 : s 14 = σ 14 := qs 14 (by decide)
  refine sx_findOpen (by rw [s7, s8]; exact hG) (N := N) (by rw [s7]; exact hN) (fun g hg => Lab_bd hl hg) (fun t qt ho => ?_)
  have t10 : t 10 = s 10 := qt 10 (by decide)
  have t14 : t 14 = σ 14 := (qt 14 (by decide)).trans s14
  rw [s7] at ho
  have bd : ∀ g, g < N → s 10 g = -999 ∨ (0 ≤ s 10 g ∧ s 10 g < N) := fun g hg => Lab_bd hl hg
  intro k hk
  have key := lpU (P := fun x => 0 ≤ x → ∀ u : xSt, eqx [14] t u → (∀ g : Nat, g < N → u 14 g = if (g : Int) < x then cI (σ 14 g ≠ 0 ∨ ¬ Opn N (σ 7 1) (σ 7 2) (s 10) (s 10 g)) else σ 14 g) → k x u) (N : Int) (fun x hx ih x0 u qu hu => ?_) 0 (by omega) (by omega) t (eqx_rf _ _) (fun g hg => by rw [if_neg (by omega), t14])
  · exact key
  · have u7 : u 7 = σ 7 := (qu 7 (by decide)).trans ((qt 7 (by decide)).trans s7)
    have u10 : u 10 = s 10 := (qu 10 (by decide)).trans t10
    have u12 : u 12 = t 12 := qu 12 (by decide)
    refine hk x u (sx_fields ?_)
    rw [u7, ← hN]
    refine ⟨by omega, by omega, fun c => ?_, fun c => ?_⟩
    · refine hp u (s 10) (eqx_tr (eqx_wk qs (by simp)) (eqx_tr (eqx_wk qt (by simp)) (eqx_wk qu (by simp)))) hl (fun g hg => ?_)
      rw [hu g hg, if_pos (by omega)]
    · refine sx_comesToEdge (w := σ 7 1) (h := σ 7 2) (N := N) (by omega) (by rw [u10]; exact bd) (by rw [u10, u12]; exact ho) x0 c ?_
      rw [u10]
      have bx := bd x.toNat (by omega)
      have nx : ∀ v : xSt, eqx [14] u v → (∀ g : Nat, g < N → v 14 g = if g = x.toNat then cI (σ 14 g ≠ 0 ∨ ¬ Opn N (σ 7 1) (σ 7 2) (s 10) (s 10 g)) else u 14 g) → k (x + 1) v := by
        intro v qv hv
        refine ih (x + 1) (by omega) (by omega) (by omega) v (eqx_tr qu qv) (fun g hg => ?_)
        rw [hv g hg]
        by_cases cg : g = x.toNat
        · rw [if_pos cg, if_pos (by omega)]
        · rw [if_neg cg, hu g hg]
          by_cases c2 : (g : Int) < x
          · rw [if_pos c2, if_pos (by omega)]
          · rw [if_neg c2, if_neg (by omega)]
      by_cases co : s 10 x.toNat ≠ -999 ∧ Opn N (σ 7 1) (σ 7 2) (s 10) (s 10 x.toNat)
      · rw [cI_t co]
        refine ⟨by omega, fun _ => nx u (eqx_rf _ _) (fun g hg => ?_), fun q => absurd q (by omega)⟩
        by_cases cg : g = x.toNat
        · rw [if_pos cg, hu g hg, if_neg (by omega), cg]
          rcases hD x.toNat (by omega) with d | d
          · rw [d, cI_f (fun q => q.elim (fun w => w rfl) (fun w => w co.2))]
          · rw [d, cI_t (Or.inl (by omega))]
        · rw [if_neg cg]
      · rw [cI_f co]
        refine ⟨by omega, fun q => absurd rfl q, fun _ => ⟨by omega, ?_⟩⟩
        intro v e; subst e
        refine nx _ (eqx_up u _ (by simp)) (fun g hg => ?_)
        rw [xU_i]
        by_cases cg : g = x.toNat
        · rw [if_pos cg, if_pos cg, cg]
          by_cases c9 : s 10 x.toNat = -999
          · have d : σ 14 x.toNat ≠ 0 := by
              intro e0
              obtain ⟨g, -, e2, -⟩ := hl.2.1 x.toNat ⟨by omega, e0⟩
              omega
            rw [cI_t (Or.inl d)]
          · rw [cI_t (Or.inr (fun q => co ⟨c9, q⟩))]
        · rw [if_neg cg, if_neg cg]
theorem sx_pourInto {σ : xSt} {Post : xSt → Prop} (hG : GOk (σ 7 1) (σ 7 2) (σ 8)) {N : Nat} (hN : (N : Int) = σ 7 1 * σ 7 2) (hD : ∀ g, g < N → σ 14 g = 0 ∨ σ 14 g = 1)
    (hp : ∀ s', eqx [8] σ s' → (∀ g : Nat, s' 8 g = if g < N ∧ σ 14 g ≠ 0 then 1 else σ 8 g) → Post s') : wp_X8_pourInto σ Post := by
  have hN1 := hG.N
  unfold wp_X8_pourInto
  intro k hk
  have key := lpU (P := fun x => 0 ≤ x → ∀ u : xSt, eqx [8] σ u → (∀ g : Nat, u 8 g = if (g : Int) < x ∧ σ 14 g ≠ 0 then 1 else σ 8 g) → k x u) (N : Int) (fun x hx ih x0 u qu hu => ?_) 0 (by omega) (by omega) σ (eqx_rf _ _) (fun g => by rw [if_neg (fun q => absurd q.1 (by omega))])
  · exact key
  · have u7 : u 7 = σ 7 := qu 7 (by decide)
    have u14 : u 14 = σ 14 := qu 14 (by decide)
    have gu : GOk (u 7 1) (u 7 2) (u 8) := by
      rw [u7]
      refine ⟨hG.1, hG.2.1, hG.2.2.1, hG.2.2.2.1, fun g => ?_⟩
      rw [hu g]; split
      · exact Or.inr rfl
      · exact hG.2.2.2.2 g
    refine hk x u (sx_fields ?_)
    rw [u7, ← hN, u14]
    refine ⟨by omega, by omega, fun c => ?_, fun c => ⟨by omega, r01 (hD _ (by omega)), fun d => ?_, fun d => ?_⟩⟩
    · refine hp u qu (fun g => ?_)
      rw [hu g]
      have ex : x = (N : Int) := by omega
      rw [ex]
      by_cases cg : g < N ∧ σ 14 g ≠ 0
      · rw [if_pos cg, if_pos ⟨by omega, cg.2⟩]
      · rw [if_neg cg, if_neg (fun q => cg ⟨by omega, q.2⟩)]
    · refine ih (x + 1) (by omega) (by omega) (by omega) u qu (fun g => ?_)
      rw [hu g]
      by_cases cg : (g : Int) < x ∧ σ 14 g ≠ 0
      · rw [if_pos cg, if_pos ⟨by omega, cg.2⟩]
      · rw [if_neg cg, if_neg (fun q => ?_)]
        by_cases c2 : (g : Int) < x
        · exact cg ⟨c2, q.2⟩
        · have e : g = x.toNat := by omega
          exact q.2 (by rw [e]; exact d)
    · refine sx_put gu x0 (by rw [u7, ← hN]; exact c) (Or.inr rfl) ?_
      refine ih (x + 1) (by omega) (by omega) (by omega) _ (eqx_tr qu (eqx_up u _ (by simp))) (fun g => ?_)
      rw [xU_i]
      by_cases c2 : g = x.toNat
      · rw [if_pos c2, if_pos ⟨by omega, by rw [c2]; exact d⟩]
      · rw [if_neg c2, hu g]
        by_cases cg : (g : Int) < x ∧ σ 14 g ≠ 0
        · rw [if_pos cg, if_pos ⟨by omega, cg.2⟩]
        · rw [if_neg cg, if_neg (fun q => cg ⟨by omega, q.2⟩)]
