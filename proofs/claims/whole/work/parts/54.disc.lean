/-! discs about half fields -/
def sq (w a b : Int) (f : Nat) : Int := (2 * ((f : Int) % w) - a) * (2 * ((f : Int) % w) - a) + (2 * ((f : Int) / w) - b) * (2 * ((f : Int) / w) - b)
def dF (w a b : Int) (p : Nat → Int) : Nat → Int
  | 0 => 0
  | n + 1 => if p n ≠ 0 then xMax (dF w a b p n) (sq w a b n) else dF w a b p n
def dN (B w a b : Int) (p : Nat → Int) : Nat → Int
  | 0 => B
  | n + 1 => if p n ≠ 0 then dN B w a b p n else xMin (dN B w a b p n) (sq w a b n)
theorem sq_b2 {w h : Int} (w1 : 1 ≤ w) (w2 : w ≤ 12) (h1 : 1 ≤ h) (h2 : h ≤ 12) {a b : Int} (a0 : 0 ≤ a) (a1 : a ≤ 22) (b0 : 0 ≤ b) (b1 : b ≤ 22) {f : Nat} (hf : (f : Int) < w * h) : 0 ≤ sq w a b f ∧ sq w a b f ≤ 968 ∧ 0 ≤ (f : Int) % w ∧ (f : Int) % w < 12 ∧ 0 ≤ (f : Int) / w ∧ (f : Int) / w < 12 := by
  have hF := fxy (w := w) (h := h) (f := (f : Int)) w1 (by omega) hf
  have one : ∀ z : Int, -22 ≤ z → z ≤ 22 → 0 ≤ z * z ∧ z * z ≤ 484 := by
    intro z z1 z2
    have q : z * z = (xAbs z) * (xAbs z) := by unfold xAbs; split <;> simp [Int.neg_mul_neg]
    have b := xAbs_bd (z := z) (B := 22) (by omega) z2
    rw [q]
    have m1 : 0 * 0 ≤ xAbs z * xAbs z := Int.mul_le_mul b.1 b.1 (by omega) b.1
    have m2 : xAbs z * xAbs z ≤ 22 * 22 := Int.mul_le_mul b.2 b.2 b.1 (by omega)
    omega
  have o1 := one (2 * ((f : Int) % w) - a) (by omega) (by omega)
  have o2 := one (2 * ((f : Int) / w) - b) (by omega) (by omega)
  unfold sq
  refine ⟨by omega, by omega, by omega, by omega, by omega, by omega⟩
theorem dFN_bd {w h : Int} (w1 : 1 ≤ w) (w2 : w ≤ 12) (h1 : 1 ≤ h) (h2 : h ≤ 12) {a b : Int} (a0 : 0 ≤ a) (a1 : a ≤ 22) (b0 : 0 ≤ b) (b1 : b ≤ 22) (p : Nat → Int) {n : Nat} (hn : (n : Int) ≤ w * h) : 0 ≤ dF w a b p n ∧ dF w a b p n ≤ 968 ∧ ((dN 1152 w a b p n = 1152 ∧ dN 1000000 w a b p n = 1000000) ∨ (dN 1152 w a b p n = dN 1000000 w a b p n ∧ 0 ≤ dN 1000000 w a b p n ∧ dN 1000000 w a b p n ≤ 968)) := by
  induction n with
  | zero => exact ⟨by show (0 : Int) ≤ 0; omega, by show (0 : Int) ≤ 968; omega, Or.inl ⟨rfl, rfl⟩⟩
  | succ n ih =>
    have i := ih (by omega)
    have s := sq_b2 w1 w2 h1 h2 a0 a1 b0 b1 (f := n) (by omega)
    rw [dF, dN, dN]
    by_cases c : p n ≠ 0
    · rw [if_pos c, if_pos c, if_pos c]
      refine ⟨?_, ?_, i.2.2⟩
      · unfold xMax; split <;> omega
      · unfold xMax; split <;> omega
    · rw [if_neg c, if_neg c, if_neg c]
      refine ⟨i.1, i.2.1, Or.inr ?_⟩
      unfold xMin
      split <;> split <;> omega
theorem dF_mono {w a b : Int} {p : Nat → Int} {n m : Nat} (h : n ≤ m) : dF w a b p n ≤ dF w a b p m := by
  induction m with
  | zero => have e : n = 0 := by omega
            rw [e]; exact Int.le_refl _
  | succ m ih =>
    by_cases c : n = m + 1
    · rw [c]; exact Int.le_refl _
    · have i := ih (by omega)
      rw [dF]
      split
      · unfold xMax; split <;> omega
      · exact i
theorem dN_mono {B w a b : Int} {p : Nat → Int} {n m : Nat} (h : n ≤ m) : dN B w a b p m ≤ dN B w a b p n := by
  induction m with
  | zero => have e : n = 0 := by omega
            rw [e]; exact Int.le_refl _
  | succ m ih =>
    by_cases c : n = m + 1
    · rw [c]; exact Int.le_refl _
    · have i := ih (by omega)
      rw [dN]
      split
      · exact i
      · unfold xMin; split <;> omega
theorem sx_square {σ : xSt} {Post : Int → Prop} (hG : GOk (σ 7 1) (σ 7 2) (σ 8)) {N : Nat} (hN : (N : Int) = σ 7 1 * σ 7 2) {a b : Int} (a0 : 0 ≤ a) (a1 : a ≤ 22) (b0 : 0 ≤ b) (b1 : b ≤ 22)
    (hp : Post (if dF (σ 7 1) a b (σ 8) N < dN 1152 (σ 7 1) a b (σ 8) N then dF (σ 7 1) a b (σ 8) N else -999)) : wp_X1_squareAbout a b σ Post := by
  have hN1 := hG.N
  obtain ⟨g1, g2, g3, g4, -⟩ := id hG
  unfold wp_X1_squareAbout
  intro k hk
  have key := lpU (P := fun x => 0 ≤ x → dF (σ 7 1) a b (σ 8) x.toNat < dN 1152 (σ 7 1) a b (σ 8) x.toNat → k (dF (σ 7 1) a b (σ 8) x.toNat) (dN 1152 (σ 7 1) a b (σ 8) x.toNat) x) (N : Int) (fun x hx ih x0 hl => ?_) 0 (by omega) (by omega) (by show (0 : Int) < 1152; omega)
  · exact key
  · have ex : ((x.toNat : Nat) : Int) = x := by omega
    have e1 : (x + 1).toNat = x.toNat + 1 := by omega
    have fb := dFN_bd g1 g2 g3 g4 a0 a1 b0 b1 (σ 8) (n := x.toNat) (by omega)
    refine hk _ _ x (sx_fields ?_)
    rw [← hN]
    refine ⟨by omega, by omega, fun c => ?_, fun c => sx_col hG (by omega) x0 (sx_line hG (by omega) x0 ?_)⟩
    · have exN : x.toNat = N := by omega
      rw [exN] at hl ⊢
      rw [if_pos hl] at hp; exact hp
    · have sb := sq_b2 g1 g2 g3 g4 a0 a1 b0 b1 (f := x.toNat) (by omega)
      have fb1 := dFN_bd g1 g2 g3 g4 a0 a1 b0 b1 (σ 8) (n := x.toNat + 1) (by omega)
      intro z ez
      have ez2 : z = sq (σ 7 1) a b x.toNat := by rw [ez, sq, ex]
      clear ez
      refine sx_holds hG (by omega) ?_
      rw [hV_in x0 (by omega)]
      intro k2 hk2
      have go : k2 (dF (σ 7 1) a b (σ 8) (x.toNat + 1)) (dN 1152 (σ 7 1) a b (σ 8) (x.toNat + 1)) := by
        refine hk2 _ _ ⟨by omega, by omega, fun d => ?_, fun d => ?_⟩
        · have st := ih (x + 1) (by omega) (by omega) (by omega)
          rw [e1] at st
          exact st d
        · have m1 := dF_mono (w := σ 7 1) (a := a) (b := b) (p := σ 8) (n := x.toNat + 1) (m := N) (by omega)
          have m2 := dN_mono (B := 1152) (w := σ 7 1) (a := a) (b := b) (p := σ 8) (n := x.toNat + 1) (m := N) (by omega)
          rw [if_neg (by omega)] at hp; exact hp
      rw [dF, dN] at go
      rw [ez2]
      refine ⟨r01 (hG.2.2.2.2 _), fun q => ⟨by omega, by omega, ?_⟩, fun q => ⟨by omega, by omega, ?_⟩⟩
      · rw [if_neg (fun w => w q), if_neg (fun w => w q)] at go; exact go
      · rw [if_pos q, if_pos q] at go; exact go
def Dsc (w h : Int) (p : Nat → Int) (a b : Int) : Prop := dF w a b p (w * h).toNat < dN 1000000 w a b p (w * h).toNat
def fst (w h : Int) (p : Nat → Int) (a b : Int) : Prop := 0 ≤ a ∧ a ≤ 2 * w - 2 ∧ 0 ≤ b ∧ b ≤ 2 * h - 2 ∧ Dsc w h p a b ∧ ∀ a' b' : Int, 0 ≤ a' → a' ≤ 2 * w - 2 → 0 ≤ b' → (b' < b ∨ (b' = b ∧ a' < a)) → ¬ Dsc w h p a' b'
theorem fst_u {w h : Int} {p : Nat → Int} {a b a' b' : Int} (h1 : fst w h p a b) (h2 : fst w h p a' b') : a = a' ∧ b = b' := by
  obtain ⟨x1, x2, x3, x4, x5, x6⟩ := h1
  obtain ⟨y1, y2, y3, y4, y5, y6⟩ := h2
  by_cases c : b' < b ∨ (b' = b ∧ a' < a)
  · exact absurd y5 (x6 a' b' y1 y2 y3 c)
  · by_cases d : b < b' ∨ (b = b' ∧ a < a')
    · exact absurd x5 (y6 a b x1 x2 x3 d)
    · omega
def nod (w h : Int) (p : Nat → Int) : Prop := ∀ a b : Int, 0 ≤ a → a ≤ 2 * w - 2 → 0 ≤ b → b ≤ 2 * h - 2 → ¬ Dsc w h p a b
theorem sx_find {σ : xSt} {Post : Int → xSt → Prop} (hG : GOk (σ 7 1) (σ 7 2) (σ 8)) {N : Nat} (hN : (N : Int) = σ 7 1 * σ 7 2)
    (h0 : (sI (σ 8) N = 0 ∨ nod (σ 7 1) (σ 7 2) (σ 8)) → Post 0 σ)
    (h1 : sI (σ 8) N ≠ 0 → ∀ a b, fst (σ 7 1) (σ 7 2) (σ 8) a b → ∀ s', eqx [20] σ s' → s' 20 0 = a → s' 20 1 = b → s' 20 2 = dF (σ 7 1) a b (σ 8) N → Post 1 s') : wp_X1_find σ Post := by
  have hN1 := hG.N
  obtain ⟨g1, g2, g3, g4, -⟩ := id hG
  have eN : (σ 7 1 * σ 7 2).toNat = N := by omega
  have hb := sI_01 hG.2.2.2.2 N
  unfold wp_X1_find
  refine sx_heapSize hG ?_
  rw [eN]
  refine ⟨by omega, fun hn => ?_, fun q => h0 (Or.inl q)⟩
  intro k hk
  have key := lpU (P := fun y => 0 ≤ y → (∀ a b : Int, 0 ≤ a → a ≤ 2 * σ 7 1 - 2 → 0 ≤ b → b < y → ¬ Dsc (σ 7 1) (σ 7 2) (σ 8) a b) → k y) (2 * σ 7 2 - 1) (fun y hy ih y0 hno => ?_) 0 (by omega) (by omega) (fun a b _ _ h1 h2 => absurd h2 (by omega))
  · exact key
  · refine hk y ?_
    show xR y ∧ xR ((2 * σ 7 2) - 2) ∧ _ ∧ _
    refine ⟨by omega, by omega, fun c => h0 (Or.inr (fun a b a1 a2 b1 b2 => hno a b a1 a2 b1 (by omega))), fun c => ?_⟩
    intro k2 hk2
    have key2 := lpU (P := fun x => 0 ≤ x → (∀ a : Int, 0 ≤ a → a < x → ¬ Dsc (σ 7 1) (σ 7 2) (σ 8) a y) → k2 x) (2 * σ 7 1 - 1) (fun x hx ih2 x0 hno2 => ?_) 0 (by omega) (by omega) (fun a h1 h2 => absurd h2 (by omega))
    · exact key2
    · refine hk2 x ?_
      show xR x ∧ xR ((2 * σ 7 1) - 2) ∧ _ ∧ _
      refine ⟨by omega, by omega, fun d => ?_, fun d => sx_square hG hN x0 (by omega) y0 (by omega) ?_⟩
      · refine ih (y + 1) (by omega) (by omega) (by omega) (fun a b a1 a2 b1 b2 => ?_)
        by_cases cb : b = y
        · rw [cb]; exact hno2 a a1 (by omega)
        · exact hno a b a1 a2 b1 (by omega)
      · have fb := dFN_bd g1 g2 g3 g4 x0 (by omega) y0 (by omega) (σ 8) (a := x) (b := y) (n := N) (by omega)
        by_cases cd : dF (σ 7 1) x y (σ 8) N < dN 1152 (σ 7 1) x y (σ 8) N
        · rw [if_pos cd]
          refine ⟨by omega, fun q => absurd q (by omega), fun _ => ?_⟩
          intro s1 e1 s2 e2 s3 e3
          subst e1; subst e2; subst e3
          refine h1 hn x y ⟨x0, by omega, y0, by omega, ?_, fun a' b' a1 a2 b1 hlt => ?_⟩ _ (eqx_tr (eqx_tr (eqx_up _ _ (by simp)) (eqx_up _ _ (by simp))) (eqx_up _ _ (by simp))) rfl rfl rfl
          · unfold Dsc; rw [eN]; omega
          · rcases hlt with q | q
            · exact hno a' b' a1 a2 b1 q
            · rw [q.1]; exact hno2 a' a1 q.2
        · rw [if_neg cd]
          refine ⟨by omega, fun _ => ih2 (x + 1) (by omega) (by omega) (by omega) (fun a a1 a2 => ?_), fun q => absurd rfl q⟩
          by_cases ca : a = x
          · rw [ca]; unfold Dsc; rw [eN]; omega
          · exact hno2 a a1 (by omega)
theorem sm_isDisc {σ : xSt} {Post : Int → xSt → Prop} (hG : GOk (σ 0 5) (σ 0 6) (σ 4)) {N : Nat} (hN : (N : Int) = σ 0 5 * σ 0 6)
    (h0 : (sI (σ 4) N = 0 ∨ nod (σ 0 5) (σ 0 6) (σ 4)) → Post 0 σ)
    (h1 : sI (σ 4) N ≠ 0 → ∀ a b, fst (σ 0 5) (σ 0 6) (σ 4) a b → Post 1 (xU (xU (xU σ 0 15 a) 0 16 b) 0 17 (dF (σ 0 5) a b (σ 4) N))) : wp_X10_isDisc σ Post := by
  have hN1 := hG.N
  obtain ⟨g1, g2, g3, g4, -⟩ := id hG
  have eN : (σ 0 5 * σ 0 6).toNat = N := by omega
  have hb := sI_01 hG.2.2.2.2 N
  unfold wp_X10_isDisc
  refine sm_many hG ?_
  rw [eN]
  intro k hk
  have key := lpU (P := fun y => 0 ≤ y → (∀ a b : Int, 0 ≤ a → a ≤ 2 * σ 0 5 - 2 → 0 ≤ b → b < y → ¬ Dsc (σ 0 5) (σ 0 6) (σ 4) a b) → k y) (2 * σ 0 6 - 1) (fun y hy ih y0 hno => ?_) 0 (by omega) (by omega) (fun a b _ _ h1 h2 => absurd h2 (by omega))
  · exact key
  · refine hk y ⟨by omega, by omega, fun c => h0 (Or.inr (fun a b a1 a2 b1 b2 => hno a b a1 a2 b1 (by omega))), fun c => ⟨by omega, fun q => h0 (Or.inl (by omega)), fun hn => ?_⟩⟩
    intro k2 hk2
    have key2 := lpU (P := fun x => 0 ≤ x → (∀ a : Int, 0 ≤ a → a < x → ¬ Dsc (σ 0 5) (σ 0 6) (σ 4) a y) → k2 x) (2 * σ 0 5 - 1) (fun x hx ih2 x0 hno2 => ?_) 0 (by omega) (by omega) (fun a h1 h2 => absurd h2 (by omega))
    · exact key2
    · refine hk2 x ⟨by omega, by omega, fun d => ?_, fun d => ?_⟩
      · refine ih (y + 1) (by omega) (by omega) (by omega) (fun a b a1 a2 b1 b2 => ?_)
        by_cases cb : b = y
        · rw [cb]; exact hno2 a a1 (by omega)
        · exact hno a b a1 a2 b1 (by omega)
      · intro k3 hk3
        have key3 := lpU (P := fun f => 0 ≤ f → k3 (dF (σ 0 5) x y (σ 4) f.toNat) (dN 1000000 (σ 0 5) x y (σ 4) f.toNat) f) (N : Int) (fun f hf ih3 f0 => ?_) 0 (by omega) (by omega)
        · exact key3
        · have ef : ((f.toNat : Nat) : Int) = f := by omega
          have e1 : (f + 1).toNat = f.toNat + 1 := by omega
          have fb := dFN_bd g1 g2 g3 g4 x0 (by omega) y0 (by omega) (σ 4) (a := x) (b := y) (n := f.toNat) (by omega)
          refine hk3 _ _ f (sm_fields ?_)
          rw [← hN, tmod_e f0, tdiv_e f0]
          refine ⟨by omega, by omega, fun e => ?_, fun e => ⟨by omega, by omega, by omega, ?_⟩⟩
          · have efN : f.toNat = N := by omega
            rw [efN] at fb ⊢
            refine ⟨by omega, by omega, fun q => ?_, fun q => ?_⟩
            · refine ih2 (x + 1) (by omega) (by omega) (by omega) (fun a a1 a2 => ?_)
              by_cases ca : a = x
              · rw [ca]; unfold Dsc; rw [eN]; omega
              · exact hno2 a a1 (by omega)
            · intro s1 e1 s2 e2 s3 e3
              subst e1; subst e2; subst e3
              refine h1 (by omega) x y ⟨x0, by omega, y0, by omega, ?_, fun a' b' a1 a2 b1 hlt => ?_⟩
              · unfold Dsc; rw [eN]; exact q
              · rcases hlt with w | w
                · exact hno a' b' a1 a2 b1 w
                · rw [w.1]; exact hno2 a' a1 w.2
          · have sb := sq_b2 g1 g2 g3 g4 x0 (by omega) y0 (by omega) (a := x) (b := y) (f := f.toNat) (by omega)
            intro z1 d1
            refine ⟨by omega, by omega, by omega, ?_⟩
            intro z2 d2 z3 d3
            have ez : z3 = sq (σ 0 5) x y f.toNat := by rw [d3, d2, d1, sq, ef]
            clear d1 d2 d3
            have go := ih3 (f + 1) (by omega) (by omega) (by omega)
            rw [e1, dF, dN] at go
            rw [← ez] at go
            rw [ez] at go ⊢
            refine ⟨by omega, ?_⟩
            intro k4 hk4
            refine ⟨r01 (hG.2.2.2.2 _), fun q => hk4 _ ⟨by omega, r01 (hG.2.2.2.2 _), fun w => absurd q w, fun _ => ⟨by omega, by omega, fun w => ?_, fun w => ?_⟩⟩, fun q => ⟨by omega, by omega, fun w => hk4 _ ⟨by omega, r01 (hG.2.2.2.2 _), fun _ => ?_, fun w => absurd w q⟩, fun w => hk4 _ ⟨by omega, r01 (hG.2.2.2.2 _), fun _ => ?_, fun w => absurd w q⟩⟩⟩
            · rw [if_neg (fun v => v q), if_neg (fun v => v q), xMin] at go
              by_cases cz : sq (σ 0 5) x y f.toNat < dN 1000000 (σ 0 5) x y (σ 4) f.toNat
              · exact absurd cz (by omega)
              · rw [if_neg cz] at go; exact go
            · rw [if_neg (fun v => v q), if_neg (fun v => v q), xMin, if_pos w] at go; exact go
            · rw [if_pos q, if_pos q, xMax, if_neg (by omega)] at go; exact go
            · rw [if_pos q, if_pos q, xMax, if_pos w] at go; exact go
theorem op_disc {σ τ : xSt} (hR : RR σ τ) {a : Int} (ha : xR a) : wp_X9_disc a σ (fun r σ' => wp_X10_disc a τ (fun r' τ' => r = r' ∧ RR σ' τ')) := by
  have hR2 := RR_th hR
  have gx := RR_g hR
  obtain ⟨N, n4, n5, n6, n7⟩ := RR_N hR
  obtain ⟨n1, n2, n3, e2, wy, pl, gw, gh, e8, hG, as0⟩ := id hR
  have bad : a < 0 ∨ 2 < a → wp_X10_disc a τ (fun r' τ' => -1002 = r' ∧ RR σ τ') := by
    intro h t e; subst e
    exact ⟨ha, sm_in ha (by omega) (by omega) (br_n (fun c => absurd c (by omega)) (fun _ => ⟨rfl, hR2⟩))⟩
  unfold wp_X9_disc
  refine ⟨ha, fun c => bad (Or.inl c), fun c0 => ⟨ha, fun c2 => ?_, fun c => bad (Or.inr c)⟩⟩
  refine sx_find gx n5 (fun h => ⟨by omega, fun q => absurd rfl q, fun _ => ?_⟩) (fun hn x y hf s qs q0 q1 q2 => ⟨by omega, fun _ => ?_, fun q => absurd q (by omega)⟩)
  · rw [gw, gh, e8] at h
    intro t e; subst e
    refine ⟨ha, sm_in ha (by omega) (by omega) (br_n (fun _ => ?_) (fun q => absurd ⟨c0, c2⟩ q))⟩
    refine sm_isDisc (σ := xU τ 0 0 0) hG n4 (fun _ => ⟨by omega, fun q => absurd rfl q, fun _ => ⟨rfl, hR2⟩⟩) (fun hn' x' y' hf' => ?_)
    exfalso
    rcases h with q | q
    · exact hn' q
    · exact q x' y' hf'.1 hf'.2.1 hf'.2.2.1 hf'.2.2.2.1 hf'.2.2.2.2.1
  · rw [gw, gh, e8] at hf
    rw [gw, e8] at q2
    rw [e8] at hn
    have hR3 : RR s (xU τ 0 0 0) := RR_x hR2 (eqx_wk qs (by simp))
    have ref : ∀ r : Int, (a = 0 → r = x) → (a = 1 → r = y) → (a = 2 → r = dF (τ 0 5) x y (τ 4) N) → wp_X10_disc a τ (fun r' τ' => r = r' ∧ RR s τ') := by
      intro r r0 r1 r2 t e; subst e
      refine ⟨ha, sm_in ha (by omega) (by omega) (br_n (fun _ => ?_) (fun q => absurd ⟨c0, c2⟩ q))⟩
      refine sm_isDisc (σ := xU τ 0 0 0) hG n4 (fun h => ?_) (fun hn' x' y' hf' => ?_)
      · exfalso
        rcases h with q | q
        · exact hn q
        · exact q x y hf.1 hf.2.1 hf.2.2.1 hf.2.2.2.1 hf.2.2.2.2.1
      · obtain ⟨ex, ey⟩ := fst_u hf hf'
        subst ex; subst ey
        have hR4 : RR s (xU (xU (xU (xU τ 0 0 0) 0 15 x) 0 16 y) 0 17 (dF ((xU τ 0 0 0) 0 5) x y ((xU τ 0 0 0) 4) N)) := RR_of hR3 rfl rfl rfl rfl rfl rfl rfl rfl rfl rfl rfl rfl rfl
        exact ⟨by omega, fun _ => ⟨ha, fun w0 => ⟨ha, fun w1 => ⟨r2 (by omega), hR4⟩, fun w1 => ⟨r1 w1, hR4⟩⟩, fun w0 => ⟨r0 w0, hR4⟩⟩, fun q => absurd q (by omega)⟩
    refine ⟨ha, fun d2 => ⟨ha, fun d0 => ?_, fun d0 => ?_⟩, fun d2 => ?_⟩
    · show wp_X10_disc a τ (fun r' τ' => s 20 1 = r' ∧ RR s τ')
      rw [q1]; exact ref y (by omega) (fun _ => rfl) (by omega)
    · show wp_X10_disc a τ (fun r' τ' => s 20 0 = r' ∧ RR s τ')
      rw [q0]; exact ref x (fun _ => rfl) (by omega) (by omega)
    · show wp_X10_disc a τ (fun r' τ' => s 20 2 = r' ∧ RR s τ')
      rw [q2]; exact ref _ (by omega) (by omega) (fun _ => rfl)
