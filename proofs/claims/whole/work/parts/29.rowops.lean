/-! calls on pieces -/
def rfv (n a b : Int) : Int := if 0 ≤ a ∧ a ≤ n ∧ 0 ≤ b ∧ b ≤ n then (if b < a then -1002 else 0) else -1001
theorem rfv_R (n a b : Int) : xR (rfv n a b) := by
  unfold rfv; split
  · split <;> omega
  · omega
theorem rfv_0 {n a b : Int} : rfv n a b = 0 ↔ (0 ≤ a ∧ a ≤ b ∧ b ≤ n) := by
  unfold rfv; split
  · split <;> omega
  · omega
theorem sx_refusal {σ : xSt} {Post : Int → Prop} {a b : Int} (ha : xR a) (hb : xR b) (h1 : 0 ≤ σ 1 3) (h2 : σ 1 3 ≤ 60) (h : Post (rfv (σ 1 3) a b)) : wp_X9_refusalOfPiece a b σ Post := by
  unfold wp_X9_refusalOfPiece
  refine sx_hasPlace ha h1 h2 (br_z (fun c => ?_) (fun c => sx_hasPlace hb h1 h2 (br_n (fun c2 => ⟨hb, ha, fun c3 => ?_, fun c3 => ?_⟩) (fun c2 => ?_))))
  · rw [rfv, if_neg (by omega)] at h; exact h
  · rw [rfv, if_pos (by omega), if_neg (by omega)] at h; exact h
  · rw [rfv, if_pos (by omega), if_pos c3] at h; exact h
  · rw [rfv, if_neg (by omega)] at h; exact h
theorem sm_noPiece {τ : xSt} {Post : Int → Prop} {a b : Int} (ha : xR a) (hb : xR b) (h1 : 0 ≤ τ 0 1) (h2 : τ 0 1 ≤ 60) (h : Post (rfv (τ 0 1) a b)) : wp_X10_noPiece a b τ Post := by
  unfold wp_X10_noPiece
  refine sm_noPlace ha h1 h2 (br_n (fun c => ?_) (fun c => sm_noPlace hb h1 h2 (br_z (fun c2 => ⟨hb, ha, fun c3 => ?_, fun c3 => ?_⟩) (fun c2 => ?_))))
  · rw [rfv, if_neg (by omega)] at h; exact h
  · rw [rfv, if_pos (by omega), if_neg (by omega)] at h; exact h
  · rw [rfv, if_pos (by omega), if_pos c3] at h; exact h
  · rw [rfv, if_neg (by omega)] at h; exact h
theorem RR_X {σ τ : xSt} (h : RR σ τ) : RowX σ (τ 0 1).toNat ∧ RowM τ (τ 0 1).toNat ∧ σ 2 = τ 1 := by
  obtain ⟨n1, n2, n3, e2, wy, pl, gw, gh, e8, hG, as0⟩ := h
  exact ⟨⟨by omega, by omega, fun i => by rw [e2]; exact wy i, as0⟩, ⟨by omega, by omega, wy⟩, e2⟩
theorem op_straight {σ τ : xSt} (hR : RR σ τ) {a b : Int} (ha : xR a) (hb : xR b) : wp_X9_straight a b σ (fun r σ' => wp_X10_straight a b τ (fun r' τ' => r = r' ∧ RR σ' τ')) := by
  obtain ⟨n1, n2, n3, -⟩ := id hR
  have hR2 := RR_th hR
  obtain ⟨hx, hm, e2⟩ := RR_X hR2
  have en : xU τ 0 0 0 0 1 = τ 0 1 := rfl
  unfold wp_X9_straight
  refine sx_refusal ha hb (by omega) (by omega) ⟨rfv_R _ _ _, fun c => ?_, fun c => ?_⟩
  · have c' := rfv_0.mp c
    refine sx_measure hx (f0 := a.toNat) (m := (b - a).toNat) (by omega) (by omega) (by omega) (fun σ' q z o => ?_)
    have hR3 := RR_x6 hR2 q z
    have fin : ∀ r : Int, (Str (σ 2) a.toNat (b - a).toNat → r = 1) → (¬ Str (σ 2) a.toNat (b - a).toNat → r = 0) → wp_X10_straight a b τ (fun r' τ' => r = r' ∧ RR σ' τ') := by
      intro r g1 g0 t e; subst e
      refine sm_noPiece ha hb (by rw [en]; exact n2) (by rw [en]; exact n3) ⟨rfv_R _ _ _, fun d => ?_, fun d => absurd (rfv_0.mpr (by rw [en]; omega)) d⟩
      refine sm_straight hm (f0 := a.toNat) (m := (b - a).toNat) (by omega) (by omega) (by omega) (fun s qs _ _ st => ⟨by omega, fun w => absurd w (by omega), fun _ => ⟨g1 (by rw [e2]; exact st), RR_m hR3 (eqx_wk qs (by simp))⟩⟩) (fun s qs st => ⟨by omega, fun _ => ⟨g0 (by rw [e2]; exact st), RR_m hR3 (eqx_wk qs (by simp))⟩, fun w => absurd w (by omega)⟩)
    refine sx_straight o (by omega) (fun st => ⟨by omega, fun w => absurd w (by omega), fun _ => fin 1 (fun _ => rfl) (fun w => absurd st w)⟩) (fun st => ⟨by omega, fun _ => fin 0 (fun w => absurd w st) (fun _ => rfl), fun w => absurd w (by omega)⟩)
  · intro t e; subst e
    refine sm_noPiece ha hb (by rw [en]; exact n2) (by rw [en]; exact n3) ⟨rfv_R _ _ _, fun d => absurd ?_ c, fun d => ⟨?_, hR2⟩⟩
    · rw [n1]; exact d
    · rw [n1]; rfl
/-- the longest so far, from the places below x -/
def Lng (y : Nat → Int) (n : Nat) (x most first : Int) : Prop := 0 ≤ most ∧ most ≤ n ∧ 0 ≤ first ∧ first ≤ n ∧ (∀ f : Nat, (f : Int) < x → ∀ e, Far y f n e → e - f ≤ most) ∧ ((most = 0 ∧ first = 0) ∨ (∃ f : Nat, (f : Int) = first ∧ first < x ∧ Far y f n (first + most) ∧ 0 < most ∧ ∀ g : Nat, (g : Int) < first → ∀ e, Far y g n e → e - g < most))
theorem Lng_0 (y : Nat → Int) (n : Nat) : Lng y n 0 0 0 := ⟨by omega, by omega, by omega, by omega, fun f hf => absurd hf (by omega), Or.inl ⟨rfl, rfl⟩⟩
theorem Lng_keep {y : Nat → Int} {n : Nat} {x most first e : Int} (h : Lng y n x most first) (x0 : 0 ≤ x) (hF : Far y x.toNat n e) (c : e - x ≤ most) : Lng y n (x + 1) most first := by
  obtain ⟨a1, a2, a3, a4, a5, a6⟩ := h
  refine ⟨a1, a2, a3, a4, fun f hf e' hF' => ?_, ?_⟩
  · by_cases cf : (f : Int) < x
    · exact a5 f cf e' hF'
    · have ef : f = x.toNat := by omega
      subst ef
      rw [Far_u hF' hF]; omega
  · rcases a6 with h | ⟨f, h1, h2, h3⟩
    · exact Or.inl h
    · exact Or.inr ⟨f, h1, by omega, h3⟩
theorem Lng_new {y : Nat → Int} {n : Nat} {x most first e : Int} (h : Lng y n x most first) (x0 : 0 ≤ x) (hF : Far y x.toNat n e) (c : most < e - x) : Lng y n (x + 1) (e - x) x := by
  obtain ⟨a1, a2, a3, a4, a5, a6⟩ := h
  have b1 := hF.1
  have b2 := hF.2.1
  refine ⟨by omega, by omega, x0, by omega, fun f hf e' hF' => ?_, Or.inr ⟨x.toNat, by omega, by omega, ?_, by omega, fun g hg e' hF' => ?_⟩⟩
  · by_cases cf : (f : Int) < x
    · have := a5 f cf e' hF'; omega
    · have ef : f = x.toNat := by omega
      subst ef
      rw [Far_u hF' hF]; omega
  · have ee : x + (e - x) = e := by omega
    rw [ee]; exact hF
  · have := a5 g hg e' hF'; omega
/-- what is looked at beyond can't be longer -/
theorem Lng_u {y : Nat → Int} {n : Nat} {x x' most first most' first' : Int} (hy : ∀ i, 0 ≤ y i ∧ y i < 8) (hE : ∀ f : Nat, f ≤ n → ∃ e, Far y f n e) (h : Lng y n x most first) (h' : Lng y n x' most' first') (c : (n : Int) ≤ x + most) (c' : (n : Int) ≤ x') : most = most' ∧ first = first' := by
  obtain ⟨a1, a2, a3, a4, a5, a6⟩ := h
  obtain ⟨b1, b2, b3, b4, b5, b6⟩ := h'
  have up : ∀ f : Nat, ∀ e, Far y f n e → f < n → e - f ≤ most := by
    intro f e hF hf
    by_cases cf : (f : Int) < x
    · exact a5 f cf e hF
    · have := hF.2.1; omega
  have m1 : most' ≤ most := by
    rcases b6 with h | ⟨f, h1, h2, h3, h4, h5⟩
    · omega
    · have := up f _ h3 (by have := h3.2.1; omega); omega
  have m2 : most ≤ most' := by
    rcases a6 with h | ⟨f, h1, h2, h3, h4, h5⟩
    · omega
    · have hn : f < n := by have := h3.2.1; omega
      have := b5 f (by omega) _ h3; omega
  have em : most = most' := by omega
  refine ⟨em, ?_⟩
  subst em
  rcases a6 with h | ⟨f, h1, h2, h3, h4, h5⟩
  · rcases b6 with h' | ⟨f', h1', h2', h3', h4', h5'⟩
    · omega
    · omega
  · rcases b6 with h' | ⟨f', h1', h2', h3', h4', h5'⟩
    · omega
    · by_cases c1 : first < first'
      · have := h5' f (by omega) _ h3; omega
      · by_cases c2 : first' < first
        · have := h5 f' (by omega) _ h3'; omega
        · omega
theorem Far_ex (y : Nat → Int) (n f : Nat) (h : f ≤ n) : ∃ e, Far y f n e := by
  have key : ∀ (d : Nat) (x : Nat), x ≤ n → n - x = d → f ≤ x → (∀ m : Nat, 1 ≤ m → f + m ≤ x → Str y f m) → ∃ e, Far y f n e := by
    intro d
    induction d with
    | zero =>
      intro x h1 h2 h3 h4
      exact ⟨(x : Int), by omega, by omega, fun m g1 g2 => h4 m g1 (by omega), fun q => absurd q (by omega)⟩
    | succ d ih =>
      intro x h1 h2 h3 h4
      by_cases c : Str y f (x + 1 - f)
      · refine ih (x + 1) (by omega) (by omega) (by omega) (fun m g1 g2 => ?_)
        by_cases cm : f + m ≤ x
        · exact h4 m g1 cm
        · have em : m = x + 1 - f := by omega
          rw [em]; exact c
      · refine ⟨(x : Int), by omega, by omega, fun m g1 g2 => h4 m g1 (by omega), fun q => ?_⟩
        have e : ((x : Int) + 1 - f).toNat = x + 1 - f := by omega
        rw [e]; exact c
  exact key (n - f) f h rfl (Nat.le_refl f) (fun m g1 g2 => absurd g2 (by omega))
theorem op_longest {σ τ : xSt} (hR : RR σ τ) {a : Int} (ha : xR a) : wp_X9_longest a σ (fun r σ' => wp_X10_longest a τ (fun r' τ' => r = r' ∧ RR σ' τ')) := by
  have hR2 := RR_th hR
  obtain ⟨hx, hm, e2⟩ := RR_X hR2
  have n2 := hR.2.1
  have en : xU τ 0 0 0 0 1 = τ 0 1 := rfl
  rw [en] at hx hm
  generalize hn : (τ 0 1).toNat = n at hx hm
  have hn60 := hx.2.1
  have hy := hx.2.2.1
  -- the reference, once the class has ended with what it found
  have ref : ∀ (σ' : xSt) (r most first x : Int), RR σ' (xU τ 0 0 0) → Lng (σ 2) n x most first → 0 ≤ x → (n : Int) ≤ x + most → (a = 0 → r = most) → (a ≠ 0 → r = first) → wp_X10_longest a τ (fun r' τ' => r = r' ∧ RR σ' τ') := by
    intro σ' r most first x hR3 hL x0 hx1 g0 g1 t e; subst e
    intro k hk
    have key := lpU (P := fun z => 0 ≤ z → ∀ (mo fi : Int) (s : xSt), eqx [2, 3] (xU τ 0 0 0) s → Lng (σ 2) n z mo fi → k mo fi z s) (n : Int) (fun z hz ih z0 mo fi s qs hl => ?_) 0 (by omega) (by omega) 0 0 (xU τ 0 0 0) (eqx_rf _ _) (Lng_0 _ _)
    · exact key
    · have s0 : s 0 1 = n := by rw [qs 0 (by decide)]; exact hm.1
      refine hk mo fi z s ⟨by omega, by omega, fun c => ?_, fun c => ?_⟩
      · obtain ⟨u1, u2⟩ := Lng_u hy (fun f hf => Far_ex _ _ _ hf) hL hl hx1 (by omega)
        refine ⟨ha, fun d => ⟨?_, RR_m hR3 (eqx_wk qs (by simp))⟩, fun d => ⟨?_, RR_m hR3 (eqx_wk qs (by simp))⟩⟩
        · rw [g0 d, u1]
        · rw [g1 d, u2]
      · refine sm_endOf (RowM_c hm qs) (f0 := z.toNat) (by omega) (by omega) (fun e' s' q' hF => ?_)
        have s1 : s 1 = σ 2 := by rw [qs 1 (by decide), e2]
        rw [s1] at hF
        have b1 := hF.1
        have b2 := hF.2.1
        have b3 := hl.1
        have b4 := hl.2.1
        refine ⟨by omega, by omega, fun d => ?_, fun d => ?_⟩
        · exact ih (z + 1) (by omega) (by omega) (by omega) mo fi s' (eqx_tr qs q') (Lng_keep hl z0 hF d)
        · exact ih (z + 1) (by omega) (by omega) (by omega) _ _ s' (eqx_tr qs q') (Lng_new hl z0 hF d)
  unfold wp_X9_longest
  intro k hk
  have key := lpU (P := fun z => 0 ≤ z → ∀ (mo fi : Int) (s : xSt), eqx [5, 6] σ s → s 6 0 = σ 6 0 → Lng (σ 2) n z mo fi → k mo fi z s) (n : Int) (fun z hz ih z0 mo fi s qs zs hl => ?_) 0 (by omega) (by omega) 0 0 σ (eqx_rf _ _) rfl (Lng_0 _ _)
  · exact key
  · have s13 : s 1 3 = n := by rw [qs 1 (by decide)]; exact hx.1
    have b3 := hl.1
    have b4 := hl.2.1
    refine hk mo fi z s (sx_steps ⟨by omega, by omega, fun c => ?_, fun c => ?_⟩)
    · have hR3 := RR_x6 hR2 qs zs
      exact ⟨ha, fun d => ref s mo mo fi z hR3 hl z0 (by omega) (fun _ => rfl) (fun q => absurd d q), fun d => ref s fi mo fi z hR3 hl z0 (by omega) (fun q => absurd q d) (fun _ => rfl)⟩
    · refine sx_farthest (RowX_c hx qs zs) (f0 := z.toNat) (by omega) (by omega) (fun e' s' q' z' hF => ?_)
      have s2 : s 2 = σ 2 := qs 2 (by decide)
      rw [s2] at hF
      have b1 := hF.1
      have b2 := hF.2.1
      refine ⟨by omega, by omega, fun d => ?_, fun d => ?_⟩
      · exact ih (z + 1) (by omega) (by omega) (by omega) mo fi s' (eqx_tr qs q') (z'.trans zs) (Lng_keep hl z0 hF d)
      · exact ih (z + 1) (by omega) (by omega) (by omega) _ _ s' (eqx_tr qs q') (z'.trans zs) (Lng_new hl z0 hF d)
/-- where i pieces, one behind the other, end -/
def Ch (y : Nat → Int) (n : Nat) : Nat → Int → Prop
  | 0, x => x = 0
  | i + 1, x => ∃ z : Int, Ch y n i z ∧ z < n ∧ Far y z.toNat n x
theorem Ch_u {y : Nat → Int} {n : Nat} : ∀ {i : Nat} {x x' : Int}, Ch y n i x → Ch y n i x' → x = x' := by
  intro i
  induction i with
  | zero => intro x x' h h'; exact h.trans h'.symm
  | succ i ih =>
    intro x x' ⟨z, h1, h2, h3⟩ ⟨z', h1', h2', h3'⟩
    have e := ih h1 h1'
    subst e
    exact Far_u h3 h3'
theorem Ch_bd {y : Nat → Int} (hy : ∀ i, 0 ≤ y i ∧ y i < 8) {n : Nat} : ∀ {i : Nat} {x : Int}, Ch y n i x → (i : Int) ≤ x ∧ x ≤ n := by
  intro i
  induction i with
  | zero => intro x h; have : x = 0 := h; omega
  | succ i ih =>
    intro x ⟨z, h1, h2, h3⟩
    have := ih h1
    have := Far_lt hy h3 (by omega)
    have := h3.2.1
    omega
theorem Ch_pre {y : Nat → Int} {n : Nat} : ∀ {i j : Nat} {x : Int}, Ch y n j x → i < j → ∃ z, Ch y n i z ∧ z < n := by
  intro i j
  induction j with
  | zero => intro x h c; omega
  | succ j ih =>
    intro x ⟨z, h1, h2, h3⟩ c
    by_cases e : i = j
    · subst e; exact ⟨z, h1, h2⟩
    · exact ih h1 (by omega)
theorem op_pieces {σ τ : xSt} (hR : RR σ τ) : wp_X9_pieces σ (fun r σ' => wp_X10_pieces τ (fun r' τ' => r = r' ∧ RR σ' τ')) := by
  have hR2 := RR_th hR
  obtain ⟨hx, hm, e2⟩ := RR_X hR2
  have n2 := hR.2.1
  have en : xU τ 0 0 0 0 1 = τ 0 1 := rfl
  rw [en] at hx hm
  generalize hn : (τ 0 1).toNat = n at hx hm
  have hn60 := hx.2.1
  have hy := hx.2.2.1
  have ref : ∀ (σ' : xSt) (i : Nat), RR σ' (xU τ 0 0 0) → Ch (σ 2) n i n → wp_X10_pieces τ (fun r' τ' => (i : Int) = r' ∧ RR σ' τ') := by
    intro σ' i hR3 hC t e; subst e
    intro k hk
    have key := lpU (P := fun z => 0 ≤ z → ∀ (j : Nat) (s : xSt), eqx [2, 3] (xU τ 0 0 0) s → Ch (σ 2) n j z → k (j : Int) z s) (n : Int) (fun z hz ih z0 j s qs hc => ?_) 0 (by omega) (by omega) 0 (xU τ 0 0 0) (eqx_rf _ _) rfl
    · exact key
    · have s0 : s 0 1 = n := by rw [qs 0 (by decide)]; exact hm.1
      have bd := Ch_bd hy hc
      refine hk (j : Int) z s ⟨by omega, by omega, fun c => ⟨?_, RR_m hR3 (eqx_wk qs (by simp))⟩, fun c => ?_⟩
      · have ez : z = n := by omega
        rw [ez] at hc
        by_cases c1 : i < j
        · obtain ⟨w, w1, w2⟩ := Ch_pre hc c1
          have := Ch_u w1 hC; omega
        · by_cases c2 : j < i
          · obtain ⟨w, w1, w2⟩ := Ch_pre hC c2
            have := Ch_u w1 hc; omega
          · omega
      · refine sm_endOf (RowM_c hm qs) (f0 := z.toNat) (by omega) (by omega) (fun e' s' q' hF => ?_)
        have s1 : s 1 = σ 2 := by rw [qs 1 (by decide), e2]
        rw [s1] at hF
        have b1 := Far_lt hy hF (by omega)
        have b2 := hF.2.1
        exact ih e' (by omega) b2 (by omega) (j + 1) s' (eqx_tr qs q') ⟨z, hc, by omega, hF⟩
  unfold wp_X9_pieces
  intro k hk
  have key := lpU (P := fun z => 0 ≤ z → ∀ (j : Nat) (s : xSt), eqx [5, 6] σ s → s 6 0 = σ 6 0 → Ch (σ 2) n j z → k (j : Int) z s) (n : Int) (fun z hz ih z0 j s qs zs hc => ?_) 0 (by omega) (by omega) 0 σ (eqx_rf _ _) rfl rfl
  · exact key
  · have s13 : s 1 3 = n := by rw [qs 1 (by decide)]; exact hx.1
    have bd := Ch_bd hy hc
    refine hk (j : Int) z s (sx_steps ⟨by omega, by omega, fun c => ?_, fun c => ⟨by omega, fun c2 => absurd c2 (by omega), fun c2 => ?_⟩⟩)
    · have ez : z = n := by omega
      rw [ez] at hc
      exact ref s j (RR_x6 hR2 qs zs) hc
    · refine sx_farthest (RowX_c hx qs zs) (f0 := z.toNat) (by omega) (by omega) (fun e' s' q' z' hF => ?_)
      have s2 : s 2 = σ 2 := qs 2 (by decide)
      rw [s2] at hF
      have b1 := Far_lt hy hF (by omega)
      have b2 := hF.2.1
      exact ih e' (by omega) b2 (by omega) (j + 1) s' (eqx_tr qs q') (z'.trans zs) ⟨z, hc, by omega, hF⟩
theorem op_pieceEnd {σ τ : xSt} (hR : RR σ τ) {a : Int} (ha : xR a) : wp_X9_pieceEnd a σ (fun r σ' => wp_X10_pieceEnd a τ (fun r' τ' => r = r' ∧ RR σ' τ')) := by
  have hR2 := RR_th hR
  obtain ⟨hx, hm, e2⟩ := RR_X hR2
  have n2 := hR.2.1
  have en : xU τ 0 0 0 0 1 = τ 0 1 := rfl
  rw [en] at hx hm
  generalize hn : (τ 0 1).toNat = n at hx hm
  have hn60 := hx.2.1
  have hy := hx.2.2.1
  -- r is told: the end of the piece a, or there is none
  have ref : ∀ (σ' : xSt) (r : Int), RR σ' (xU τ 0 0 0) → (∀ j : Nat, (j : Int) = a → ∀ x, Ch (σ 2) n (j + 1) x → r = x) → ((∀ j : Nat, (j : Int) = a → ∀ x, ¬ Ch (σ 2) n (j + 1) x) → r = -999) → wp_X10_pieceEnd a τ (fun r' τ' => r = r' ∧ RR σ' τ') := by
    intro σ' r hR3 g1 g2 t e; subst e
    intro k hk
    have key := lpU (P := fun z => 0 ≤ z → ∀ (j : Nat) (s : xSt), eqx [2, 3] (xU τ 0 0 0) s → Ch (σ 2) n j z → ((j : Int) ≤ a ∨ a < 0) → k (j : Int) z s) (n : Int) (fun z hz ih z0 j s qs hc hj => ?_) 0 (by omega) (by omega) 0 (xU τ 0 0 0) (eqx_rf _ _) rfl (by omega)
    · exact key
    · have s0 : s 0 1 = n := by rw [qs 0 (by decide)]; exact hm.1
      have bd := Ch_bd hy hc
      refine hk (j : Int) z s ⟨by omega, by omega, fun c => ⟨g2 (fun j' ej x hx' => ?_), RR_m hR3 (eqx_wk qs (by simp))⟩, fun c => ?_⟩
      · have ez : z = n := by omega
        rw [ez] at hc
        obtain ⟨w, w1, w2⟩ := Ch_pre hx' (show j < j' + 1 by omega)
        have := Ch_u w1 hc; omega
      · refine sm_endOf (RowM_c hm qs) (f0 := z.toNat) (by omega) (by omega) (fun e' s' q' hF => ?_)
        have s1 : s 1 = σ 2 := by rw [qs 1 (by decide), e2]
        rw [s1] at hF
        have b1 := Far_lt hy hF (by omega)
        have b2 := hF.2.1
        have hc2 : Ch (σ 2) n (j + 1) e' := ⟨z, hc, by omega, hF⟩
        refine ⟨by omega, ha, fun d => ?_, fun d => ⟨g1 j d e' hc2, RR_m hR3 (eqx_wk (eqx_tr qs q') (by simp))⟩⟩
        exact ih e' (by omega) b2 (by omega) (j + 1) s' (eqx_tr qs q') hc2 (by omega)
  unfold wp_X9_pieceEnd
  intro k hk
  have key := lpU (P := fun z => 0 ≤ z → ∀ (j : Nat) (s : xSt), eqx [5, 6] σ s → s 6 0 = σ 6 0 → Ch (σ 2) n j z → ((j : Int) ≤ a ∨ a < 0) → k z (j : Int) s) (n : Int) (fun z hz ih z0 j s qs zs hc hj => ?_) 0 (by omega) (by omega) 0 σ (eqx_rf _ _) rfl rfl (by omega)
  · exact key
  · have s13 : s 1 3 = n := by rw [qs 1 (by decide)]; exact hx.1
    have bd := Ch_bd hy hc
    have no : z = n → wp_X10_pieceEnd a τ (fun r' τ' => -999 = r' ∧ RR s τ') := by
      intro ez
      rw [ez] at hc
      refine ref s (-999) (RR_x6 hR2 qs zs) (fun j' ej x hx' => ?_) (fun _ => rfl)
      obtain ⟨w, w1, w2⟩ := Ch_pre hx' (show j < j' + 1 by omega)
      have := Ch_u w1 hc; omega
    refine hk z (j : Int) s ⟨by omega, fun c => no (by omega), fun c => sx_steps ⟨by omega, by omega, fun c2 => no (by omega), fun c2 => ?_⟩⟩
    refine sx_farthest (RowX_c hx qs zs) (f0 := z.toNat) (by omega) (by omega) (fun e' s' q' z' hF => ?_)
    have s2 : s 2 = σ 2 := qs 2 (by decide)
    rw [s2] at hF
    have b1 := Far_lt hy hF (by omega)
    have b2 := hF.2.1
    have hc2 : Ch (σ 2) n (j + 1) e' := ⟨z, hc, by omega, hF⟩
    refine ⟨by omega, ha, fun d => ?_, fun d => ?_⟩
    · exact ih e' (by omega) b2 (by omega) (j + 1) s' (eqx_tr qs q') (z'.trans zs) hc2 (by omega)
    · refine ref s' e' (RR_x6 hR2 (eqx_tr qs q') (z'.trans zs)) (fun j' ej x hx' => ?_) (fun q => absurd hc2 (q j d e'))
      have ejj : j' = j := by omega
      subst ejj
      exact Ch_u hc2 hx'
