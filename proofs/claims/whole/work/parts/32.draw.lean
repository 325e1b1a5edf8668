/-! rows drawn -/
theorem xor_neg {a b : Int} (ha : xR a) (hb : xR b) (h : 0 < b) : xXor a b < 0 ↔ a < 0 := by
  have e1 : (xXor a b < 0) ↔ (((xI a).toBitVec ^^^ (xI b).toBitVec).msb = true) := by
    rw [BitVec.msb_eq_toInt, decide_eq_true_eq]; rfl
  have e2 : (xI a).toBitVec.msb = decide (a < 0) := by
    rw [BitVec.msb_eq_toInt]
    have : (xI a).toBitVec.toInt = a := xI_toInt ha
    rw [this]
  have e3 : (xI b).toBitVec.msb = decide (b < 0) := by
    rw [BitVec.msb_eq_toInt]
    have : (xI b).toBitVec.toInt = b := xI_toInt hb
    rw [this]
  have e4 : ¬ b < 0 := by omega
  rw [e1, BitVec.msb_xor, e2, e3, decide_eq_false e4]
  simp
theorem sx_floorDiv {σ : xSt} {Post : Int → Prop} {a b : Int} (ha : xR a) (hb : 0 < b) (hb2 : xR b) (h : Post (a / b)) : wp_J9_floorDiv_7cf53 a b σ Post := by
  have hx := xor_neg ha hb2 hb
  have ht : a.tdiv b = a / b + if 0 ≤ a ∨ b ∣ a then 0 else b.sign := Int.tdiv_eq_ediv
  rw [Int.sign_eq_one_of_pos hb] at ht
  have hm : a = b * (a / b) + a % b := (Int.mul_ediv_add_emod a b).symm
  unfold wp_J9_floorDiv_7cf53
  refine ⟨ha, hb2, by omega, xR_of _, fun c => ?_, fun c => ?_⟩
  · have a0 : 0 ≤ a := by
      rcases Int.lt_or_le a 0 with q | q
      · have := hx.mpr q; omega
      · exact q
    rw [tdiv_e a0]; exact h
  · have a0 : a < 0 := hx.mp c
    by_cases d : b ∣ a
    · rw [if_pos (Or.inr d)] at ht
      rw [ht, Int.add_zero]
      have e : a / b * b = a := Int.ediv_mul_cancel d
      rw [e]
      exact ⟨ha, ha, fun _ => h, fun q => absurd rfl q⟩
    · rw [if_neg (by rintro (q | q); omega; exact d q)] at ht
      rw [ht]
      have m0 := Int.emod_nonneg a (show b ≠ 0 by omega)
      have m1 := Int.emod_lt_of_pos a hb
      have e : (a / b + 1) * b = b * (a / b) + b := by rw [Int.add_mul, Int.mul_comm]; omega
      have m2 : a % b ≠ 0 := fun q => d (Int.dvd_of_emod_eq_zero q)
      rw [e]
      refine ⟨by omega, ha, fun q => absurd q (by omega), fun _ => ?_⟩
      have e2 : a / b + 1 - 1 = a / b := by omega
      rw [e2]; exact h
/-- the nearest whole number to a by m, halves up -/
def nr (a m : Int) : Int := (2 * a + m) / (2 * m)
theorem sx_nearest {σ : xSt} {Post : Int → Prop} {a m : Int} (h1 : -3600 ≤ a) (h2 : a ≤ 3600) (h3 : 1 ≤ m) (h4 : m ≤ 60) (h : Post (nr a m)) : wp_X6_nearest a m σ Post := by
  unfold wp_X6_nearest
  refine ⟨by omega, fun c => absurd c (by omega), fun c => ?_⟩
  exact sx_floorDiv (by omega) (by omega) (by omega) h
theorem neg_div {v b : Int} (hb : 0 < b) : -((b - 1 - v) / b) = v / b := by
  have m0 := Int.emod_nonneg v (show b ≠ 0 by omega)
  have m1 := Int.emod_lt_of_pos v hb
  have hm := Int.mul_ediv_add_emod v b
  have e : b - 1 - v = (b - 1 - v % b) + b * (-(v / b)) := by
    rw [Int.mul_neg]; omega
  rw [e, Int.add_mul_ediv_left _ _ (by omega), Int.ediv_eq_zero_of_lt (by omega) (by omega)]
  omega
theorem sm_near {σ : xSt} {Post : Int → Prop} {a m : Int} (h1 : -3600 ≤ a) (h2 : a ≤ 3600) (h3 : 1 ≤ m) (h4 : m ≤ 60) (h : Post (nr a m)) : wp_X10_near a m σ Post := by
  unfold wp_X10_near
  refine ⟨by omega, fun c => ⟨by omega, by omega, by omega, ?_⟩, fun c => ⟨by omega, by omega, by omega, ?_⟩⟩
  · rw [tdiv_e (by omega), neg_div (by omega)]; exact h
  · rw [tdiv_e c]; exact h
theorem nr_bd {a m : Int} (h1 : -3600 ≤ a) (h2 : a ≤ 3600) (h3 : 1 ≤ m) (h4 : m ≤ 60) : -7300 ≤ nr a m ∧ nr a m ≤ 7300 := by
  unfold nr
  have m0 := Int.emod_nonneg (2 * a + m) (show 2 * m ≠ 0 by omega)
  have m1 := Int.emod_lt_of_pos (2 * a + m) (show 0 < 2 * m by omega)
  have hm := Int.mul_ediv_add_emod (2 * a + m) (2 * m)
  generalize (2 * a + m) / (2 * m) = q at hm
  generalize (2 * a + m) % (2 * m) = r at hm m0 m1
  constructor
  · rcases Int.lt_or_le q (-7300) with c | c
    · have : 2 * m * q ≤ 2 * m * (-7301) := Int.mul_le_mul_of_nonneg_left (by omega) (by omega)
      omega
    · exact c
  · rcases Int.lt_or_le 7300 q with c | c
    · have : 2 * m * 7301 ≤ 2 * m * q := Int.mul_le_mul_of_nonneg_left (by omega) (by omega)
      omega
    · exact c
theorem nr_0 {m : Int} (h : 1 ≤ m) : nr 0 m = 0 := by
  unfold nr
  exact Int.ediv_eq_zero_of_lt (by omega) (by omega)
theorem nr_full {m k : Int} (h : 1 ≤ m) : nr (m * k) m = k := by
  unfold nr
  have e : 2 * (m * k) + m = m + 2 * m * k := by rw [← Int.mul_assoc]; omega
  rw [e, Int.add_mul_ediv_left _ _ (by omega), Int.ediv_eq_zero_of_lt (by omega) (by omega)]; omega
theorem nr_fulln {m k : Int} (h : 1 ≤ m) : nr (-m * k) m = -k := by
  have e : -m * k = m * (-k) := by rw [Int.neg_mul, Int.mul_neg]
  rw [e, nr_full h]
/-- from one step to the next it goes by one at most -/
theorem nr_step {u m k : Int} (h : 1 ≤ m) (h1 : -m ≤ u) (h2 : u ≤ m) : -1 ≤ nr (u * k) m - nr (u * (k - 1)) m ∧ nr (u * k) m - nr (u * (k - 1)) m ≤ 1 := by
  have e : u * k = u * (k - 1) + u := by rw [Int.mul_sub]; omega
  rw [e]
  generalize u * (k - 1) = w
  unfold nr
  have m0 := Int.emod_nonneg (2 * w + m) (show 2 * m ≠ 0 by omega)
  have m1 := Int.emod_lt_of_pos (2 * w + m) (show 0 < 2 * m by omega)
  have hm := Int.mul_ediv_add_emod (2 * w + m) (2 * m)
  have n0 := Int.emod_nonneg (2 * (w + u) + m) (show 2 * m ≠ 0 by omega)
  have n1 := Int.emod_lt_of_pos (2 * (w + u) + m) (show 0 < 2 * m by omega)
  have hn := Int.mul_ediv_add_emod (2 * (w + u) + m) (2 * m)
  generalize (2 * w + m) / (2 * m) = q at hm
  generalize (2 * w + m) % (2 * m) = r at hm m0 m1
  generalize (2 * (w + u) + m) / (2 * m) = q' at hn
  generalize (2 * (w + u) + m) % (2 * m) = r' at hn n0 n1
  have hd : 2 * m * (q' - q) = 2 * u + r - r' := by rw [Int.mul_sub]; omega
  generalize q' - q = d at hd
  constructor
  · rcases Int.lt_or_le d (-1) with c | c
    · have : 2 * m * d ≤ 2 * m * (-2) := Int.mul_le_mul_of_nonneg_left (by omega) (by omega)
      omega
    · exact c
  · rcases Int.lt_or_le 1 d with c | c
    · have : 2 * m * 2 ≤ 2 * m * d := Int.mul_le_mul_of_nonneg_left (by omega) (by omega)
      omega
    · exact c
/-- the way that goes by dx, dy -/
def wv (dx dy : Int) : Int := if dx = 1 then (if dy = 0 then 0 else if dy = 1 then 1 else 7) else if dx = 0 then (if dy = 1 then 2 else 6) else (if dy = 1 then 3 else if dy = 0 then 4 else 5)
theorem wv_ok {dx dy : Int} (h1 : -1 ≤ dx) (h2 : dx ≤ 1) (h3 : -1 ≤ dy) (h4 : dy ≤ 1) (h5 : dx ≠ 0 ∨ dy ≠ 0) : 0 ≤ wv dx dy ∧ wv dx dy < 8 ∧ xRt (wv dx dy).toNat = dx ∧ xUp (wv dx dy).toNat = dy ∧ ∀ w : Nat, w < 8 → xRt w = dx → xUp w = dy → (w : Int) = wv dx dy := by
  have cx : dx = -1 ∨ dx = 0 ∨ dx = 1 := by omega
  have cy : dy = -1 ∨ dy = 0 ∨ dy = 1 := by omega
  rcases cx with rfl | rfl | rfl <;> rcases cy with rfl | rfl | rfl <;> first | (exact absurd h5 (by omega)) | decide
theorem sx_wayBy {σ : xSt} {Post : Int → Prop} {dx dy : Int} (h1 : -1 ≤ dx) (h2 : dx ≤ 1) (h3 : -1 ≤ dy) (h4 : dy ≤ 1) (h5 : dx ≠ 0 ∨ dy ≠ 0) (h : Post (wv dx dy)) : wp_X6_wayBy dx dy σ Post := by
  obtain ⟨w0, w8, wx, wy, wu⟩ := wv_ok h1 h2 h3 h4 h5
  unfold wp_X6_wayBy
  intro k hk
  have key := lpU (P := fun i => 0 ≤ i → k i) (wv dx dy) (fun i hi ih i0 => ?_) 0 w0 (by omega)
  · exact key
  · have bx := xRt_bd i.toNat
    have bu := xUp_bd i.toNat
    refine hk i ⟨by omega, fun c => absurd c (by omega), fun c => ⟨by omega, by omega, by omega, fun c2 => ?_, fun c2 => ⟨by omega, by omega, by omega, fun c3 => ?_, fun c3 => ?_⟩⟩⟩
    · have : i ≠ wv dx dy := fun e => c2 (by rw [e]; exact wx)
      exact ih (i + 1) (by omega) (by omega) (by omega)
    · have : i ≠ wv dx dy := fun e => c3 (by rw [e]; exact wy)
      exact ih (i + 1) (by omega) (by omega) (by omega)
    · have e := wu i.toNat (by omega) c2 c3
      have e2 : i = wv dx dy := by omega
      rw [e2]; exact h
theorem sm_wayOf {σ : xSt} {Post : Int → Prop} {dx dy : Int} (h1 : -1 ≤ dx) (h2 : dx ≤ 1) (h3 : -1 ≤ dy) (h4 : dy ≤ 1) (h5 : dx ≠ 0 ∨ dy ≠ 0) (h : Post (wv dx dy)) : wp_X10_wayOf dx dy σ Post := by
  obtain ⟨w0, w8, wx, wy, wu⟩ := wv_ok h1 h2 h3 h4 h5
  unfold wp_X10_wayOf
  intro k hk
  have key := lpU (P := fun i => 0 ≤ i → k (if wv dx dy < i then wv dx dy else 0) i) 8 (fun i hi ih i0 => ?_) 0 (by omega) (by omega)
  · rw [if_neg (by omega)] at key; exact key
  · have rf : xR (if wv dx dy < i then wv dx dy else 0) := by split <;> omega
    refine hk _ i ⟨by omega, fun c => ?_, fun c => sm_stepX i0 c ?_⟩
    · rw [if_pos (by omega)]; exact h
    · have bx := xRt_bd i.toNat
      have bu := xUp_bd i.toNat
      have nx := ih (i + 1) (by omega) (by omega) (by omega)
      refine ⟨by omega, by omega, fun c2 => ?_, fun c2 => sm_stepY i0 c ⟨by omega, by omega, fun c3 => ?_, fun c3 => ?_⟩⟩
      · have q : i ≠ wv dx dy := fun e => c2 (by rw [e]; exact wx)
        by_cases d : wv dx dy < i
        · rw [if_pos (by omega)] at nx; rw [if_pos d]; exact nx
        · rw [if_neg (by omega)] at nx; rw [if_neg d]; exact nx
      · have q : i ≠ wv dx dy := fun e => c3 (by rw [e]; exact wy)
        by_cases d : wv dx dy < i
        · rw [if_pos (by omega)] at nx; rw [if_pos d]; exact nx
        · rw [if_neg (by omega)] at nx; rw [if_neg d]; exact nx
      · have e := wu i.toNat (by omega) c2 c3
        have e2 : i = wv dx dy := by omega
        rw [if_pos (by omega)] at nx
        rw [← e2] at nx; exact nx
/-- the reference's state behind k steps of a drawing -/
def dT (w : Nat → Int) (τ : xSt) : Nat → xSt
  | 0 => τ
  | k + 1 => xU (xU (dT w τ k) 1 (dT w τ k 0 1).toNat (w k)) 0 1 (dT w τ k 0 1 + 1)
theorem dT_n (w : Nat → Int) (τ : xSt) (k : Nat) : dT w τ k 0 1 = τ 0 1 + k := by
  induction k with
  | zero => show τ 0 1 = _; omega
  | succ k ih => show dT w τ k 0 1 + 1 = _; rw [ih]; omega
/-- the way of the k-th step (from 0) of a drawing to u, v by m steps -/
def dW (u v m : Int) (k : Nat) : Int := wv (nr (u * ((k : Int) + 1)) m - nr (u * (k : Int)) m) (nr (v * ((k : Int) + 1)) m - nr (v * (k : Int)) m)
theorem dW_ok {u v m : Int} (hm : 1 ≤ m) (h1 : -m ≤ u) (h2 : u ≤ m) (h3 : -m ≤ v) (h4 : v ≤ m) (h5 : u = m ∨ u = -m ∨ v = m ∨ v = -m) (k : Int) :
    (-1 ≤ nr (u * k) m - nr (u * (k - 1)) m ∧ nr (u * k) m - nr (u * (k - 1)) m ≤ 1) ∧ (-1 ≤ nr (v * k) m - nr (v * (k - 1)) m ∧ nr (v * k) m - nr (v * (k - 1)) m ≤ 1) ∧ (nr (u * k) m - nr (u * (k - 1)) m ≠ 0 ∨ nr (v * k) m - nr (v * (k - 1)) m ≠ 0) := by
  refine ⟨nr_step hm h1 h2, nr_step hm h3 h4, ?_⟩
  rcases h5 with rfl | rfl | rfl | rfl
  · left; rw [nr_full hm, nr_full hm]; omega
  · left; rw [nr_fulln hm, nr_fulln hm]; omega
  · right; rw [nr_full hm, nr_full hm]; omega
  · right; rw [nr_fulln hm, nr_fulln hm]; omega
theorem op_draw {σ τ : xSt} (hR : RR σ τ) {u v : Int} (hu : xR u) (hv : xR v) : wp_X9_draw u v σ (fun r σ' => wp_X10_draw u v τ (fun r' τ' => r = r' ∧ RR σ' τ')) := by
  obtain ⟨n1, n2, n3, -⟩ := id hR
  have hR2 := RR_th hR
  -- refused by both
  have bad : ∀ σ', RR σ' (xU τ 0 0 0) → (u < -60 ∨ 60 < u ∨ v < -60 ∨ 60 < v ∨ (u = 0 ∧ v = 0)) → wp_X10_draw u v τ (fun r' τ' => -1002 = r' ∧ RR σ' τ') := by
    intro σ' hR3 hb t e; subst e
    refine ⟨hu, sm_in hu (by omega) (by omega) (br_z (fun c => ⟨rfl, hR3⟩) (fun c => ⟨hv, sm_in hv (by omega) (by omega) (br_z (fun c2 => ⟨rfl, hR3⟩) (fun c2 => ?_))⟩))⟩
    intro k hk
    exact ⟨hu, fun c3 => absurd c3 (by omega), fun c3 => ⟨hv, fun c4 => absurd c4 (by omega), fun c4 => ⟨rfl, hR3⟩⟩⟩
  unfold wp_X9_draw
  refine ⟨hu, fun c => bad σ hR2 (by omega), fun c1 => ⟨hu, fun c => bad σ hR2 (by omega), fun c2 => ⟨hv, fun c => bad σ hR2 (by omega), fun c3 => ⟨hv, fun c4 => ⟨hu, hv, ?_, ?_, ?_⟩, fun c => bad σ hR2 (by omega)⟩⟩⟩⟩
  · unfold xAbs; split <;> omega
  · unfold xAbs; split <;> omega
  · intro m em
    have mm : 0 ≤ m ∧ m ≤ 60 ∧ -m ≤ u ∧ u ≤ m ∧ -m ≤ v ∧ v ≤ m ∧ (u = m ∨ u = -m ∨ v = m ∨ v = -m) := by
      rw [em]; unfold xMax xAbs
      split <;> split <;> split <;> omega
    refine ⟨by omega, fun c5 => sx_steps ⟨by omega, fun c6 => ?_, fun c6 => ?_⟩, fun c5 => bad σ hR2 (by omega)⟩
    · have m1 : 1 ≤ m := by omega
      have ok := dW_ok m1 mm.2.2.1 mm.2.2.2.1 mm.2.2.2.2.1 mm.2.2.2.2.2.1 mm.2.2.2.2.2.2
      have pb : ∀ x k : Int, -m ≤ x → x ≤ m → 0 ≤ k → k ≤ m → -3600 ≤ x * k ∧ x * k ≤ 3600 := by
        intro x k h1 h2 h3 h4
        have := mb (x := x) (y := k) (B := 60) (C := 60) (by omega) (by omega) (by omega) (by omega)
        omega
      have wz : ∀ k : Int, 1 ≤ k → wv (nr (u * k) m - nr (u * (k - 1)) m) (nr (v * k) m - nr (v * (k - 1)) m) = dW u v m (k - 1).toNat := by
        intro k hk
        have e : (((k - 1).toNat : Nat) : Int) = k - 1 := by omega
        unfold dW
        rw [e, Int.sub_add_cancel]
      have n01 : xU τ 0 0 0 0 1 = τ 0 1 := rfl
      unfold wp_X6_appendLine
      intro k hk
      have key := lpU (P := fun x => 1 ≤ x → ∀ s : xSt, RR s (dT (dW u v m) (xU τ 0 0 0) (x - 1).toNat) → k (nr (u * (x - 1)) m) (nr (v * (x - 1)) m) x s) (m + 1) (fun x hx ih x1 s hs => ?_) 1 (by omega) (by omega) σ hR2
      · have e : (1 : Int) - 1 = 0 := rfl
        rw [e, Int.mul_zero, Int.mul_zero, nr_0 m1] at key
        exact key
      · refine hk _ _ x s ⟨by omega, by omega, fun d => ?_, fun d => ?_⟩
        · -- the reference draws
          have ex : x = m + 1 := by omega
          subst ex
          have em2 : (m + 1 - 1).toNat = m.toNat := by omega
          rw [em2] at hs
          refine sx_steps ?_
          intro t e; subst e
          have hgo : ∀ (r : Int), r = s 1 3 → ∀ kk : Int → xSt → Prop, (∀ (x4 : Int) (s86 : xSt), (xR x4 ∧ xR m ∧ (m < x4 → r = s86 0 1 ∧ RR s s86) ∧ (x4 ≤ m → wp_X10_near (u * x4) m s86 (fun r97 => wp_X10_near (u * (x4 - 1)) m s86 (fun r107 => wp_X10_near (v * x4) m s86 (fun r118 => wp_X10_near (v * (x4 - 1)) m s86 (fun r128 => wp_X10_wayOf (r97 - r107) (r118 - r128) s86 (fun r146 => (0 ≤ (s86 0 1) ∧ (s86 0 1) < (60 : Nat)) ∧ ∀ σ_149 : xSt, σ_149 = xU s86 1 (((s86 0 1)).toNat) r146 → ∀ σ_157 : xSt, σ_157 = xU σ_149 0 1 ((σ_149 0 1) + 1) → kk (x4 + 1) σ_157))))))) → kk x4 s86) → kk 1 (xU τ 0 0 0) := by
            intro r er kk hkk
            have key2 := lpU (P := fun z => 1 ≤ z → kk z (dT (dW u v m) (xU τ 0 0 0) (z - 1).toNat)) (m + 1) (fun z hz ih2 z1 => ?_) 1 (by omega) (by omega)
            · exact key2
            · have nn := dT_n (dW u v m) (xU τ 0 0 0) (z - 1).toNat
              rw [n01] at nn
              refine hkk z _ ⟨by omega, by omega, fun d2 => ?_, fun d2 => ?_⟩
              · have ez : (z - 1).toNat = m.toNat := by omega
                rw [ez]
                exact ⟨er.trans hs.1, hs⟩
              · obtain ⟨o1, o2, o3⟩ := ok z
                have p1 := pb u z mm.2.2.1 mm.2.2.2.1 (by omega) (by omega)
                have p2 := pb u (z - 1) mm.2.2.1 mm.2.2.2.1 (by omega) (by omega)
                have p3 := pb v z mm.2.2.2.2.1 mm.2.2.2.2.2.1 (by omega) (by omega)
                have p4 := pb v (z - 1) mm.2.2.2.2.1 mm.2.2.2.2.2.1 (by omega) (by omega)
                refine sm_near p1.1 p1.2 m1 (by omega) (sm_near p2.1 p2.2 m1 (by omega) (sm_near p3.1 p3.2 m1 (by omega) (sm_near p4.1 p4.2 m1 (by omega) (sm_wayOf o1.1 o1.2 o2.1 o2.2 o3 ⟨by omega, ?_⟩))))
                intro s1 e1 s2 e2
                rw [wz z z1] at e1
                have nx := ih2 (z + 1) (by omega) (by omega) (by omega)
                have ez : (z + 1 - 1).toNat = (z - 1).toNat + 1 := by omega
                rw [ez] at nx
                rw [e2, e1]; exact nx
          refine ⟨hu, sm_in hu (by omega) (by omega) (br_z (fun q => absurd ⟨c1, c2⟩ q) (fun _ => ⟨hv, sm_in hv (by omega) (by omega) (br_z (fun q => absurd ⟨c3, c4⟩ q) (fun _ => ?_))⟩))⟩
          intro k3 hk3
          have go3 : k3 := by
            refine hk3 (sm_size hu (sm_size hv ?_))
            intro k4 hk4
            have go4 : k4 m := by
              refine hk4 m ⟨show xR (τ 0 1 + m) by omega, fun _ => ?_, fun q => absurd q (show ¬ 60 < τ 0 1 + m by omega)⟩
              exact hgo (s 1 3) rfl
            have am : ∀ x : Int, xR x → xR (xAbs x) ∨ x = -2147483648 := fun x hx => by unfold xAbs; split <;> omega
            have ru : xR (xAbs u) := by unfold xAbs; split <;> omega
            have rv : xR (xAbs v) := by unfold xAbs; split <;> omega
            refine ⟨ru, rv, fun d2 => sm_size hv ?_, fun d2 => sm_size hu ?_⟩
            · have e : xAbs v = m := by rw [em]; unfold xMax; split <;> omega
              rw [e]; exact go4
            · have e : xAbs u = m := by rw [em]; unfold xMax; split <;> omega
              rw [e]; exact go4
          refine ⟨hu, fun _ => go3, fun q => ⟨hv, fun _ => go3, fun q2 => ?_⟩⟩
          exfalso; omega
        · obtain ⟨o1, o2, o3⟩ := ok x
          have p1 := pb u x mm.2.2.1 mm.2.2.2.1 (by omega) (by omega)
          have p3 := pb v x mm.2.2.2.2.1 mm.2.2.2.2.2.1 (by omega) (by omega)
          have nn := dT_n (dW u v m) (xU τ 0 0 0) (x - 1).toNat
          rw [n01] at nn
          have w8 := wv_ok o1.1 o1.2 o2.1 o2.2 o3
          refine sx_nearest p1.1 p1.2 m1 (by omega) (sx_nearest p3.1 p3.2 m1 (by omega) (sx_wayBy o1.1 o1.2 o2.1 o2.2 o3 ?_))
          refine RR_app hs w8.1 w8.2.1 (by omega) (fun s' hR3 _ => ?_)
          rw [wz x x1] at hR3
          have nx := ih (x + 1) (by omega) (by omega) (by omega) s'
          have ez : (x + 1 - 1).toNat = (x - 1).toNat + 1 := by omega
          have ez2 : x + 1 - 1 = x := by omega
          rw [ez, ez2] at nx
          exact nx hR3
    · intro t e; subst e
      refine ⟨hu, sm_in hu (by omega) (by omega) (br_z (fun q => absurd ⟨c1, c2⟩ q) (fun _ => ⟨hv, sm_in hv (by omega) (by omega) (br_z (fun q => absurd ⟨c3, c4⟩ q) (fun _ => ?_))⟩))⟩
      intro k3 hk3
      have go3 : k3 := by
        refine hk3 (sm_size hu (sm_size hv ?_))
        intro k4 hk4
        have go4 : k4 m := hk4 m ⟨show xR (τ 0 1 + m) by omega, fun q => absurd q (show ¬ τ 0 1 + m ≤ 60 by omega), fun _ => ⟨rfl, hR2⟩⟩
        have ru : xR (xAbs u) := by unfold xAbs; split <;> omega
        have rv : xR (xAbs v) := by unfold xAbs; split <;> omega
        refine ⟨ru, rv, fun d2 => sm_size hv ?_, fun d2 => sm_size hu ?_⟩
        · have e : xAbs v = m := by rw [em]; unfold xMax; split <;> omega
          rw [e]; exact go4
        · have e : xAbs u = m := by rw [em]; unfold xMax; split <;> omega
          rw [e]; exact go4
      refine ⟨hu, fun _ => go3, fun q => ⟨hv, fun _ => go3, fun q2 => ?_⟩⟩
      exfalso; omega
theorem op_word {σ τ : xSt} (hR : RR σ τ) {p q i : Int} (hp : xR p) (hq : xR q) (hi : xR i) : wp_X9_word p q i σ (fun r => wp_X10_word p q i τ (fun r' τ' => r = r' ∧ RR σ τ')) := by
  have hR2 := RR_th hR
  have bad : ¬ (1 ≤ p ∧ p ≤ 60 ∧ 0 ≤ q ∧ q ≤ p ∧ 0 ≤ i ∧ i < p) → wp_X10_word p q i τ (fun r' τ' => -1002 = r' ∧ RR σ τ') := by
    intro hb t e; subst e
    refine ⟨hp, sm_in hp (by omega) (by omega) (br_z (fun _ => ⟨rfl, hR2⟩) (fun c => ⟨hq, hp, sm_in hq (by omega) hp (br_z (fun _ => ⟨rfl, hR2⟩) (fun c2 => ⟨hi, by omega, sm_in hi (by omega) (by omega) (br_n (fun c3 => ?_) (fun _ => ⟨rfl, hR2⟩))⟩))⟩))⟩
    exfalso; omega
  unfold wp_X9_word
  refine ⟨hp, fun c => bad (by omega), fun c1 => ⟨hp, fun c => bad (by omega), fun c2 => ⟨hq, fun c => bad (by omega), fun c3 => ⟨hq, hp, fun c => bad (by omega), fun c4 => ⟨hi, fun c => bad (by omega), fun c5 => ⟨hi, hp, fun c6 => ?_, fun c => bad (by omega)⟩⟩⟩⟩⟩⟩
  have m1 := mb (x := i + 1) (y := q) (B := 60) (C := 60) (by omega) (by omega) (by omega) (by omega)
  have m2 := mb (x := i) (y := q) (B := 60) (C := 60) (by omega) (by omega) (by omega) (by omega)
  have z1 : 0 ≤ (i + 1) * q := Int.mul_nonneg (by omega) c3
  have z2 : 0 ≤ i * q := Int.mul_nonneg c5 c3
  have t1 : xR (Int.tdiv ((i + 1) * q) p) := by
    rw [tdiv_e z1]
    have := Int.ediv_nonneg z1 (show 0 ≤ p by omega)
    have := Int.ediv_le_self p z1
    omega
  have t2 : xR (Int.tdiv (i * q) p) := by
    rw [tdiv_e z2]
    have := Int.ediv_nonneg z2 (show 0 ≤ p by omega)
    have := Int.ediv_le_self p z2
    omega
  have ref : ∀ r : Int, (Int.tdiv ((i + 1) * q) p ≤ Int.tdiv (i * q) p → r = 0) → (Int.tdiv (i * q) p < Int.tdiv ((i + 1) * q) p → r = 1) → wp_X10_word p q i τ (fun r' τ' => r = r' ∧ RR σ τ') := by
    intro r g0 g1 t e; subst e
    refine ⟨hp, sm_in hp (by omega) (by omega) (br_z (fun w => absurd ⟨c1, c2⟩ w) (fun _ => ⟨hq, hp, sm_in hq (by omega) hp (br_z (fun w => absurd ⟨c3, c4⟩ w) (fun _ => ⟨hi, by omega, sm_in hi (by omega) (by omega) (br_n (fun _ => ?_) (fun w => absurd (show 0 ≤ i ∧ i ≤ p - 1 by omega) w))⟩))⟩))⟩
    exact ⟨by omega, hp, by omega, by omega, hp, by omega, t1, t2, fun d => ⟨g0 d, hR2⟩, fun d => ⟨g1 d, hR2⟩⟩
  refine ⟨by omega, hp, by omega, by omega, hp, by omega, t1, t2, fun d => ref 0 (fun _ => rfl) (fun w => absurd w (by omega)), fun d => ref 1 (fun w => absurd w (by omega)) (fun _ => rfl)⟩
