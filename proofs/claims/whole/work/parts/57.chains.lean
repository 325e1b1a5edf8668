/-! the two chains -/
def En (w h : Int) (p : Nat → Int) (x : Int) : Prop := 0 ≤ lA w h p x
def RLc (w h : Int) (p : Nat → Int) : Nat → List (Int × Int)
  | 0 => []
  | x + 1 => if fI w h p x < h then (if fI w h p x = lA w h p x then LC w h p (x + 1) else ((x : Int), lA w h p x) :: LC w h p (x + 1)) else RLc w h p x
def DU (w h : Int) (p : Nat → Int) : Nat → List (Int × Int)
  | 0 => []
  | j + 1 => if 0 ≤ lA w h p (w - 1 - j) then psh 0 (w - 1 - (j : Int), lA w h p (w - 1 - j)) (DU w h p j) else DU w h p j
def EX (w h : Int) (p : Nat → Int) : Nat → List (Int × Int)
  | 0 => []
  | j + 1 => if 0 ≤ lA w h p (w - 1 - j) then (if fI w h p (w - 1 - j) = lA w h p (w - 1 - j) then [] else [(w - 1 - (j : Int), fI w h p (w - 1 - j))]) else EX w h p j
theorem pops_ne {b : Nat} {p : Int × Int} {L : List (Int × Int)} (h : L ≠ []) : pops b p L ≠ [] ∧ bo (pops b p L) = bo L := by
  induction L with
  | nil => exact absurd rfl h
  | cons t L ih =>
    cases L with
    | nil => exact ⟨by simp [pops], rfl⟩
    | cons u r =>
      rw [pops]; split
      · have i := ih (by simp)
        exact ⟨i.1, i.2⟩
      · exact ⟨by simp, rfl⟩
theorem psh_bo {b : Nat} {p : Int × Int} {L : List (Int × Int)} (h : L ≠ []) : bo (psh b p L) = bo L := by
  have i := pops_ne (b := b) (p := p) h
  unfold psh
  cases e : pops b p L with
  | nil => exact absurd e i.1
  | cons u r =>
    rw [e] at i
    exact i.2
theorem pops_app {b : Nat} {p : Int × Int} {Z tl : List (Int × Int)} (h : Z ≠ []) : pops (b + tl.length) p (Z ++ tl) = pops b p Z ++ tl := by
  induction Z with
  | nil => exact absurd rfl h
  | cons t Z ih =>
    cases Z with
    | nil =>
      cases tl with
      | nil => rfl
      | cons u r =>
        show pops (b + (u :: r).length) p (t :: u :: r) = [t] ++ u :: r
        rw [pops, if_neg]
        · rfl
        · intro q
          have := q.1
          simp only [List.length_cons] at this
          omega
    | cons u r =>
      show pops (b + tl.length) p (t :: u :: (r ++ tl)) = _
      rw [pops, pops]
      by_cases c : b ≤ r.length ∧ sd u t p ≤ 0
      · rw [if_pos c, if_pos ⟨by rw [List.length_append]; omega, c.2⟩]
        exact ih (by simp)
      · rw [if_neg c, if_neg]
        · rfl
        · intro q
          refine c ⟨?_, q.2⟩
          have := q.1
          rw [List.length_append] at this
          omega
theorem pops_app1 {p c0 : Int × Int} {Z cr : List (Int × Int)} (h : Z ≠ []) (hs : 0 < sd c0 (bo Z) p) : pops cr.length p (Z ++ c0 :: cr) = pops 0 p Z ++ c0 :: cr := by
  induction Z with
  | nil => exact absurd rfl h
  | cons t Z ih =>
    cases Z with
    | nil =>
      show pops cr.length p (t :: c0 :: cr) = [t] ++ c0 :: cr
      rw [pops, if_neg]
      · rfl
      · intro q
        have : 0 < sd c0 t p := hs
        omega
    | cons u r =>
      show pops cr.length p (t :: u :: (r ++ c0 :: cr)) = _
      rw [pops, pops]
      by_cases c : 0 ≤ r.length ∧ sd u t p ≤ 0
      · rw [if_pos c, if_pos ⟨by rw [List.length_append]; simp <;> omega, c.2⟩]
        exact ih (by simp) hs
      · rw [if_neg c, if_neg]
        · rfl
        · intro q
          exact c ⟨by omega, q.2⟩
theorem pops_b {p : Int × Int} {C : List (Int × Int)} (h : C ≠ []) : pops (C.length - 1) p C = C := by
  cases C with
  | nil => exact absurd rfl h
  | cons t C =>
    cases C with
    | nil => rfl
    | cons u r =>
      rw [pops, if_neg]
      intro q
      have := q.1
      simp only [List.length_cons] at this
      omega
theorem sd_v (x y1 y2 : Int) (p : Int × Int) : sd (x, y1) (x, y2) p = (y2 - y1) * (x - p.1) := by
  unfold sd
  show (x - x) * (p.2 - y1) - (y2 - y1) * (p.1 - x) = (y2 - y1) * (x - p.1)
  rw [Int.sub_self, Int.zero_mul, Int.zero_sub, ← Int.mul_neg, Int.neg_sub]
theorem sd_w (a : Int × Int) (x y1 y2 : Int) : sd a (x, y1) (x, y2) = (x - a.1) * (y2 - y1) := by
  unfold sd
  show (x - a.1) * (y2 - a.2) - (y1 - a.2) * (x - a.1) = (x - a.1) * (y2 - y1)
  rw [Int.mul_comm (y1 - a.2), ← Int.mul_sub]
  have e : y2 - a.2 - (y1 - a.2) = y2 - y1 := by omega
  rw [e]
theorem sd_0 (t p : Int × Int) : sd t t p = 0 := by
  unfold sd
  rw [Int.sub_self, Int.sub_self, Int.zero_mul, Int.zero_mul, Int.sub_self]
theorem mul_pp {a b : Int} (h1 : 0 < a) (h2 : 0 < b) : 0 < a * b := Int.mul_pos h1 h2
theorem mul_nn {a b : Int} (h1 : a < 0) (h2 : b < 0) : 0 < a * b := Int.mul_pos_of_neg_of_neg h1 h2
theorem mul_pn {a b : Int} (h1 : 0 < a) (h2 : b < 0) : a * b < 0 := Int.mul_neg_of_pos_of_neg h1 h2
theorem mul_np {a b : Int} (h1 : a < 0) (h2 : 0 < b) : a * b < 0 := Int.mul_neg_of_neg_of_pos h1 h2
theorem LC_lt {w h : Int} {p : Nat → Int} (x : Nat) : ∀ q ∈ LC w h p x, q.1 < (x : Int) := by
  induction x with
  | zero => intro q hq; exact absurd hq (by simp [LC])
  | succ x ih =>
    intro q hq
    rw [LC] at hq
    by_cases c : fI w h p x < h
    · rw [if_pos c] at hq
      rcases List.mem_cons.mp hq with e | e
      · rw [e]; show (x : Int) < _; omega
      · have := ih q (pops_mem e); omega
    · rw [if_neg c] at hq
      have := ih q hq; omega
theorem DU_gt {w h : Int} {p : Nat → Int} (j : Nat) : ∀ q ∈ DU w h p j, w - 1 - (j : Int) < q.1 := by
  induction j with
  | zero => intro q hq; exact absurd hq (by simp [DU])
  | succ j ih =>
    intro q hq
    rw [DU] at hq
    by_cases c : 0 ≤ lA w h p (w - 1 - j)
    · rw [if_pos c] at hq
      rcases List.mem_cons.mp hq with e | e
      · rw [e]; show w - 1 - ((j + 1 : Nat) : Int) < w - 1 - j; omega
      · have := ih q (pops_mem e); omega
    · rw [if_neg c] at hq
      have := ih q hq; omega
/-- the lower chain's head is the last column's lowest, its foot the first column's -/
theorem LC_g {w h : Int} {p : Nat → Int} (hG : GOk w h p) (x : Nat) : (LC w h p x = [] ∧ RLc w h p x = [] ∧ ∀ i : Int, 0 ≤ i → i < x → ¬ En w h p i) ∨ (∃ (c d : Int) (r : List (Int × Int)), 0 ≤ c ∧ c < x ∧ En w h p c ∧ (∀ i : Int, c < i → i < x → ¬ En w h p i) ∧ LC w h p x = (c, fI w h p c) :: r ∧ RLc w h p x = (if fI w h p c = lA w h p c then LC w h p x else (c, lA w h p c) :: LC w h p x) ∧ 0 ≤ d ∧ En w h p d ∧ (∀ i : Int, 0 ≤ i → i < d → ¬ En w h p i) ∧ bo (LC w h p x) = (d, fI w h p d)) := by
  induction x with
  | zero => exact Or.inl ⟨rfl, rfl, fun i h1 h2 => absurd h2 (by omega)⟩
  | succ x ih =>
    have s := fI_sp hG (x : Int)
    by_cases c : fI w h p x < h
    · have en : En w h p x := s.2.2.1.mp c
      have e1 : LC w h p (x + 1) = psh 0 ((x : Int), fI w h p x) (LC w h p x) := by rw [LC, if_pos c]
      have e2 : RLc w h p (x + 1) = (if fI w h p x = lA w h p x then LC w h p (x + 1) else ((x : Int), lA w h p x) :: LC w h p (x + 1)) := by rw [RLc, if_pos c]
      refine Or.inr ?_
      rcases ih with ⟨i1, i2, i3⟩ | ⟨c', d, r, i1, i2, i3, i4, i5, i6, i7, i8, i9, i10⟩
      · refine ⟨(x : Int), (x : Int), pops 0 ((x : Int), fI w h p x) (LC w h p x), by omega, by omega, en, fun i h1 h2 => absurd h2 (by omega), e1, e2, by omega, en, i3, ?_⟩
        rw [e1, i1]; rfl
      · refine ⟨(x : Int), d, pops 0 ((x : Int), fI w h p x) (LC w h p x), by omega, by omega, en, fun i h1 h2 => absurd h2 (by omega), e1, e2, i7, i8, i9, ?_⟩
        rw [e1, psh_bo (by rw [i5]; simp), i10]
    · have en : ¬ En w h p x := fun q => c (s.2.2.1.mpr q)
      have e1 : LC w h p (x + 1) = LC w h p x := by rw [LC, if_neg c]
      have e2 : RLc w h p (x + 1) = RLc w h p x := by rw [RLc, if_neg c]
      rw [e1, e2]
      rcases ih with ⟨i1, i2, i3⟩ | ⟨c', d, r, i1, i2, i3, i4, i5, i6, i7⟩
      · refine Or.inl ⟨i1, i2, fun i h1 h2 => ?_⟩
        by_cases ci : i = x
        · rw [ci]; exact en
        · exact i3 i h1 (by omega)
      · refine Or.inr ⟨c', d, r, i1, by omega, i3, fun i h1 h2 => ?_, i5, i6, i7⟩
        by_cases ci : i = x
        · rw [ci]; exact en
        · exact i4 i h1 (by omega)
theorem DU_g {w h : Int} {p : Nat → Int} (hG : GOk w h p) (j : Nat) : (DU w h p j = [] ∧ EX w h p j = [] ∧ ∀ i : Int, w - j ≤ i → i < w → ¬ En w h p i) ∨ (∃ (c d : Int) (r : List (Int × Int)), w - j ≤ c ∧ c < w ∧ En w h p c ∧ (∀ i : Int, w - j ≤ i → i < c → ¬ En w h p i) ∧ DU w h p j = (c, lA w h p c) :: r ∧ EX w h p j = (if fI w h p c = lA w h p c then [] else [(c, fI w h p c)]) ∧ d < w ∧ En w h p d ∧ (∀ i : Int, d < i → i < w → ¬ En w h p i) ∧ bo (DU w h p j) = (d, lA w h p d) ∧ c ≤ d) := by
  induction j with
  | zero => exact Or.inl ⟨rfl, rfl, fun i h1 h2 => absurd h2 (by omega)⟩
  | succ j ih =>
    by_cases c : 0 ≤ lA w h p (w - 1 - j)
    · have en : En w h p (w - 1 - j) := c
      have e1 : DU w h p (j + 1) = psh 0 (w - 1 - (j : Int), lA w h p (w - 1 - j)) (DU w h p j) := by rw [DU, if_pos c]
      have e2 : EX w h p (j + 1) = (if fI w h p (w - 1 - j) = lA w h p (w - 1 - j) then [] else [(w - 1 - (j : Int), fI w h p (w - 1 - j))]) := by rw [EX, if_pos c]
      refine Or.inr ?_
      rcases ih with ⟨i1, i2, i3⟩ | ⟨c', d, r, i1, i2, i3, i4, i5, i6, i7, i8, i9, i10, i11⟩
      · refine ⟨w - 1 - (j : Int), w - 1 - (j : Int), pops 0 (w - 1 - (j : Int), lA w h p (w - 1 - j)) (DU w h p j), by omega, by omega, en, fun i h1 h2 => absurd h2 (by omega), e1, e2, by omega, en, fun i h1 h2 => i3 i (by omega) h2, ?_, by omega⟩
        rw [e1, i1]; rfl
      · refine ⟨w - 1 - (j : Int), d, pops 0 (w - 1 - (j : Int), lA w h p (w - 1 - j)) (DU w h p j), by omega, by omega, en, fun i h1 h2 => absurd h2 (by omega), e1, e2, i7, i8, i9, ?_, by omega⟩
        rw [e1, psh_bo (by rw [i5]; simp), i10]
    · have en : ¬ En w h p (w - 1 - j) := c
      have e1 : DU w h p (j + 1) = DU w h p j := by rw [DU, if_neg c]
      have e2 : EX w h p (j + 1) = EX w h p j := by rw [EX, if_neg c]
      rw [e1, e2]
      rcases ih with ⟨i1, i2, i3⟩ | ⟨c', d, r, i1, i2, i3, i4, i5, i6, i7⟩
      · refine Or.inl ⟨i1, i2, fun i h1 h2 => ?_⟩
        by_cases ci : i = w - 1 - j
        · rw [ci]; exact en
        · exact i3 i (by omega) h2
      · refine Or.inr ⟨c', d, r, by omega, i2, i3, fun i h1 h2 => ?_, i5, i6, i7⟩
        by_cases ci : i = w - 1 - j
        · rw [ci]; exact en
        · exact i4 i (by omega) h2
/-- below a column the far end of the last one falls first -/
theorem RLc_p {w h : Int} {p : Nat → Int} (hG : GOk w h p) (x : Nat) {q : Int × Int} (hq : (x : Int) ≤ q.1) : pops 0 q (RLc w h p x) = pops 0 q (LC w h p x) := by
  rcases LC_g hG x with ⟨i1, i2, -⟩ | ⟨c, d, r, i1, i2, i3, i4, i5, i6, -⟩
  · rw [i1, i2]
  · rw [i6]
    by_cases e : fI w h p c = lA w h p c
    · rw [if_pos e]
    · rw [if_neg e, i5]
      have s := fI_sp hG c
      have lt : fI w h p c < lA w h p c := by
        have := s.2.2.2.1 (s.2.2.1.mpr i3); omega
      rw [pops, if_pos]
      refine ⟨by omega, ?_⟩
      rw [sd_v]
      exact Int.le_of_lt (mul_pn (show 0 < lA w h p c - fI w h p c by omega) (show c - q.1 < 0 by omega))
/-- in a column the reference keeps the near end -/
theorem low_k {w h : Int} {p : Nat → Int} (x : Nat) {f y : Int} (hy : f < y) : pops 0 ((x : Int), y) (psh 0 ((x : Int), f) (LC w h p x)) = psh 0 ((x : Int), f) (LC w h p x) := by
  unfold psh
  cases e : pops 0 ((x : Int), f) (LC w h p x) with
  | nil => rfl
  | cons u r =>
    have hu := LC_lt x u (pops_mem (by rw [e]; simp))
    rw [pops, if_neg]
    intro q
    have := q.2
    rw [sd_w] at this
    have pos := mul_pp (show (0 : Int) < (x : Int) - u.1 by omega) (show (0 : Int) < y - f by omega)
    have this' : ((x : Int) - u.1) * (y - f) ≤ 0 := this
    omega
theorem low_k2 {w h : Int} {p : Nat → Int} (x : Nat) {f l y : Int} (hy : f < y) : pops 0 ((x : Int), y) (((x : Int), l) :: psh 0 ((x : Int), f) (LC w h p x)) = psh 0 ((x : Int), f) (LC w h p x) := by
  have k := low_k (w := w) (h := h) (p := p) x hy
  unfold psh at k ⊢
  rw [pops, if_pos]
  · exact k
  · refine ⟨by omega, ?_⟩
    rw [sd_v]
    show (l - f) * ((x : Int) - x) ≤ 0
    rw [Int.sub_self, Int.mul_zero]
    exact Int.le_refl _
/-- the same above, on what lies below the chain -/
theorem up_p {w h : Int} {p : Nat → Int} (hG : GOk w h p) (j : Nat) (tl : List (Int × Int)) {q : Int × Int} (hq : q.1 < w - j) (hD : DU w h p j ≠ []) : pops tl.length q (EX w h p j ++ (DU w h p j ++ tl)) = pops 0 q (DU w h p j) ++ tl := by
  have base : pops tl.length q (DU w h p j ++ tl) = pops 0 q (DU w h p j) ++ tl := by
    have := pops_app (b := 0) (p := q) (Z := DU w h p j) (tl := tl) hD
    rw [Nat.zero_add] at this; exact this
  rcases DU_g hG j with ⟨i1, -, -⟩ | ⟨c, d, r, i1, i2, i3, i4, i5, i6, -⟩
  · exact absurd i1 hD
  · rw [i6]
    by_cases e : fI w h p c = lA w h p c
    · rw [if_pos e]; exact base
    · rw [if_neg e]
      rw [i5] at base ⊢
      have s := fI_sp hG c
      have lt : fI w h p c < lA w h p c := by
        have := s.2.2.2.1 (s.2.2.1.mpr i3); omega
      show pops tl.length q ((c, fI w h p c) :: (c, lA w h p c) :: (r ++ tl)) = _
      rw [pops, if_pos]
      · exact base
      · refine ⟨by rw [List.length_append]; omega, ?_⟩
        rw [sd_v]
        exact Int.le_of_lt (mul_np (show fI w h p c - lA w h p c < 0 by omega) (show 0 < c - q.1 by omega))
theorem up_k {w h : Int} {p : Nat → Int} (j : Nat) (tl : List (Int × Int)) {t y : Int} (hy : y < t) : pops tl.length (w - 1 - (j : Int), y) (psh 0 (w - 1 - (j : Int), t) (DU w h p j) ++ tl) = psh 0 (w - 1 - (j : Int), t) (DU w h p j) ++ tl := by
  have a := pops_app (b := 0) (p := (w - 1 - (j : Int), y)) (Z := psh 0 (w - 1 - (j : Int), t) (DU w h p j)) (tl := tl) (by simp [psh])
  rw [Nat.zero_add] at a
  rw [a]
  congr 1
  unfold psh
  cases e : pops 0 (w - 1 - (j : Int), t) (DU w h p j) with
  | nil => rfl
  | cons u r =>
    have hu := DU_gt j u (pops_mem (by rw [e]; simp))
    rw [pops, if_neg]
    intro q
    have := q.2
    rw [sd_w] at this
    have pos := mul_nn (show (w - 1 - (j : Int)) - u.1 < 0 by omega) (show y - t < 0 by omega)
    have this' : ((w - 1 - (j : Int)) - u.1) * (y - t) ≤ 0 := this
    omega
theorem up_k2 {w h : Int} {p : Nat → Int} (j : Nat) (tl : List (Int × Int)) {t l y : Int} (hy : y < t) : pops tl.length (w - 1 - (j : Int), y) ((w - 1 - (j : Int), l) :: (psh 0 (w - 1 - (j : Int), t) (DU w h p j) ++ tl)) = psh 0 (w - 1 - (j : Int), t) (DU w h p j) ++ tl := by
  have k := up_k (w := w) (h := h) (p := p) j tl hy
  unfold psh at k ⊢
  show pops tl.length (w - 1 - (j : Int), y) ((w - 1 - (j : Int), l) :: (w - 1 - (j : Int), t) :: (pops 0 (w - 1 - (j : Int), t) (DU w h p j) ++ tl)) = _
  rw [pops, if_pos]
  · exact k
  · refine ⟨by rw [List.length_append]; omega, ?_⟩
    rw [sd_v]
    show (l - t) * ((w - 1 - (j : Int)) - (w - 1 - (j : Int))) ≤ 0
    rw [Int.sub_self, Int.mul_zero]
    exact Int.le_refl _
/-- the class's second walk is the chain on what lies below -/
theorem UC_e {w h : Int} {p : Nat → Int} (hG : GOk w h p) (hC : LC w h p w.toNat ≠ []) (j : Nat) (hj : (j : Int) ≤ w) : (DU w h p j = [] ∧ UC w h p ((LC w h p w.toNat).length - 1) (LC w h p w.toNat) j = LC w h p w.toNat) ∨ (DU w h p j ≠ [] ∧ (UC w h p ((LC w h p w.toNat).length - 1) (LC w h p w.toNat) j = DU w h p j ++ (RLc w h p w.toNat).tail ∨ ∃ (t : Int × Int) (r : List (Int × Int)), DU w h p j = [t] ∧ LC w h p w.toNat = t :: r ∧ RLc w h p w.toNat = t :: r ∧ UC w h p ((LC w h p w.toNat).length - 1) (LC w h p w.toNat) j = t :: t :: r)) := by
  have ew : ((w.toNat : Nat) : Int) = w := by have := hG.1; omega
  obtain ⟨c, d0, r0, l1, l2, l3, l4, l5, l6, -⟩ := (LC_g hG w.toNat).resolve_left (fun q => hC q.1)
  rw [ew] at l2 l4
  generalize eC : LC w h p w.toNat = C at *
  generalize eR : RLc w h p w.toNat = R at *
  have sc := fI_sp hG c
  have fl : fI w h p c ≤ lA w h p c := sc.2.2.2.1 (sc.2.2.1.mpr l3)
  induction j with
  | zero => exact Or.inl ⟨rfl, rfl⟩
  | succ j ih =>
    have i := ih (by omega)
    by_cases cx : 0 ≤ lA w h p (w - 1 - j)
    · have e1 : DU w h p (j + 1) = psh 0 (w - 1 - (j : Int), lA w h p (w - 1 - j)) (DU w h p j) := by rw [DU, if_pos cx]
      have e2 : UC w h p (C.length - 1) C (j + 1) = psh (C.length - 1) (w - 1 - (j : Int), lA w h p (w - 1 - j)) (UC w h p (C.length - 1) C j) := by rw [UC, if_pos cx]
      rw [e1, e2]
      refine Or.inr ⟨by simp [psh], ?_⟩
      rcases i with ⟨i1, i2⟩ | ⟨i1, i2⟩
      · -- the first column met from the right is the last one of the lower chain
        have ec : c = w - 1 - j := by
          have dg := (DU_g hG j).resolve_right (fun ⟨_, _, _, _, _, _, _, q, _⟩ => by rw [i1] at q; exact absurd q (by simp))
          by_cases q : c < w - 1 - j
          · exact absurd cx (l4 _ q (by omega))
          · by_cases q2 : w - 1 - j < c
            · exact absurd l3 (dg.2.2 c (by omega) l2)
            · omega
        rw [i1, i2, ← ec]
        show psh (C.length - 1) (c, lA w h p c) C = [(c, lA w h p c)] ++ R.tail ∨ _
        have pc : psh (C.length - 1) (c, lA w h p c) C = (c, lA w h p c) :: C := by rw [psh, pops_b hC]
        rw [pc, l6]
        by_cases e : fI w h p c = lA w h p c
        · rw [if_pos e]
          refine Or.inr ⟨(c, lA w h p c), r0, rfl, by rw [l5, e], by rw [l5, e], by rw [l5, e]⟩
        · rw [if_neg e]
          exact Or.inl rfl
      · have dg := (DU_g hG j).resolve_left (fun q => i1 q.1)
        obtain ⟨c', d, r, k1, k2, k3, k4, k5, k6, k7, k8, k9, k10, k11⟩ := dg
        have ed : d = c := by
          by_cases q : c < d
          · exact absurd k8 (l4 d q k7)
          · by_cases q2 : d < c
            · exact absurd l3 (k9 c q2 l2)
            · omega
        refine Or.inl ?_
        rcases i2 with i2 | ⟨t, r', i2, i3, i4, i5⟩
        · rw [i2]
          unfold psh
          show _ :: _ = (_ :: pops 0 _ (DU w h p j)) ++ R.tail
          rw [l6]
          by_cases e : fI w h p c = lA w h p c
          · rw [if_pos e, l5]
            have a := pops_app (b := 0) (p := (w - 1 - (j : Int), lA w h p (w - 1 - j))) (Z := DU w h p j) (tl := r0) i1
            rw [Nat.zero_add] at a
            show _ :: pops r0.length _ (DU w h p j ++ r0) = _
            rw [a]; rfl
          · rw [if_neg e, l5]
            have a := pops_app1 (p := (w - 1 - (j : Int), lA w h p (w - 1 - j))) (Z := DU w h p j) (c0 := (c, fI w h p c)) (cr := r0) i1 (by
              rw [k10, ed, sd_v]
              exact mul_pp (show 0 < lA w h p c - fI w h p c by omega) (show 0 < c - (w - 1 - (j : Int)) by omega))
            show _ :: pops r0.length _ (DU w h p j ++ (c, fI w h p c) :: r0) = _
            rw [a]; rfl
        · rw [i5, i4, i2, i3]
          show psh r'.length _ (t :: t :: r') = _
          have q : pops r'.length (w - 1 - (j : Int), lA w h p (w - 1 - j)) (t :: t :: r') = pops r'.length (w - 1 - (j : Int), lA w h p (w - 1 - j)) (t :: r') := by
            rw [pops, if_pos ⟨Nat.le_refl _, by rw [sd_0]; exact Int.le_refl _⟩]
          unfold psh
          rw [q]
          have a := pops_app (b := 0) (p := (w - 1 - (j : Int), lA w h p (w - 1 - j))) (Z := [t]) (tl := r') (by simp)
          rw [Nat.zero_add] at a
          show _ :: pops r'.length _ ([t] ++ r') = _
          rw [a]; rfl
    · have e1 : DU w h p (j + 1) = DU w h p j := by rw [DU, if_neg cx]
      have e2 : UC w h p (C.length - 1) C (j + 1) = UC w h p (C.length - 1) C j := by rw [UC, if_neg cx]
      rw [e1, e2]
      exact i
