/-! products, bounded -/
theorem mb {x y : Int} {B C : Nat} (h1 : -(B : Int) ≤ x) (h2 : x ≤ B) (h3 : -(C : Int) ≤ y) (h4 : y ≤ C) : -((B * C : Nat) : Int) ≤ x * y ∧ x * y ≤ ((B * C : Nat) : Int) := by
  have e : (x * y).natAbs ≤ B * C := by rw [Int.natAbs_mul]; exact Nat.mul_le_mul (by omega) (by omega)
  omega
/-! the greatest and the least of fractions -/
def Mx (S : Int → Int → Prop) (a b : Int) : Prop := 0 < b ∧ (∀ p q, S p q → p * b ≤ a * q) ∧ S a b
def Mn (S : Int → Int → Prop) (a b : Int) : Prop := 0 < b ∧ (∀ p q, S p q → a * q ≤ p * b) ∧ S a b
theorem Mx_eq {S : Int → Int → Prop} {a b a' b' : Int} (h : Mx S a b) (h' : Mx S a' b') : a * b' = a' * b := Int.le_antisymm (h'.2.1 a b h.2.2) (h.2.1 a' b' h'.2.2)
theorem Mn_eq {S : Int → Int → Prop} {a b a' b' : Int} (h : Mn S a b) (h' : Mn S a' b') : a * b' = a' * b := Int.le_antisymm (h.2.1 a' b' h'.2.2) (h'.2.1 a b h.2.2)
theorem mul_le_cancel {a b c : Int} (h : 0 < c) (q : a * c ≤ b * c) : a ≤ b := Int.le_of_mul_le_mul_right q h
theorem frac_tr {a b p q x y : Int} (hb : 0 < b) (hq : 0 < q) (hy : 0 < y) (h1 : a * q ≤ p * b) (h2 : p * y ≤ x * q) : a * y ≤ x * b := by
  have s1 : a * q * y ≤ p * b * y := Int.mul_le_mul_of_nonneg_right h1 (by omega)
  have s2 : p * y * b ≤ x * q * b := Int.mul_le_mul_of_nonneg_right h2 (by omega)
  refine mul_le_cancel hq ?_
  have e1 : a * y * q = a * q * y := by grind
  have e2 : x * b * q = x * q * b := by grind
  have e3 : p * b * y = p * y * b := by grind
  omega
/-- one more fraction -/
theorem Mx_add {S : Int → Int → Prop} {a b u v : Int} (h : Mx S a b) (hv : 0 < v) (hS : ∀ p q, S p q → 0 < q) : (a * v < u * b → Mx (fun p q => S p q ∨ (p = u ∧ q = v)) u v) ∧ (u * b ≤ a * v → Mx (fun p q => S p q ∨ (p = u ∧ q = v)) a b) := by
  obtain ⟨hb, hm, hs⟩ := h
  refine ⟨fun c => ⟨hv, fun p q hpq => ?_, Or.inr ⟨rfl, rfl⟩⟩, fun c => ⟨hb, fun p q hpq => ?_, Or.inl hs⟩⟩
  · rcases hpq with hpq | ⟨rfl, rfl⟩
    · exact frac_tr (hS p q hpq) hb hv (hm p q hpq) (by omega)
    · exact Int.le_refl _
  · rcases hpq with hpq | ⟨rfl, rfl⟩
    · exact hm p q hpq
    · exact c
theorem Mn_add {S : Int → Int → Prop} {a b u v : Int} (h : Mn S a b) (hv : 0 < v) (hS : ∀ p q, S p q → 0 < q) : (u * b < a * v → Mn (fun p q => S p q ∨ (p = u ∧ q = v)) u v) ∧ (a * v ≤ u * b → Mn (fun p q => S p q ∨ (p = u ∧ q = v)) a b) := by
  obtain ⟨hb, hm, hs⟩ := h
  refine ⟨fun c => ⟨hv, fun p q hpq => ?_, Or.inr ⟨rfl, rfl⟩⟩, fun c => ⟨hb, fun p q hpq => ?_, Or.inl hs⟩⟩
  · rcases hpq with hpq | ⟨rfl, rfl⟩
    · exact frac_tr hv hb (hS p q hpq) (by omega) (hm p q hpq)
    · exact Int.le_refl _
  · rcases hpq with hpq | ⟨rfl, rfl⟩
    · exact hm p q hpq
    · exact c
theorem Mx_c {S S' : Int → Int → Prop} {a b : Int} (h : Mx S a b) (e : ∀ p q, S p q ↔ S' p q) : Mx S' a b := ⟨h.1, fun p q hp => h.2.1 p q ((e p q).mpr hp), (e a b).mp h.2.2⟩
theorem Mn_c {S S' : Int → Int → Prop} {a b : Int} (h : Mn S a b) (e : ∀ p q, S p q ↔ S' p q) : Mn S' a b := ⟨h.1, fun p q hp => h.2.1 p q ((e p q).mpr hp), (e a b).mp h.2.2⟩
/-! like fractions compare alike -/
theorem fr_lt {a b a' b' c d c' d' : Int} (hb : 0 < b) (hb' : 0 < b') (hd : 0 < d) (hd' : 0 < d') (e1 : a * b' = a' * b) (e2 : c * d' = c' * d) : a * d < c * b ↔ a' * d' < c' * b' := by
  have p1 : 0 < b * d := Int.mul_pos hb hd
  have p2 : 0 < b' * d' := Int.mul_pos hb' hd'
  have q1 : a * d * (b' * d') = a' * d' * (b * d) := by grind
  have q2 : c * b * (b' * d') = c' * b' * (b * d) := by grind
  constructor
  · intro h
    have h2 : a * d * (b' * d') < c * b * (b' * d') := Int.mul_lt_mul_of_pos_right h p2
    rw [q1, q2] at h2
    exact Int.lt_of_mul_lt_mul_right h2 (by omega)
  · intro h
    have h2 : a' * d' * (b * d) < c' * b' * (b * d) := Int.mul_lt_mul_of_pos_right h p1
    rw [← q1, ← q2] at h2
    exact Int.lt_of_mul_lt_mul_right h2 (by omega)
theorem fr_lt1 {a b a' b' x y : Int} (hb : 0 < b) (hb' : 0 < b') (e1 : a * b' = a' * b) : a * y < x * b ↔ a' * y < x * b' := by
  have q1 : a * y * b' = a' * y * b := by grind
  have q2 : x * b * b' = x * b' * b := by grind
  constructor
  · intro h
    have h2 : a * y * b' < x * b * b' := Int.mul_lt_mul_of_pos_right h hb'
    rw [q1, q2] at h2
    exact Int.lt_of_mul_lt_mul_right h2 (by omega)
  · intro h
    have h2 : a' * y * b < x * b' * b := Int.mul_lt_mul_of_pos_right h hb
    rw [← q1, ← q2] at h2
    exact Int.lt_of_mul_lt_mul_right h2 (by omega)
theorem fr_gt1 {a b a' b' x y : Int} (hb : 0 < b) (hb' : 0 < b') (e1 : a * b' = a' * b) : x * b < a * y ↔ x * b' < a' * y := by
  have q1 : a * y * b' = a' * y * b := by grind
  have q2 : x * b * b' = x * b' * b := by grind
  constructor
  · intro h
    have h2 : x * b * b' < a * y * b' := Int.mul_lt_mul_of_pos_right h hb'
    rw [q1, q2] at h2
    exact Int.lt_of_mul_lt_mul_right h2 (by omega)
  · intro h
    have h2 : x * b' * b < a' * y * b := Int.mul_lt_mul_of_pos_right h hb
    rw [← q1, ← q2] at h2
    exact Int.lt_of_mul_lt_mul_right h2 (by omega)
/-! least terms -/
def gI (a b : Int) : Int := ((Nat.gcd a.natAbs b.natAbs : Nat) : Int)
theorem fr_red {a b a' b' : Int} (hb : 0 < b) (hb' : 0 < b') (e : a * b' = a' * b) : a / gI a b = a' / gI a' b' ∧ b / gI a b = b' / gI a' b' := by
  have n1 : b.natAbs ≠ 0 := by omega
  have n2 : b'.natAbs ≠ 0 := by omega
  have eb : ((b.natAbs : Nat) : Int) = b := by omega
  have eb' : ((b'.natAbs : Nat) : Int) = b' := by omega
  have h : Rat.normalize a b.natAbs n1 = Rat.normalize a' b'.natAbs n2 := (Rat.normalize_eq_iff n1 n2).mpr (by rw [eb, eb']; exact e)
  rw [Rat.normalize_eq, Rat.normalize_eq] at h
  injection h with h1 h2
  refine ⟨h1, ?_⟩
  have h3 : ((b.natAbs / Nat.gcd a.natAbs b.natAbs : Nat) : Int) = ((b'.natAbs / Nat.gcd a'.natAbs b'.natAbs : Nat) : Int) := by rw [h2]
  rw [Int.natCast_ediv, Int.natCast_ediv, eb, eb'] at h3
  exact h3
