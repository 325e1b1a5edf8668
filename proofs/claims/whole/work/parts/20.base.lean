/-! truth values as the machine has them -/
def bI (c : Prop) [Decidable c] : Int := if c then 1 else 0
theorem bI_t {c : Prop} [Decidable c] (h : c) : bI c = 1 := if_pos h
theorem bI_f {c : Prop} [Decidable c] (h : ¬ c) : bI c = 0 := if_neg h
theorem bI_01 (c : Prop) [Decidable c] : bI c = 0 ∨ bI c = 1 := by unfold bI; split <;> simp
theorem bI_R (c : Prop) [Decidable c] : xR (bI c) := by rcases bI_01 c with h | h <;> rw [h] <;> omega
theorem bI_z {c : Prop} [Decidable c] : bI c = 0 ↔ ¬ c := by unfold bI; split <;> simp_all
theorem bI_nz {c : Prop} [Decidable c] : bI c ≠ 0 ↔ c := by unfold bI; split <;> simp_all
theorem bI_o {c : Prop} [Decidable c] : bI c = 1 ↔ c := by unfold bI; split <;> simp_all
theorem bI_c {c d : Prop} [Decidable c] [Decidable d] (h : c ↔ d) : bI c = bI d := by unfold bI; simp only [h]
theorem br_z {c : Prop} [Decidable c] {A B : Prop} (h0 : ¬ c → A) (h1 : c → B) : xR (bI c) ∧ (bI c = 0 → A) ∧ (bI c ≠ 0 → B) := ⟨bI_R c, fun h => h0 (bI_z.mp h), fun h => h1 (bI_nz.mp h)⟩
theorem br_n {c : Prop} [Decidable c] {A B : Prop} (h1 : c → A) (h0 : ¬ c → B) : xR (bI c) ∧ (bI c ≠ 0 → A) ∧ (bI c = 0 → B) := ⟨bI_R c, fun h => h1 (bI_nz.mp h), fun h => h0 (bI_z.mp h)⟩
theorem xr {z : Int} (h1 : -2147483648 ≤ z) (h2 : z ≤ 2147483647) : xR z := ⟨h1, h2⟩
/-! states that agree but for some cells -/
def eqx (ks : List Nat) (σ σ' : xSt) : Prop := ∀ k, k ∉ ks → σ' k = σ k
theorem eqx_rf (ks : List Nat) (σ : xSt) : eqx ks σ σ := fun _ _ => rfl
theorem eqx_tr {ks : List Nat} {σ σ' σ2 : xSt} (h : eqx ks σ σ') (h2 : eqx ks σ' σ2) : eqx ks σ σ2 := fun k hk => (h2 k hk).trans (h k hk)
theorem eqx_up {ks : List Nat} (σ : xSt) {k j : Nat} (z : Int) (h : k ∈ ks) : eqx ks σ (xU σ k j z) := by
  intro k' hk
  exact if_neg (fun e => hk (by rw [e]; exact h))
theorem eqx_wk {ks ks' : List Nat} {σ σ' : xSt} (h : eqx ks σ σ') (hs : ∀ k ∈ ks, k ∈ ks') : eqx ks' σ σ' := fun k hk => h k (fun q => hk (hs k q))
theorem xU_s (σ : xSt) (k j : Nat) (z : Int) : xU σ k j z k j = z := by simp [xU]
theorem xU_k (σ : xSt) {k k' : Nat} (j : Nat) (z : Int) (h : k' ≠ k) : xU σ k j z k' = σ k' := if_neg h
theorem xU_j (σ : xSt) (k : Nat) {j j' : Nat} (z : Int) (h : j' ≠ j) : xU σ k j z k j' = σ k j' := by simp [xU, h]
theorem xU_i (σ : xSt) (k : Nat) (j j' : Nat) (z : Int) : xU σ k j z k j' = if j' = j then z else σ k j' := by simp [xU]
/-! going up to a bound -/
theorem lpU {P : Int → Prop} (N : Int) (h : ∀ i, i ≤ N → (∀ j, i < j → j ≤ N → P j) → P i) : ∀ i, i ≤ N → P i := by
  have key : ∀ (m : Nat) (i : Int), i ≤ N → (N - i).toNat ≤ m → P i := by
    intro m
    induction m with
    | zero => intro i hi hm; exact h i hi (fun j h1 h2 => absurd hm (by omega))
    | succ m ih => intro i hi hm; exact h i hi (fun j h1 h2 => ih j h2 (by omega))
  exact fun i hi => key _ i hi (Nat.le_refl _)
theorem lpD {P : Int → Prop} (N : Int) (h : ∀ i, N ≤ i → (∀ j, N ≤ j → j < i → P j) → P i) : ∀ i, N ≤ i → P i := by
  have key : ∀ (m : Nat) (i : Int), N ≤ i → (i - N).toNat ≤ m → P i := by
    intro m
    induction m with
    | zero => intro i hi hm; exact h i hi (fun j h1 h2 => absurd hm (by omega))
    | succ m ih => intro i hi hm; exact h i hi (fun j h1 h2 => ih j h1 (by omega))
  exact fun i hi => key _ i hi (Nat.le_refl _)
/-! sums -/
def sI (g : Nat → Int) : Nat → Int
  | 0 => 0
  | n + 1 => sI g n + g n
theorem sI_c {g g' : Nat → Int} {n : Nat} (h : ∀ i, i < n → g i = g' i) : sI g n = sI g' n := by
  induction n with
  | zero => rfl
  | succ n ih => simp only [sI, ih (fun i hi => h i (by omega)), h n (by omega)]
theorem sI_bd {g : Nat → Int} {n : Nat} {a b : Int} (h : ∀ i, i < n → a ≤ g i ∧ g i ≤ b) : a * n ≤ sI g n ∧ sI g n ≤ b * n := by
  induction n with
  | zero => simp [sI]
  | succ n ih =>
    have h1 := ih (fun i hi => h i (by omega))
    have h2 := h n (by omega)
    have e1 : a * ((n + 1 : Nat) : Int) = a * n + a := by rw [Int.natCast_add, Int.mul_add]; simp
    have e2 : b * ((n + 1 : Nat) : Int) = b * n + b := by rw [Int.natCast_add, Int.mul_add]; simp
    simp only [sI]
    rw [e1, e2]
    omega
theorem sI_s (g : Nat → Int) {i : Int} (h : 0 ≤ i) : sI g (i + 1).toNat = sI g i.toNat + g i.toNat := by
  have e : (i + 1).toNat = i.toNat + 1 := by omega
  rw [e]; rfl
/-! fields of the ground -/
theorem mul_bd {w h : Int} (h1 : 1 ≤ w) (h2 : w ≤ 12) (h3 : 1 ≤ h) (h4 : h ≤ 12) : 1 ≤ w * h ∧ w * h ≤ 144 := by
  have a : 1 * 1 ≤ w * h := Int.mul_le_mul h1 h3 (by omega) (by omega)
  have b : w * h ≤ 12 * 12 := Int.mul_le_mul h2 h4 (by omega) (by omega)
  omega
theorem fxy {w h f : Int} (hw : 1 ≤ w) (h0 : 0 ≤ f) (h1 : f < w * h) : 0 ≤ f % w ∧ f % w < w ∧ 0 ≤ f / w ∧ f / w < h ∧ f / w * w + f % w = f :=
  ⟨Int.emod_nonneg f (by omega), Int.emod_lt_of_pos f (by omega), Int.ediv_nonneg h0 (by omega), Int.ediv_lt_of_lt_mul (by omega) (by rw [Int.mul_comm]; exact h1), by rw [Int.mul_comm]; exact Int.mul_ediv_add_emod f w⟩
theorem fN {w h x y : Int} (hw : 1 ≤ w) (hx : 0 ≤ x) (hx2 : x < w) (hy : 0 ≤ y) (hy2 : y < h) : 0 ≤ y * w + x ∧ y * w + x < w * h ∧ (y * w + x) % w = x ∧ (y * w + x) / w = y := by
  have a : (y + 1) * w ≤ h * w := Int.mul_le_mul_of_nonneg_right (by omega) (by omega)
  have b : 0 * w ≤ y * w := Int.mul_le_mul_of_nonneg_right hy (by omega)
  rw [Int.add_mul] at a
  have c : w * h = h * w := Int.mul_comm w h
  refine ⟨by omega, by omega, ?_, ?_⟩
  · rw [Int.add_comm, Int.add_mul_emod_self_right, Int.emod_eq_of_lt hx hx2]
  · rw [Int.add_comm, Int.add_mul_ediv_right _ _ (by omega), Int.ediv_eq_zero_of_lt hx hx2]; omega
theorem tmod_e {f w : Int} (h0 : 0 ≤ f) : Int.tmod f w = f % w := Int.tmod_eq_emod_of_nonneg h0
theorem tdiv_e {f w : Int} (h0 : 0 ≤ f) : Int.tdiv f w = f / w := Int.tdiv_eq_ediv_of_nonneg h0
def GOk (w h : Int) (p : Nat → Int) : Prop := 1 ≤ w ∧ w ≤ 12 ∧ 1 ≤ h ∧ h ≤ 12 ∧ ∀ f : Nat, p f = 0 ∨ p f = 1
def aV (w h : Int) (p : Nat → Int) (x y : Int) : Int := if 0 ≤ x ∧ x < w ∧ 0 ≤ y ∧ y < h then p (y * w + x).toNat else 0
theorem aV_01 {w h : Int} {p : Nat → Int} (hG : GOk w h p) (x y : Int) : aV w h p x y = 0 ∨ aV w h p x y = 1 := by
  unfold aV; split
  · exact hG.2.2.2.2 _
  · exact Or.inl rfl
abbrev eD (w h f : Int) : Prop := f % w = 0 ∨ f / w = 0 ∨ f % w = w - 1 ∨ f / w = h - 1
theorem GOk.N {w h : Int} {p : Nat → Int} (hG : GOk w h p) : 1 ≤ w * h ∧ w * h ≤ 144 := mul_bd hG.1 hG.2.1 hG.2.2.1 hG.2.2.2.1
theorem GOk.c {w h : Int} {p p' : Nat → Int} (hG : GOk w h p) (h1 : p' = p) : GOk w h p' := h1 ▸ hG
def hV (w h : Int) (p : Nat → Int) (f : Int) : Int := if 0 ≤ f ∧ f < w * h then p f.toNat else 0
theorem hV_in {w h : Int} {p : Nat → Int} {f : Int} (h0 : 0 ≤ f) (h1 : f < w * h) : hV w h p f = p f.toNat := if_pos ⟨h0, h1⟩
theorem hV_01 {w h : Int} {p : Nat → Int} (hG : GOk w h p) (f : Int) : hV w h p f = 0 ∨ hV w h p f = 1 := by
  unfold hV; split
  · exact hG.2.2.2.2 _
  · exact Or.inl rfl
theorem r01 {v : Int} (h : v = 0 ∨ v = 1) : xR v := by omega
theorem b01 {v : Int} (h : v = 0 ∨ v = 1) {Post : Int → Prop} (hp : Post v) : xR v ∧ (v = 0 → Post 0) ∧ (v ≠ 0 → Post 1) := ⟨r01 h, fun e => e ▸ hp, fun e => by rcases h with h | h; exact absurd h e; exact h ▸ hp⟩
