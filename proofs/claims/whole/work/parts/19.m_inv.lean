-- INVARIANTS of the abstract state
abbrev exv (A : AS) (v : Int) : Prop := 0 ≤ v ∧ v / 6 < A 1 0 0 ∧ v % 6 < A 2 (v / 6) 0
def conOk (kd tg so nu : Int) : Prop := 0 ≤ kd ∧ kd ≤ 3 ∧ 0 ≤ tg ∧ tg ≤ 3 ∧ 0 ≤ so ∧ so ≤ 3 ∧ (kd < 2 → nu = 0) ∧ (kd = 2 → -8 ≤ nu ∧ nu ≤ 8) ∧ (kd = 3 → 0 ≤ nu ∧ nu ≤ 999)
def IvV (A : AS) : Prop := 0 ≤ A 1 0 0 ∧ A 1 0 0 ≤ 10 ∧ (∀ a, 0 ≤ a → a < 10 → 0 ≤ A 2 a 0 ∧ A 2 a 0 ≤ 6) ∧ (∀ a, A 1 0 0 ≤ a → a < 10 → A 2 a 0 = 0) ∧
  (∀ v, exv A v → 0 ≤ A 3 v 0 ∧ A 3 v 0 ≤ 999 ∧ 0 ≤ A 4 v 0 ∧ A 4 v 0 ≤ 6 ∧ 1 ≤ A 8 v 0 ∧ A 8 v 0 ≤ 4) ∧
  (∀ v i, exv A v → 0 ≤ i → i < A 4 v 0 → conOk (A 5 v (4 * i)) (A 5 v (4 * i + 1)) (A 5 v (4 * i + 2)) (A 5 v (4 * i + 3))) ∧
  (∀ v i, exv A v → 0 ≤ i → i < A 6 v 0 → exv A (A 7 v i) ∧ A 8 (A 7 v i) 0 < A 8 v 0) ∧
  (∀ v, 0 ≤ v → v < 60 → 0 ≤ A 6 v 0 ∧ A 6 v 0 ≤ 3 ∧ (A 9 v 0 = 0 ∨ A 9 v 0 = 1) ∧ (A 10 v 0 = 0 ∨ A 10 v 0 = 1)) ∧
  (∀ v, 0 ≤ v → v < 60 → ¬ exv A v → A 6 v 0 = 0 ∧ A 9 v 0 = 0 ∧ A 10 v 0 = 0) ∧
  (∀ v i, 0 ≤ v → v < 60 → 0 ≤ i → i < 3 → 0 ≤ A 7 v i ∧ A 7 v i < 60)
def IvD (A : AS) : Prop := 0 ≤ A 11 0 0 ∧ A 11 0 0 ≤ 999 ∧ 0 ≤ A 12 0 0 ∧ A 12 0 0 ≤ 6 ∧ 0 ≤ A 14 0 0 ∧ A 14 0 0 ≤ 3 ∧
  (∀ i, 0 ≤ i → i < A 12 0 0 → conOk (A 13 (4 * i) 0) (A 13 (4 * i + 1) 0) (A 13 (4 * i + 2) 0) (A 13 (4 * i + 3) 0)) ∧
  (∀ i, 0 ≤ i → i < A 14 0 0 → exv A (A 15 i 0) ∧ A 8 (A 15 i 0) 0 ≤ 3)
abbrev isA (A : AS) (a : Int) : Prop := 0 ≤ a ∧ a < A 1 0 0
abbrev isV (A : AS) (a v : Int) : Prop := 0 ≤ a ∧ a < A 1 0 0 ∧ 1 ≤ v ∧ v ≤ A 2 a 0
theorem exv_of {A : AS} {a v : Int} (I : IvV A) (h : isV A a v) : exv A (6 * a + v - 1) ∧ 0 ≤ 6 * a + v - 1 ∧ 6 * a + v - 1 < 60 := by
  obtain ⟨i1, i2, i3, -⟩ := I
  obtain ⟨h1, h2, h3, h4⟩ := h
  have h5 := i3 a h1 (by omega)
  have e1 : (6 * a + v - 1) / 6 = a := by omega
  have e2 : (6 * a + v - 1) % 6 = v - 1 := by omega
  exact ⟨⟨by omega, by rw [e1]; exact h2, by rw [e1, e2]; omega⟩, by omega, by omega⟩
-- SPECIFICATIONS: what is thrown (by its place in the throws clause), what is returned, what the state is behind it
def th_addAsset (A : AS) : Int := if A 1 0 0 = 10 then 1 else 0
def nx_addAsset (A : AS) : AS := if th_addAsset A = 0 then up A 1 0 0 (A 1 0 0 + 1) else A
def th_content (x : Int) : Int := if 0 ≤ x ∧ x ≤ 999 then 0 else 1
def nx_content (A : AS) (x : Int) : AS := if th_content x = 0 then up A 11 0 0 x else A
def th_constrain (A : AS) (k t s n : Int) : Int := if ¬ (0 ≤ t ∧ t ≤ 3 ∧ 0 ≤ s ∧ s ≤ 3) then 1 else if ¬ (0 ≤ k ∧ k ≤ 3 ∧ (k < 2 → n = 0) ∧ (k = 2 → -8 ≤ n ∧ n ≤ 8) ∧ (k = 3 → 0 ≤ n ∧ n ≤ 999)) then 2 else if A 12 0 0 = 6 then 3 else 0
def nx_constrain (A : AS) (k t s n : Int) : AS := if th_constrain A k t s n = 0 then up (up (up (up (up A 13 (4 * A 12 0 0) 0 k) 13 (4 * A 12 0 0 + 1) 0 t) 13 (4 * A 12 0 0 + 2) 0 s) 13 (4 * A 12 0 0 + 3) 0 n) 12 0 0 (A 12 0 0 + 1) else A
def th_parent (A : AS) (a v : Int) : Int := if ¬ isV A a v then 1 else if A 14 0 0 = 3 ∨ A 8 (6 * a + v - 1) 0 = 4 then 2 else 0
def nx_parent (A : AS) (a v : Int) : AS := if th_parent A a v = 0 then up (up A 15 (A 14 0 0) 0 (6 * a + v - 1)) 14 0 0 (A 14 0 0 + 1) else A
