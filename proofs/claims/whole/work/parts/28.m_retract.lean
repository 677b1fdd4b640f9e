/-- the sum of the first n of a row -/
def sm (g : Int → Int) : Nat → Int
  | 0 => 0
  | n + 1 => sm g n + g n
theorem sm_congr {g g' : Int → Int} : ∀ n : Nat, (∀ i : Int, 0 ≤ i → i < n → g i = g' i) → sm g n = sm g' n
  | 0, _ => rfl
  | n + 1, h => by
    simp only [sm]
    rw [sm_congr n (fun i h0 h1 => h i h0 (by omega)), h n (by omega) (by omega)]
theorem sm_set {g g' : Int → Int} {i : Int} (h0 : 0 ≤ i) (he : ∀ k, k ≠ i → g' k = g k) : ∀ n : Nat, i < n → sm g' n = sm g n - g i + g' i
  | 0, h => by omega
  | n + 1, h => by
    simp only [sm]
    rcases (by omega : i < n ∨ i = n) with z | z
    · rw [sm_set h0 he n z, he n (by omega)]; omega
    · subst z
      rw [sm_congr n (fun k k0 k1 => he k (by omega))]; omega
def pinD (A : AS) (r s : Int) : Prop := ∃ q, 0 ≤ q ∧ q < 4 ∧ A 22 s q ≠ -1 ∧ Dsc A r (A 22 s q)
noncomputable def rt1 (A : AS) (r k : Int) : AS := upf (up A 9 r 0 1) 10 (fun i j => cif (j = 0 ∧ 0 ≤ i ∧ i < k ∧ Dsc A r i) 0 (A 10 i j))
noncomputable def rt2 (A : AS) (r k : Int) : AS := upf (rt1 A r 60) 31 (fun i j => cif (j = 0 ∧ 0 ≤ i ∧ i < k ∧ pinD A r i) 0 (A 31 i j))
noncomputable def th_retract (A : AS) (a v : Int) : Int := if ¬ isV A a v then 1 else if A 9 (6 * a + v - 1) 0 ≠ 0 then 2 else 0
noncomputable def nx_retract (A : AS) (a v : Int) : AS := if th_retract A a v = 0 then rt2 A (6 * a + v - 1) (A 16 0 0) else A
noncomputable def rs_retract (A : AS) (a v : Int) : Int := sm (fun i => A 10 i 0) 60 - sm (fun i => rt2 A (6 * a + v - 1) (A 16 0 0) 10 i 0) 60 + (sm (fun i => A 31 i 0) 5 - sm (fun i => rt2 A (6 * a + v - 1) (A 16 0 0) 31 i 0) 5)
theorem rt1_0 {A : AS} {r : Int} : rt1 A r 0 = up A 9 r 0 1 := by
  funext f i j
  unfold rt1
  by_cases e : f = 10
  · subst e
    rw [upf_at, cif_neg (by omega), up_f (by decide)]
  · rw [upf_f e]
theorem rt1_up {A : AS} {r k x : Int} (hk : 0 ≤ k) (h1 : Dsc A r k → x = 0) (h2 : ¬ Dsc A r k → x = A 10 k 0) : up (rt1 A r k) 10 k 0 x = rt1 A r (k + 1) := by
  funext f i j
  by_cases e : f = 10
  · subst e
    unfold rt1
    rw [up_at, upf_at, upf_at]
    by_cases e2 : i = k ∧ j = 0
    · obtain ⟨e3, e4⟩ := e2
      subst e3 e4
      rw [if_pos ⟨rfl, rfl⟩]
      by_cases D : Dsc A r i
      · rw [cif_pos ⟨rfl, hk, by omega, D⟩]; exact h1 D
      · rw [cif_neg (fun q => D q.2.2.2)]; exact h2 D
    · rw [if_neg e2]
      by_cases q : j = 0 ∧ 0 ≤ i ∧ i < k ∧ Dsc A r i
      · rw [cif_pos q, cif_pos ⟨q.1, q.2.1, by omega, q.2.2.2⟩]
      · rw [cif_neg q, cif_neg (fun w => q ⟨w.1, w.2.1, by omega, w.2.2.2⟩)]
  · rw [up_f e]; unfold rt1; rw [upf_f e, upf_f e]
theorem rt2_0 {A : AS} {r : Int} : rt2 A r 0 = rt1 A r 60 := by
  funext f i j
  unfold rt2
  by_cases e : f = 31
  · subst e
    rw [upf_at, cif_neg (by omega)]
    unfold rt1
    rw [upf_f (by decide), up_f (by decide)]
  · rw [upf_f e]
theorem rt2_up {A : AS} {r k x : Int} (hk : 0 ≤ k) (h1 : pinD A r k → x = 0) (h2 : ¬ pinD A r k → x = A 31 k 0) : up (rt2 A r k) 31 k 0 x = rt2 A r (k + 1) := by
  funext f i j
  by_cases e : f = 31
  · subst e
    unfold rt2
    rw [up_at, upf_at, upf_at]
    by_cases e2 : i = k ∧ j = 0
    · obtain ⟨e3, e4⟩ := e2
      subst e3 e4
      rw [if_pos ⟨rfl, rfl⟩]
      by_cases D : pinD A r i
      · rw [cif_pos ⟨rfl, hk, by omega, D⟩]; exact h1 D
      · rw [cif_neg (fun q => D q.2.2.2)]; exact h2 D
    · rw [if_neg e2]
      by_cases q : j = 0 ∧ 0 ≤ i ∧ i < k ∧ pinD A r i
      · rw [cif_pos q, cif_pos ⟨q.1, q.2.1, by omega, q.2.2.2⟩]
      · rw [cif_neg q, cif_neg (fun w => q ⟨w.1, w.2.1, by omega, w.2.2.2⟩)]
  · rw [up_f e]; unfold rt2; rw [upf_f e, upf_f e]
theorem rt1_10 {A : AS} {r k i : Int} (h : k ≤ i) : rt1 A r k 10 i 0 = A 10 i 0 := by
  unfold rt1; rw [upf_at, cif_neg (fun q => by omega)]
theorem rt1_f {A : AS} {r k : Int} {f : Nat} {i j : Int} (h : f ≠ 9) (h2 : f ≠ 10) : rt1 A r k f i j = A f i j := by
  unfold rt1; rw [upf_f h2, up_f h]
theorem rt2_31 {A : AS} {r k i : Int} (h : k ≤ i) : rt2 A r k 31 i 0 = A 31 i 0 := by
  unfold rt2; rw [upf_at, cif_neg (fun q => by omega)]
theorem rt2_f {A : AS} {r k : Int} {f : Nat} {i j : Int} (h : f ≠ 31) : rt2 A r k f i j = rt1 A r 60 f i j := by
  unfold rt2; rw [upf_f h]
