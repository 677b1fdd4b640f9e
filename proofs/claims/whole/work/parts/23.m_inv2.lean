abbrev isS (A : AS) (s : Int) : Prop := 0 ≤ s ∧ s < A 16 0 0
abbrev isP (A : AS) (s p : Int) : Prop := 0 ≤ s ∧ s < A 16 0 0 ∧ 0 ≤ p ∧ p < A 17 s 0
def actv (A : AS) (f : Int) : Prop := 0 ≤ f ∧ f < 80 ∧ ∃ p, 0 ≤ p ∧ p < A 17 (f / 16) 0 ∧ A 18 (f / 16) p = f
/-- shots, after at most c calls -/
def IvS (c : Int) (A : AS) : Prop := 0 ≤ A 16 0 0 ∧ A 16 0 0 ≤ 5 ∧
  (∀ s, 0 ≤ s → s < 5 → 0 ≤ A 17 s 0 ∧ A 17 s 0 ≤ 16 ∧ 0 ≤ A 20 s 0 ∧ A 20 s 0 ≤ 16 * c ∧ 0 ≤ A 23 s 0 ∧ A 23 s 0 ≤ 20 ∧ 0 ≤ A 27 s 0 ∧ A 27 s 0 ≤ 2 ∧ 0 ≤ A 28 s 0 ∧ A 28 s 0 ≤ 4 ∧ 0 ≤ A 29 s 0 ∧ A 29 s 0 ≤ 999 ∧ 0 ≤ A 30 s 0 ∧ A 30 s 0 ≤ 99 * c ∧ (A 31 s 0 = 0 ∨ A 31 s 0 = 1)) ∧
  (∀ s, 0 ≤ s → s < A 16 0 0 → 1 ≤ A 17 s 0 ∧ 1 ≤ A 28 s 0) ∧
  (∀ s, A 16 0 0 ≤ s → s < 5 → A 17 s 0 = 0 ∧ A 20 s 0 = 0 ∧ A 23 s 0 = 0 ∧ A 27 s 0 = 0 ∧ A 29 s 0 = 0 ∧ A 30 s 0 = 0 ∧ A 31 s 0 = 0) ∧
  (∀ s p, 0 ≤ s → s < 5 → 0 ≤ p → p < A 17 s 0 → 16 * s ≤ A 18 s p ∧ A 18 s p < 16 * s + 16 ∧ 0 ≤ A 21 (A 18 s p) 0 ∧ A 21 (A 18 s p) 0 < A 20 s 0) ∧
  (∀ s p p', 0 ≤ s → s < 5 → 0 ≤ p → p < p' → p' < A 17 s 0 → A 18 s p ≠ A 18 s p' ∧ A 21 (A 18 s p) 0 ≠ A 21 (A 18 s p') 0) ∧
  (∀ s k, 0 ≤ s → s < 5 → 0 ≤ k → k < 4 → A 22 s k = -1 ∨ exv A (A 22 s k)) ∧
  (∀ s k, A 16 0 0 ≤ s → s < 5 → 0 ≤ k → k < 4 → A 22 s k = -1) ∧
  (∀ f l, 0 ≤ f → f < 80 → 0 ≤ l → l < 16 → (A 24 f l = 0 ∨ (A 24 f l = 1 ∧ actv A f)) ∧ -9999 ≤ A 25 f l ∧ A 25 f l ≤ 9999)
/-- what is the frames' own -/
def IvF (A : AS) : Prop := ∀ f, 0 ≤ f → f < 80 → -1 ≤ A 32 f 0 ∧ A 32 f 0 ≤ 99990 ∧ 0 ≤ A 33 f 0 ∧ A 33 f 0 ≤ 12 ∧ (A 32 f 0 ≠ -1 → actv A f ∧ 0 ≤ A 34 f 20 ∧ A 34 f 20 ≤ 2 ∧ 1 ≤ A 34 f 21 ∧ A 34 f 21 ≤ 4 ∧ A 33 f 0 = (12 + A 34 f 21 - 1) / A 34 f 21 ∧
  ∀ k, 0 ≤ k → k < 4 → (A 34 f k = -1 ∨ exv A (A 34 f k)) ∧ ∀ l, 0 ≤ l → l < 4 → -9999 ≤ A 34 f (4 + 4 * k + l) ∧ A 34 f (4 + 4 * k + l) ≤ 9999) ∧ 0 ≤ A 44 f 0 ∧ A 44 f 0 ≤ 3
/-- machines and queue -/
def IvM (c : Int) (A : AS) : Prop := 0 ≤ A 36 0 0 ∧ A 36 0 0 ≤ 4 ∧ 0 ≤ A 35 0 0 ∧ A 35 0 0 ≤ 999 ∧ 0 ≤ A 45 0 0 ∧ A 45 0 0 ≤ 120 * c ∧ 0 ≤ A 46 0 0 ∧ A 46 0 0 ≤ 120 * c ∧
  (∀ m, 0 ≤ m → m < 4 → (A 39 m 0 = -1 ∨ actv A (A 39 m 0)) ∧ 0 ≤ A 40 m 0 ∧ A 40 m 0 ≤ 5 ∧ (A 41 m 0 = 0 ∨ A 41 m 0 = 1) ∧ (A 39 m 0 ≠ -1 → A 41 m 0 = 0 → A 44 (A 39 m 0) 0 ≤ 2)) ∧
  (∀ m, 0 ≤ m → m < A 36 0 0 → 1 ≤ A 37 m 0 ∧ A 37 m 0 ≤ 3 ∧ 0 ≤ A 38 m 0 ∧ A 38 m 0 ≤ 6) ∧
  (∀ m, A 36 0 0 ≤ m → m < 4 → A 39 m 0 = -1 ∧ A 40 m 0 = 0 ∧ A 41 m 0 = 0) ∧
  (∀ m m', 0 ≤ m → m < m' → m' < 4 → A 39 m 0 = A 39 m' 0 → A 39 m 0 = -1) ∧
  0 ≤ A 42 0 0 ∧ A 42 0 0 ≤ 80 ∧ (∀ k, 0 ≤ k → k < A 42 0 0 → actv A (A 43 k 0) ∧ A 44 (A 43 k 0) 0 ≤ 2 ∧ ∀ m, 0 ≤ m → m < 4 → A 39 m 0 ≠ A 43 k 0) ∧
  (∀ k k', 0 ≤ k → k < k' → k' < A 42 0 0 → A 43 k 0 ≠ A 43 k' 0)
/-- notes and deliveries -/
def IvN (A : AS) : Prop := 0 ≤ A 47 0 0 ∧ A 47 0 0 ≤ 30 ∧ (∀ k, 0 ≤ k → k < A 47 0 0 → 0 ≤ A 49 k 0 ∧ A 49 k 0 ≤ 2 ∧ (A 50 k 0 = 0 ∨ A 50 k 0 = 1) ∧ (A 48 k 0 = -1 ∨ actv A (A 48 k 0)) ∧ (A 50 k 0 = 1 → A 48 k 0 ≠ -1)) ∧
  0 ≤ A 51 0 0 ∧ A 51 0 0 ≤ 20 ∧ (∀ d, 0 ≤ d → d < A 51 0 0 → 1 ≤ A 52 d 0 ∧ A 52 d 0 ≤ 16)
theorem actv_of {c : Int} {A : AS} (I : IvS c A) {s p : Int} (h : isP A s p) : actv A (A 18 s p) ∧ A 18 s p / 16 = s ∧ 0 ≤ A 18 s p ∧ A 18 s p < 80 := by
  obtain ⟨i1, i2, i3, i4, i5, i6, -⟩ := I
  obtain ⟨h1, h2, h3, h4⟩ := h
  have h5 := i6 s p h1 (by omega) h3 h4
  have e : A 18 s p / 16 = s := by omega
  exact ⟨⟨by omega, by omega, p, h3, by rw [e]; exact h4, by rw [e]⟩, e, by omega, by omega⟩
-- the model's tests, in the state's words
theorem c_R_isAsset {d : Nat} (hd : 1 ≤ d) {a : Int} {A : AS} {h : Mh} {P : Out → Mh → Prop} (R : RM A h) (I : IvV A) (H1 : isA A a → P (.inl (some (pI 1))) h) (H0 : ¬ isA A a → P (.inl (some (pI 0))) h) : Ct kM_isAsset d [pR (some 3), pI a] h P :=
  c_M_isAsset hd R.1 (by rw [rs_1 R]; exact ⟨I.1, I.2.1⟩) (fun z => H1 (by rw [rs_1 R] at z; exact z)) (fun z => H0 (by rw [rs_1 R] at z; exact z))
theorem c_R_isVersion {d : Nat} (hd : 2 ≤ d) {a v : Int} {A : AS} {h : Mh} {P : Out → Mh → Prop} (R : RM A h) (I : IvV A) (H1 : isV A a v → P (.inl (some (pI 1))) h) (H0 : ¬ isV A a v → P (.inl (some (pI 0))) h) : Ct kM_isVersion d [pR (some 3), pI a, pI v] h P := by
  have i1 := I.1
  have i2 := I.2.1
  refine c_M_isVersion hd R.1 (by rw [rs_1 R]; exact ⟨I.1, I.2.1⟩) (fun z => H1 ?_) (fun z => H0 ?_)
  · rw [rs_1 R] at z
    rw [rp_2 R z.1 (by omega)] at z
    exact z
  · intro w
    apply z
    rw [rs_1 R, rp_2 R w.1 (by omega)]
    exact w
theorem c_R_isShot {d : Nat} (hd : 1 ≤ d) {c s : Int} {A : AS} {h : Mh} {P : Out → Mh → Prop} (R : RM A h) (I : IvS c A) (H1 : isS A s → P (.inl (some (pI 1))) h) (H0 : ¬ isS A s → P (.inl (some (pI 0))) h) : Ct kM_isShot d [pR (some 3), pI s] h P :=
  c_M_isShot hd R.1 (by rw [rs_16 R]; exact ⟨I.1, I.2.1⟩) (fun z => H1 (by rw [rs_16 R] at z; exact z)) (fun z => H0 (by rw [rs_16 R] at z; exact z))
theorem c_R_isPlace {d : Nat} (hd : 2 ≤ d) {c s p : Int} {A : AS} {h : Mh} {P : Out → Mh → Prop} (R : RM A h) (I : IvS c A) (H1 : isP A s p → P (.inl (some (pI 1))) h) (H0 : ¬ isP A s p → P (.inl (some (pI 0))) h) : Ct kM_isPlace d [pR (some 3), pI s, pI p] h P := by
  have i1 := I.1
  have i2 := I.2.1
  refine c_M_isPlace hd R.1 (by rw [rs_16 R]; exact ⟨I.1, I.2.1⟩) (fun s h0 h1 => ?_) (fun z => H1 ?_) (fun z => H0 ?_)
  · rw [rs_16 R] at h1
    rw [rp_17 R h0 (by omega)]
    have := I.2.2.1 s h0 (by omega)
    have := I.2.2.2.1 s h0 h1
    omega
  · rw [rs_16 R] at z
    rw [rp_17 R z.1 (by omega)] at z
    exact z
  · intro w
    apply z
    rw [rs_16 R, rp_17 R w.1 (by omega)]
    exact w
def th_setLook (A : AS) (s k z : Int) : Int := if ¬ isS A s then 1 else if ¬ (0 ≤ k ∧ k ≤ 2 ∧ 1 ≤ z ∧ z ≤ 4) then 2 else 0
def nx_setLook (A : AS) (s k z : Int) : AS := if th_setLook A s k z = 0 then up (up (up A 27 s 0 k) 28 s 0 z) 31 s 0 0 else A
def th_addMachine (A : AS) (f w : Int) : Int := if ¬ (1 ≤ f ∧ f ≤ 3 ∧ 0 ≤ w ∧ w ≤ 6) then 1 else if A 36 0 0 = 4 then 2 else 0
def nx_addMachine (A : AS) (f w : Int) : AS := if th_addMachine A f w = 0 then up (up (up A 37 (A 36 0 0) 0 f) 38 (A 36 0 0) 0 w) 36 0 0 (A 36 0 0 + 1) else A
def th_setDisk (x : Int) : Int := if 0 ≤ x ∧ x ≤ 999 then 0 else 1
def nx_setDisk (A : AS) (x : Int) : AS := if th_setDisk x = 0 then up A 35 0 0 x else A
def th_note (A : AS) (s p w : Int) : Int := if ¬ isP A s p then 1 else if ¬ (0 ≤ w ∧ w ≤ 2) then 2 else if A 47 0 0 = 30 then 3 else 0
def nx_note (A : AS) (s p w : Int) : AS := if th_note A s p w = 0 then up (up (up (up A 48 (A 47 0 0) 0 (A 18 s p)) 49 (A 47 0 0) 0 w) 50 (A 47 0 0) 0 1) 47 0 0 (A 47 0 0 + 1) else A
def th_close (A : AS) (n : Int) : Int := if 0 ≤ n ∧ n < A 47 0 0 then 0 else 1
def nx_close (A : AS) (n : Int) : AS := if th_close A n = 0 then up A 50 n 0 0 else A
def th_work (A : AS) (s b m : Int) : Int := if ¬ isS A s then 1 else if ¬ (0 ≤ b ∧ b ≤ 999 ∧ 0 ≤ m ∧ m ≤ 99) then 2 else 0
def nx_work (A : AS) (s b m : Int) : AS := if th_work A s b m = 0 then up (up A 29 s 0 b) 30 s 0 (A 30 s 0 + m) else A
def th_versions (A : AS) (a : Int) : Int := if isA A a then 0 else 1
def th_version (A : AS) (a v w : Int) : Int := if ¬ isV A a v then 1 else if ¬ (0 ≤ w ∧ w ≤ 5) then 2 else 0
def rs_version (A : AS) (a v w : Int) : Int := if w = 0 then A 3 (6 * a + v - 1) 0 else if w = 1 then A 8 (6 * a + v - 1) 0 else if w = 2 then A 4 (6 * a + v - 1) 0 else if w = 3 then A 6 (6 * a + v - 1) 0 else if w = 4 then A 9 (6 * a + v - 1) 0 else A 10 (6 * a + v - 1) 0
def th_place (A : AS) (s p : Int) : Int := if isP A s p then 0 else 1
