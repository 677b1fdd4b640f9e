-- THE ABSTRACT STATE: fields numbered as the model's: 1 assets 2 versions 3 content 4 constraints 5 constraint 6 parents 7 parent 8 height 9 isRetracted 10 isApproved 11 draftContent 12 draftConstraints 13 draftConstraint 14 draftParents 15 draftParent
-- 16 shots 17 frames 18 row 20 names 21 name 22 pins 23 keys 24 is keyed (frame, line) 25 key's value 27 colour 28 size 29 bid 30 hours 31 isFine 32 stored 33 storedCost 34 madeOf 35 disk 36 machines 37 speed 38 weakness 39 unit 40 ticks 41 isTried
-- 42 queued 43 queue 44 tries 45 failed 46 givenUp 47 notes 48 noteOf 49 weight 50 isOpen 51 kept 52 keptMany 53 keptImage 54 cached 56 cache (k-th from the oldest) 57 hits 58 makings
abbrev AS : Type := Nat → Int → Int → Int
def up (A : AS) (f : Nat) (i j v : Int) : AS := fun f' i' j' => if f' = f ∧ i' = i ∧ j' = j then v else A f' i' j'
def upr (A : AS) (f : Nat) (i : Int) (g : Int → Int) : AS := fun f' i' j' => if f' = f ∧ i' = i then g j' else A f' i' j'
def upf (A : AS) (f : Nat) (g : Int → Int → Int) : AS := fun f' i' j' => if f' = f then g i' j' else A f' i' j'
theorem up_f {A : AS} {f f' : Nat} {i j v i' j' : Int} (h : f' ≠ f) : up A f i j v f' i' j' = A f' i' j' := if_neg (fun q => h q.1)
theorem up_at {A : AS} {f : Nat} {i j v i' j' : Int} : up A f i j v f i' j' = if i' = i ∧ j' = j then v else A f i' j' := by simp [up]
theorem up_s {A : AS} {f : Nat} {i j v : Int} : up A f i j v f i j = v := by simp [up]
theorem upr_f {A : AS} {f f' : Nat} {i i' j' : Int} {g : Int → Int} (h : f' ≠ f) : upr A f i g f' i' j' = A f' i' j' := if_neg (fun q => h q.1)
theorem upr_at {A : AS} {f : Nat} {i i' j' : Int} {g : Int → Int} : upr A f i g f i' j' = if i' = i then g j' else A f i' j' := by simp [upr]
theorem upf_f {A : AS} {f f' : Nat} {i' j' : Int} {g : Int → Int → Int} (h : f' ≠ f) : upf A f g f' i' j' = A f' i' j' := if_neg h
theorem upf_at {A : AS} {f : Nat} {i' j' : Int} {g : Int → Int → Int} : upf A f g f i' j' = g i' j' := if_pos rfl
def pw (f : Nat) : Int := match f with
  | 2 => 1
  | 3 => 1
  | 4 => 1
  | 5 => 24
  | 6 => 1
  | 7 => 3
  | 8 => 1
  | 9 => 1
  | 10 => 1
  | 13 => 1
  | 15 => 1
  | 17 => 1
  | 18 => 16
  | 20 => 1
  | 21 => 1
  | 22 => 4
  | 23 => 1
  | 27 => 1
  | 28 => 1
  | 29 => 1
  | 30 => 1
  | 31 => 1
  | 32 => 1
  | 33 => 1
  | 34 => 22
  | 37 => 1
  | 38 => 1
  | 39 => 1
  | 40 => 1
  | 41 => 1
  | 44 => 1
  | 48 => 1
  | 49 => 1
  | 50 => 1
  | 52 => 1
  | 53 => 16
  | _ => 0
def scf (f : Nat) : Bool := match f with
  | 1 => true
  | 11 => true
  | 12 => true
  | 14 => true
  | 16 => true
  | 35 => true
  | 36 => true
  | 42 => true
  | 45 => true
  | 46 => true
  | 47 => true
  | 51 => true
  | 54 => true
  | 57 => true
  | 58 => true
  | _ => false
def RMs (A : AS) (h : Mh) : Prop := ∀ f : Nat, scf f = true → Mi h 3 (f : Int) = A f 0 0
def RMp (A : AS) (h : Mh) : Prop := ∀ f : Nat, 0 < pw f → ∀ i j : Int, 0 ≤ i → 0 ≤ j → j < pw f → pw f * i + j < mSz f → Mi h (1000 + f) (pw f * i + j) = A f i j
def RMq (A : AS) (h : Mh) : Prop := ∀ k : Int, 0 ≤ k → k < A 42 0 0 → Mi h 1043 k = A 43 k 0
/-- the keys of a shot, in some order -/
def RMk (A : AS) (h : Mh) : Prop := ∀ s : Int, 0 ≤ s → s < 5 →
  (∀ k, 20 * s ≤ k → k < 20 * s + A 23 s 0 → 0 ≤ Mi h 1024 k ∧ Mi h 1024 k < 16 ∧ 16 * s ≤ Mi h 1025 k ∧ Mi h 1025 k < 16 * s + 16 ∧ A 24 (Mi h 1025 k) (Mi h 1024 k) = 1 ∧ A 25 (Mi h 1025 k) (Mi h 1024 k) = Mi h 1026 k) ∧
  (∀ f l, 16 * s ≤ f → f < 16 * s + 16 → 0 ≤ l → l < 16 → A 24 f l ≠ 0 → ∃ k, 20 * s ≤ k ∧ k < 20 * s + A 23 s 0 ∧ Mi h 1025 k = f ∧ Mi h 1024 k = l) ∧
  (∀ k k', 20 * s ≤ k → k < k' → k' < 20 * s + A 23 s 0 → ¬ (Mi h 1025 k = Mi h 1025 k' ∧ Mi h 1024 k = Mi h 1024 k'))
def RMt (A : AS) (h : Mh) : Prop := ∀ f : Int, 0 ≤ f → f < 80 → (Mi h 1019 f = 1 ∧ ∃ p, 0 ≤ p ∧ p < A 17 (f / 16) 0 ∧ A 18 (f / 16) p = f) ∨ (Mi h 1019 f = 0 ∧ ∀ p, 0 ≤ p → p < A 17 (f / 16) 0 → A 18 (f / 16) p ≠ f)
def RMc (A : AS) (h : Mh) : Prop := 0 ≤ Mi h 3 55 ∧ Mi h 3 55 < 60 ∧ ∀ k t : Int, 0 ≤ k → k < A 54 0 0 → 0 ≤ t → t < 6 → Mi h 1056 (6 * ((Mi h 3 55 + k) % 60) + t) = A 56 k t
def RM (A : AS) (h : Mh) : Prop := Mwf h ∧ RMs A h ∧ RMp A h ∧ RMq A h ∧ RMk A h ∧ RMt A h ∧ RMc A h
/-- what a call of the model leaves as it was -/
def Sm (h h' : Mh) : Prop := Kd h' = Kd h ∧ Ln h' = Ln h ∧ Mr h' = Mr h ∧ ∀ n, n ≠ 3 → (n < 1000 ∨ 1066 ≤ n) → Mi h' n = Mi h n
theorem Sm.rfl' {h : Mh} : Sm h h := ⟨rfl, rfl, rfl, fun _ _ _ => rfl⟩
theorem Sm.trans {h h1 h2 : Mh} (a : Sm h h1) (b : Sm h1 h2) : Sm h h2 := ⟨b.1.trans a.1, b.2.1.trans a.2.1, b.2.2.1.trans a.2.2.1, fun n q r => (b.2.2.2 n q r).trans (a.2.2.2 n q r)⟩
theorem Sm.set {h h' : Mh} (a : Sm h h') {n : Nat} {k v : Int} (hn : n = 3 ∨ (1000 ≤ n ∧ n < 1066)) : Sm h (setI h' n k v) := ⟨a.1, a.2.1, a.2.2.1, fun m q r => by
  rw [← a.2.2.2 m q r]
  funext k'
  rw [Mi_setI, if_neg (fun z => by omega)]⟩
theorem Sm.wf {h h' : Mh} (a : Sm h h') (W : Mwf h) : Mwf h' := by
  obtain ⟨e1, e2, e3, -⟩ := a
  unfold Mwf
  rw [e1, e2, e3]
  exact W
theorem rs_1 {A : AS} {h : Mh} (R : RM A h) : Mi h 3 1 = A 1 0 0 := R.2.1 1 rfl
theorem rs_11 {A : AS} {h : Mh} (R : RM A h) : Mi h 3 11 = A 11 0 0 := R.2.1 11 rfl
theorem rs_12 {A : AS} {h : Mh} (R : RM A h) : Mi h 3 12 = A 12 0 0 := R.2.1 12 rfl
theorem rs_14 {A : AS} {h : Mh} (R : RM A h) : Mi h 3 14 = A 14 0 0 := R.2.1 14 rfl
theorem rs_16 {A : AS} {h : Mh} (R : RM A h) : Mi h 3 16 = A 16 0 0 := R.2.1 16 rfl
theorem rs_35 {A : AS} {h : Mh} (R : RM A h) : Mi h 3 35 = A 35 0 0 := R.2.1 35 rfl
theorem rs_36 {A : AS} {h : Mh} (R : RM A h) : Mi h 3 36 = A 36 0 0 := R.2.1 36 rfl
theorem rs_42 {A : AS} {h : Mh} (R : RM A h) : Mi h 3 42 = A 42 0 0 := R.2.1 42 rfl
theorem rs_45 {A : AS} {h : Mh} (R : RM A h) : Mi h 3 45 = A 45 0 0 := R.2.1 45 rfl
theorem rs_46 {A : AS} {h : Mh} (R : RM A h) : Mi h 3 46 = A 46 0 0 := R.2.1 46 rfl
theorem rs_47 {A : AS} {h : Mh} (R : RM A h) : Mi h 3 47 = A 47 0 0 := R.2.1 47 rfl
theorem rs_51 {A : AS} {h : Mh} (R : RM A h) : Mi h 3 51 = A 51 0 0 := R.2.1 51 rfl
theorem rs_54 {A : AS} {h : Mh} (R : RM A h) : Mi h 3 54 = A 54 0 0 := R.2.1 54 rfl
theorem rs_57 {A : AS} {h : Mh} (R : RM A h) : Mi h 3 57 = A 57 0 0 := R.2.1 57 rfl
theorem rs_58 {A : AS} {h : Mh} (R : RM A h) : Mi h 3 58 = A 58 0 0 := R.2.1 58 rfl
theorem rp_2 {A : AS} {h : Mh} (R : RM A h) {i : Int} (h0 : 0 ≤ i) (h1 : i < 10) : Mi h 1002 i = A 2 i 0 := by
  have := R.2.2.1 2 (by decide) i 0 h0 (by decide) (by decide) (by show 1 * i + 0 < (10 : Int); omega)
  rwa [show pw 2 * i + 0 = i from by show 1 * i + 0 = i; omega] at this
theorem rp_3 {A : AS} {h : Mh} (R : RM A h) {i : Int} (h0 : 0 ≤ i) (h1 : i < 60) : Mi h 1003 i = A 3 i 0 := by
  have := R.2.2.1 3 (by decide) i 0 h0 (by decide) (by decide) (by show 1 * i + 0 < (60 : Int); omega)
  rwa [show pw 3 * i + 0 = i from by show 1 * i + 0 = i; omega] at this
theorem rp_4 {A : AS} {h : Mh} (R : RM A h) {i : Int} (h0 : 0 ≤ i) (h1 : i < 60) : Mi h 1004 i = A 4 i 0 := by
  have := R.2.2.1 4 (by decide) i 0 h0 (by decide) (by decide) (by show 1 * i + 0 < (60 : Int); omega)
  rwa [show pw 4 * i + 0 = i from by show 1 * i + 0 = i; omega] at this
theorem rp_5 {A : AS} {h : Mh} (R : RM A h) {i j : Int} (h0 : 0 ≤ i) (h2 : 0 ≤ j) (h3 : j < 24) (h1 : 24 * i + j < 1440) : Mi h 1005 (24 * i + j) = A 5 i j := R.2.2.1 5 (by decide) i j h0 h2 h3 h1
theorem rp_6 {A : AS} {h : Mh} (R : RM A h) {i : Int} (h0 : 0 ≤ i) (h1 : i < 60) : Mi h 1006 i = A 6 i 0 := by
  have := R.2.2.1 6 (by decide) i 0 h0 (by decide) (by decide) (by show 1 * i + 0 < (60 : Int); omega)
  rwa [show pw 6 * i + 0 = i from by show 1 * i + 0 = i; omega] at this
theorem rp_7 {A : AS} {h : Mh} (R : RM A h) {i j : Int} (h0 : 0 ≤ i) (h2 : 0 ≤ j) (h3 : j < 3) (h1 : 3 * i + j < 180) : Mi h 1007 (3 * i + j) = A 7 i j := R.2.2.1 7 (by decide) i j h0 h2 h3 h1
theorem rp_8 {A : AS} {h : Mh} (R : RM A h) {i : Int} (h0 : 0 ≤ i) (h1 : i < 60) : Mi h 1008 i = A 8 i 0 := by
  have := R.2.2.1 8 (by decide) i 0 h0 (by decide) (by decide) (by show 1 * i + 0 < (60 : Int); omega)
  rwa [show pw 8 * i + 0 = i from by show 1 * i + 0 = i; omega] at this
theorem rp_9 {A : AS} {h : Mh} (R : RM A h) {i : Int} (h0 : 0 ≤ i) (h1 : i < 60) : Mi h 1009 i = A 9 i 0 := by
  have := R.2.2.1 9 (by decide) i 0 h0 (by decide) (by decide) (by show 1 * i + 0 < (60 : Int); omega)
  rwa [show pw 9 * i + 0 = i from by show 1 * i + 0 = i; omega] at this
theorem rp_10 {A : AS} {h : Mh} (R : RM A h) {i : Int} (h0 : 0 ≤ i) (h1 : i < 60) : Mi h 1010 i = A 10 i 0 := by
  have := R.2.2.1 10 (by decide) i 0 h0 (by decide) (by decide) (by show 1 * i + 0 < (60 : Int); omega)
  rwa [show pw 10 * i + 0 = i from by show 1 * i + 0 = i; omega] at this
theorem rp_13 {A : AS} {h : Mh} (R : RM A h) {i : Int} (h0 : 0 ≤ i) (h1 : i < 24) : Mi h 1013 i = A 13 i 0 := by
  have := R.2.2.1 13 (by decide) i 0 h0 (by decide) (by decide) (by show 1 * i + 0 < (24 : Int); omega)
  rwa [show pw 13 * i + 0 = i from by show 1 * i + 0 = i; omega] at this
theorem rp_15 {A : AS} {h : Mh} (R : RM A h) {i : Int} (h0 : 0 ≤ i) (h1 : i < 3) : Mi h 1015 i = A 15 i 0 := by
  have := R.2.2.1 15 (by decide) i 0 h0 (by decide) (by decide) (by show 1 * i + 0 < (3 : Int); omega)
  rwa [show pw 15 * i + 0 = i from by show 1 * i + 0 = i; omega] at this
theorem rp_17 {A : AS} {h : Mh} (R : RM A h) {i : Int} (h0 : 0 ≤ i) (h1 : i < 5) : Mi h 1017 i = A 17 i 0 := by
  have := R.2.2.1 17 (by decide) i 0 h0 (by decide) (by decide) (by show 1 * i + 0 < (5 : Int); omega)
  rwa [show pw 17 * i + 0 = i from by show 1 * i + 0 = i; omega] at this
theorem rp_18 {A : AS} {h : Mh} (R : RM A h) {i j : Int} (h0 : 0 ≤ i) (h2 : 0 ≤ j) (h3 : j < 16) (h1 : 16 * i + j < 80) : Mi h 1018 (16 * i + j) = A 18 i j := R.2.2.1 18 (by decide) i j h0 h2 h3 h1
theorem rp_20 {A : AS} {h : Mh} (R : RM A h) {i : Int} (h0 : 0 ≤ i) (h1 : i < 5) : Mi h 1020 i = A 20 i 0 := by
  have := R.2.2.1 20 (by decide) i 0 h0 (by decide) (by decide) (by show 1 * i + 0 < (5 : Int); omega)
  rwa [show pw 20 * i + 0 = i from by show 1 * i + 0 = i; omega] at this
theorem rp_21 {A : AS} {h : Mh} (R : RM A h) {i : Int} (h0 : 0 ≤ i) (h1 : i < 80) : Mi h 1021 i = A 21 i 0 := by
  have := R.2.2.1 21 (by decide) i 0 h0 (by decide) (by decide) (by show 1 * i + 0 < (80 : Int); omega)
  rwa [show pw 21 * i + 0 = i from by show 1 * i + 0 = i; omega] at this
theorem rp_22 {A : AS} {h : Mh} (R : RM A h) {i j : Int} (h0 : 0 ≤ i) (h2 : 0 ≤ j) (h3 : j < 4) (h1 : 4 * i + j < 20) : Mi h 1022 (4 * i + j) = A 22 i j := R.2.2.1 22 (by decide) i j h0 h2 h3 h1
theorem rp_23 {A : AS} {h : Mh} (R : RM A h) {i : Int} (h0 : 0 ≤ i) (h1 : i < 5) : Mi h 1023 i = A 23 i 0 := by
  have := R.2.2.1 23 (by decide) i 0 h0 (by decide) (by decide) (by show 1 * i + 0 < (5 : Int); omega)
  rwa [show pw 23 * i + 0 = i from by show 1 * i + 0 = i; omega] at this
theorem rp_27 {A : AS} {h : Mh} (R : RM A h) {i : Int} (h0 : 0 ≤ i) (h1 : i < 5) : Mi h 1027 i = A 27 i 0 := by
  have := R.2.2.1 27 (by decide) i 0 h0 (by decide) (by decide) (by show 1 * i + 0 < (5 : Int); omega)
  rwa [show pw 27 * i + 0 = i from by show 1 * i + 0 = i; omega] at this
theorem rp_28 {A : AS} {h : Mh} (R : RM A h) {i : Int} (h0 : 0 ≤ i) (h1 : i < 5) : Mi h 1028 i = A 28 i 0 := by
  have := R.2.2.1 28 (by decide) i 0 h0 (by decide) (by decide) (by show 1 * i + 0 < (5 : Int); omega)
  rwa [show pw 28 * i + 0 = i from by show 1 * i + 0 = i; omega] at this
theorem rp_29 {A : AS} {h : Mh} (R : RM A h) {i : Int} (h0 : 0 ≤ i) (h1 : i < 5) : Mi h 1029 i = A 29 i 0 := by
  have := R.2.2.1 29 (by decide) i 0 h0 (by decide) (by decide) (by show 1 * i + 0 < (5 : Int); omega)
  rwa [show pw 29 * i + 0 = i from by show 1 * i + 0 = i; omega] at this
theorem rp_30 {A : AS} {h : Mh} (R : RM A h) {i : Int} (h0 : 0 ≤ i) (h1 : i < 5) : Mi h 1030 i = A 30 i 0 := by
  have := R.2.2.1 30 (by decide) i 0 h0 (by decide) (by decide) (by show 1 * i + 0 < (5 : Int); omega)
  rwa [show pw 30 * i + 0 = i from by show 1 * i + 0 = i; omega] at this
theorem rp_31 {A : AS} {h : Mh} (R : RM A h) {i : Int} (h0 : 0 ≤ i) (h1 : i < 5) : Mi h 1031 i = A 31 i 0 := by
  have := R.2.2.1 31 (by decide) i 0 h0 (by decide) (by decide) (by show 1 * i + 0 < (5 : Int); omega)
  rwa [show pw 31 * i + 0 = i from by show 1 * i + 0 = i; omega] at this
theorem rp_32 {A : AS} {h : Mh} (R : RM A h) {i : Int} (h0 : 0 ≤ i) (h1 : i < 80) : Mi h 1032 i = A 32 i 0 := by
  have := R.2.2.1 32 (by decide) i 0 h0 (by decide) (by decide) (by show 1 * i + 0 < (80 : Int); omega)
  rwa [show pw 32 * i + 0 = i from by show 1 * i + 0 = i; omega] at this
theorem rp_33 {A : AS} {h : Mh} (R : RM A h) {i : Int} (h0 : 0 ≤ i) (h1 : i < 80) : Mi h 1033 i = A 33 i 0 := by
  have := R.2.2.1 33 (by decide) i 0 h0 (by decide) (by decide) (by show 1 * i + 0 < (80 : Int); omega)
  rwa [show pw 33 * i + 0 = i from by show 1 * i + 0 = i; omega] at this
theorem rp_34 {A : AS} {h : Mh} (R : RM A h) {i j : Int} (h0 : 0 ≤ i) (h2 : 0 ≤ j) (h3 : j < 22) (h1 : 22 * i + j < 1760) : Mi h 1034 (22 * i + j) = A 34 i j := R.2.2.1 34 (by decide) i j h0 h2 h3 h1
theorem rp_37 {A : AS} {h : Mh} (R : RM A h) {i : Int} (h0 : 0 ≤ i) (h1 : i < 4) : Mi h 1037 i = A 37 i 0 := by
  have := R.2.2.1 37 (by decide) i 0 h0 (by decide) (by decide) (by show 1 * i + 0 < (4 : Int); omega)
  rwa [show pw 37 * i + 0 = i from by show 1 * i + 0 = i; omega] at this
theorem rp_38 {A : AS} {h : Mh} (R : RM A h) {i : Int} (h0 : 0 ≤ i) (h1 : i < 4) : Mi h 1038 i = A 38 i 0 := by
  have := R.2.2.1 38 (by decide) i 0 h0 (by decide) (by decide) (by show 1 * i + 0 < (4 : Int); omega)
  rwa [show pw 38 * i + 0 = i from by show 1 * i + 0 = i; omega] at this
theorem rp_39 {A : AS} {h : Mh} (R : RM A h) {i : Int} (h0 : 0 ≤ i) (h1 : i < 4) : Mi h 1039 i = A 39 i 0 := by
  have := R.2.2.1 39 (by decide) i 0 h0 (by decide) (by decide) (by show 1 * i + 0 < (4 : Int); omega)
  rwa [show pw 39 * i + 0 = i from by show 1 * i + 0 = i; omega] at this
theorem rp_40 {A : AS} {h : Mh} (R : RM A h) {i : Int} (h0 : 0 ≤ i) (h1 : i < 4) : Mi h 1040 i = A 40 i 0 := by
  have := R.2.2.1 40 (by decide) i 0 h0 (by decide) (by decide) (by show 1 * i + 0 < (4 : Int); omega)
  rwa [show pw 40 * i + 0 = i from by show 1 * i + 0 = i; omega] at this
theorem rp_41 {A : AS} {h : Mh} (R : RM A h) {i : Int} (h0 : 0 ≤ i) (h1 : i < 4) : Mi h 1041 i = A 41 i 0 := by
  have := R.2.2.1 41 (by decide) i 0 h0 (by decide) (by decide) (by show 1 * i + 0 < (4 : Int); omega)
  rwa [show pw 41 * i + 0 = i from by show 1 * i + 0 = i; omega] at this
theorem rp_44 {A : AS} {h : Mh} (R : RM A h) {i : Int} (h0 : 0 ≤ i) (h1 : i < 80) : Mi h 1044 i = A 44 i 0 := by
  have := R.2.2.1 44 (by decide) i 0 h0 (by decide) (by decide) (by show 1 * i + 0 < (80 : Int); omega)
  rwa [show pw 44 * i + 0 = i from by show 1 * i + 0 = i; omega] at this
theorem rp_48 {A : AS} {h : Mh} (R : RM A h) {i : Int} (h0 : 0 ≤ i) (h1 : i < 30) : Mi h 1048 i = A 48 i 0 := by
  have := R.2.2.1 48 (by decide) i 0 h0 (by decide) (by decide) (by show 1 * i + 0 < (30 : Int); omega)
  rwa [show pw 48 * i + 0 = i from by show 1 * i + 0 = i; omega] at this
theorem rp_49 {A : AS} {h : Mh} (R : RM A h) {i : Int} (h0 : 0 ≤ i) (h1 : i < 30) : Mi h 1049 i = A 49 i 0 := by
  have := R.2.2.1 49 (by decide) i 0 h0 (by decide) (by decide) (by show 1 * i + 0 < (30 : Int); omega)
  rwa [show pw 49 * i + 0 = i from by show 1 * i + 0 = i; omega] at this
theorem rp_50 {A : AS} {h : Mh} (R : RM A h) {i : Int} (h0 : 0 ≤ i) (h1 : i < 30) : Mi h 1050 i = A 50 i 0 := by
  have := R.2.2.1 50 (by decide) i 0 h0 (by decide) (by decide) (by show 1 * i + 0 < (30 : Int); omega)
  rwa [show pw 50 * i + 0 = i from by show 1 * i + 0 = i; omega] at this
theorem rp_52 {A : AS} {h : Mh} (R : RM A h) {i : Int} (h0 : 0 ≤ i) (h1 : i < 20) : Mi h 1052 i = A 52 i 0 := by
  have := R.2.2.1 52 (by decide) i 0 h0 (by decide) (by decide) (by show 1 * i + 0 < (20 : Int); omega)
  rwa [show pw 52 * i + 0 = i from by show 1 * i + 0 = i; omega] at this
theorem rp_53 {A : AS} {h : Mh} (R : RM A h) {i j : Int} (h0 : 0 ≤ i) (h2 : 0 ≤ j) (h3 : j < 16) (h1 : 16 * i + j < 320) : Mi h 1053 (16 * i + j) = A 53 i j := R.2.2.1 53 (by decide) i j h0 h2 h3 h1
/-- the cells that RM doesn't speak of -/
def offM (n : Nat) (k : Int) : Prop := (n = 3 ∧ ¬ ∃ f : Nat, (scf f = true ∨ f = 55) ∧ k = f) ∨ (1059 ≤ n ∧ n < 1066)
theorem RM.off {A : AS} {h : Mh} (R : RM A h) {n : Nat} {k v : Int} (hn : offM n k) : RM A (setI h n k v) := by
  obtain ⟨W, r1, r2, r3, r4, r5, r6⟩ := R
  have e3 : ∀ f : Nat, (scf f = true ∨ f = 55) → Mi (setI h n k v) 3 (f : Int) = Mi h 3 (f : Int) := by
    intro f hf
    rw [Mi_setI, if_neg]
    rintro ⟨q1, q2⟩
    rcases hn with ⟨a1, a2⟩ | a1
    · exact a2 ⟨f, hf, q2.symm⟩
    · omega
  have ea : ∀ m : Nat, 1000 ≤ m → m < 1059 → ∀ i, Mi (setI h n k v) m i = Mi h m i := by
    intro m h1 h2 i
    rw [Mi_setI, if_neg]
    rintro ⟨q1, q2⟩
    rcases hn with ⟨a1, a2⟩ | a1 <;> omega
  refine ⟨W, fun f hf => (e3 f (Or.inl hf)).trans (r1 f hf), fun f hf i j h0 h2 h3 h4 => ?_, fun k h0 h1 => (ea 1043 (by decide) (by decide) k).trans (r3 k h0 h1), ?_, ?_, ?_⟩
  · have hf9 : f < 54 := by
      rcases Nat.lt_or_ge f 54 with z | z
      · exact z
      · exfalso
        have : pw f = 0 := by
          unfold pw
          split <;> first | omega | rfl
        omega
    rw [ea (1000 + f) (by omega) (by omega)]
    exact r2 f hf i j h0 h2 h3 h4
  · unfold RMk
    simp only [ea 1024 (by decide) (by decide), ea 1025 (by decide) (by decide), ea 1026 (by decide) (by decide)]
    exact r4
  · unfold RMt
    simp only [ea 1019 (by decide) (by decide)]
    exact r5
  · unfold RMc
    have := e3 55 (Or.inr rfl)
    simp only [ea 1056 (by decide) (by decide), show Mi (setI h n k v) 3 55 = Mi h 3 55 from this]
    exact r6
/-- a plain number is set (not a count of the queue or the cache) -/
theorem RM.setS {A : AS} {h : Mh} (R : RM A h) (f : Nat) {v : Int} (hf : scf f = true) (h42 : f ≠ 42) (h54 : f ≠ 54) : RM (up A f 0 0 v) (setI h 3 f v) := by
  obtain ⟨W, r1, r2, r3, r4, r5, r6⟩ := R
  have ea : ∀ m : Nat, 1000 ≤ m → ∀ i, Mi (setI h 3 f v) m i = Mi h m i := by
    intro m h1 i
    rw [Mi_setI, if_neg (fun q => by omega)]
  have fA : ∀ g : Nat, (pw g ≠ 0 ∨ g = 42 ∨ g = 43 ∨ g = 54 ∨ g = 56 ∨ g = 24 ∨ g = 25) → ∀ i j, up A f 0 0 v g i j = A g i j := by
    intro g hg i j
    refine up_f (fun q => ?_)
    subst q
    rcases hg with z | z | z | z | z | z | z
    · have : scf g = false := by
        unfold pw at z
        split at z <;> first | rfl | exact absurd rfl z
      rw [this] at hf; cases hf
    · exact h42 z
    · rw [z] at hf; cases hf
    · exact h54 z
    · rw [z] at hf; cases hf
    · rw [z] at hf; cases hf
    · rw [z] at hf; cases hf
  refine ⟨W, fun g hg => ?_, fun g hg i j h0 h2 h3 h4 => ?_, fun k h0 h1 => ?_, ?_, ?_, ?_⟩
  · rw [Mi_setI]
    by_cases e : g = f
    · subst e
      rw [if_pos ⟨rfl, rfl⟩, up_s]
    · rw [if_neg (fun q => e (by omega)), up_f e]
      exact r1 g hg
  · rw [ea _ (by omega), fA g (Or.inl (by omega))]
    exact r2 g hg i j h0 h2 h3 h4
  · rw [ea _ (by decide), fA 43 (by simp)]
    rw [fA 42 (by simp)] at h1
    exact r3 k h0 h1
  · unfold RMk
    simp only [ea 1024 (by decide), ea 1025 (by decide), ea 1026 (by decide), fA 23 (Or.inl (by decide)), fA 24 (by simp), fA 25 (by simp)]
    exact r4
  · unfold RMt
    simp only [ea 1019 (by decide), fA 17 (Or.inl (by decide)), fA 18 (Or.inl (by decide))]
    exact r5
  · unfold RMc
    have e5 : Mi (setI h 3 f v) 3 55 = Mi h 3 55 := by
      rw [Mi_setI, if_neg]
      rintro ⟨-, q⟩
      have : f = 55 := by omega
      rw [this] at hf; cases hf
    simp only [ea 1056 (by decide), e5, fA 54 (by simp), fA 56 (by simp)]
    exact r6
theorem pw_lt {f : Nat} (h : pw f ≠ 0) : f < 54 := by
  rcases Nat.lt_or_ge f 54 with z | z
  · exact z
  · exfalso
    have : pw f = 0 := by
      unfold pw
      split <;> first | omega | rfl
    omega
theorem pw_pos {f : Nat} (h : pw f ≠ 0) : 0 < pw f := by
  unfold pw at h ⊢
  split <;> first | omega | (simp_all)
theorem lay_inj {w i j i' j' : Int} (h : w * i + j = w * i' + j') (h0 : 0 ≤ j) (h1 : j < w) (h2 : 0 ≤ j') (h3 : j' < w) : i = i' ∧ j = j' := by
  have e : i = i' := by
    have a1 : (w * i + j) / w = i := by rw [Int.add_comm, Int.add_mul_ediv_left _ _ (by omega)]; rw [Int.ediv_eq_zero_of_lt h0 h1]; omega
    have a2 : (w * i' + j') / w = i' := by rw [Int.add_comm, Int.add_mul_ediv_left _ _ (by omega)]; rw [Int.ediv_eq_zero_of_lt h2 h3]; omega
    rw [← a1, h, a2]
  subst e
  exact ⟨rfl, by omega⟩
/-- a plain cell is set (not of a row, its length, or a count of keys) -/
theorem RM.setP {A : AS} {h : Mh} (R : RM A h) (f : Nat) {i j v : Int} (hf : pw f ≠ 0) (h17 : f ≠ 17) (h18 : f ≠ 18) (h23 : f ≠ 23) (i0 : 0 ≤ i) (j0 : 0 ≤ j) (j1 : j < pw f) : RM (up A f i j v) (setI h (1000 + f) (pw f * i + j) v) := by
  obtain ⟨W, r1, r2, r3, r4, r5, r6⟩ := R
  have hlt := pw_lt hf
  have ea : ∀ m : Nat, m ≠ 1000 + f → ∀ i', Mi (setI h (1000 + f) (pw f * i + j) v) m i' = Mi h m i' := by
    intro m h1 i'
    rw [Mi_setI, if_neg (fun q => h1 q.1)]
  have fA : ∀ g : Nat, g ≠ f → ∀ i' j', up A f i j v g i' j' = A g i' j' := fun g hg i' j' => up_f hg
  have n0 : ∀ g : Nat, pw g = 0 → g ≠ f := fun g hg q => hf (by rw [← q]; exact hg)
  refine ⟨W, fun g hg => ?_, fun g hg i' j' h0 h2 h3 h4 => ?_, fun k h0 h1 => ?_, ?_, ?_, ?_⟩
  · have hg9 : pw g = 0 := by
      unfold scf at hg
      split at hg <;> first | rfl | cases hg
    rw [ea 3 (by omega), fA g (n0 g hg9)]
    exact r1 g hg
  · by_cases e : g = f
    · subst e
      rw [Mi_setI, up_at]
      by_cases e2 : i' = i ∧ j' = j
      · rw [if_pos e2, if_pos ⟨rfl, by rw [e2.1, e2.2]⟩]
      · rw [if_neg e2, if_neg (fun q => e2 (lay_inj q.2 h2 h3 j0 j1))]
        exact r2 g hg i' j' h0 h2 h3 h4
    · rw [ea _ (by omega), fA g e]
      exact r2 g hg i' j' h0 h2 h3 h4
  · rw [ea _ (fun q => n0 43 rfl (by omega)), fA 43 (n0 43 rfl)]
    rw [fA 42 (n0 42 rfl)] at h1
    exact r3 k h0 h1
  · unfold RMk
    simp only [ea 1024 (fun q => n0 24 rfl (by omega)), ea 1025 (fun q => n0 25 rfl (by omega)), ea 1026 (fun q => n0 26 rfl (by omega)), fA 23 (fun q => h23 q.symm), fA 24 (n0 24 rfl), fA 25 (n0 25 rfl)]
    exact r4
  · unfold RMt
    simp only [ea 1019 (fun q => n0 19 rfl (by omega)), fA 17 (fun q => h17 q.symm), fA 18 (fun q => h18 q.symm)]
    exact r5
  · unfold RMc
    simp only [ea 1056 (fun q => n0 56 rfl (by omega)), ea 3 (by omega), fA 54 (n0 54 rfl), fA 56 (n0 56 rfl)]
    exact r6
/-- one of width 1 -/
theorem RM.set1 {A : AS} {h : Mh} (R : RM A h) (f : Nat) {i v : Int} (hf : pw f = 1) (h17 : f ≠ 17) (h23 : f ≠ 23) (i0 : 0 ≤ i) : RM (up A f i 0 v) (setI h (1000 + f) i v) := by
  have := R.setP f (i := i) (j := 0) (v := v) (by omega) h17 (fun q => by rw [q] at hf; exact absurd hf (by decide)) h23 i0 (by omega) (by omega)
  rwa [hf, show 1 * i + 0 = i by omega] at this
theorem RM.thrown {A : AS} {h : Mh} (R : RM A h) {v : Int} : RM A (setI h 3 0 v) := R.off (Or.inl ⟨rfl, fun ⟨f, hf, e⟩ => by
  have : f = 0 := by omega
  subst this
  rcases hf with z | z <;> cases z⟩)
