-- INVARIANTS of the abstract state
abbrev exv (A : AS) (v : Int) : Prop := 0 ≤ v ∧ v / 6 < A 1 0 0 ∧ v % 6 < A 2 (v / 6) 0
def conOk (kd tg so nu : Int) : Prop := 0 ≤ kd ∧ kd ≤ 3 ∧ 0 ≤ tg ∧ tg ≤ 3 ∧ 0 ≤ so ∧ so ≤ 3 ∧ (kd < 2 → nu = 0) ∧ (kd = 2 → -8 ≤ nu ∧ nu ≤ 8) ∧ (kd = 3 → 0 ≤ nu ∧ nu ≤ 999)
def IvV (A : AS) : Prop := 0 ≤ A 1 0 0 ∧ A 1 0 0 ≤ 10 ∧ (∀ a, 0 ≤ a → a < 10 → 0 ≤ A 2 a 0 ∧ A 2 a 0 ≤ 6) ∧ (∀ a, A 1 0 0 ≤ a → a < 10 → A 2 a 0 = 0) ∧
  (∀ v, exv A v → 0 ≤ A 3 v 0 ∧ A 3 v 0 ≤ 999 ∧ 0 ≤ A 4 v 0 ∧ A 4 v 0 ≤ 6 ∧ 1 ≤ A 8 v 0 ∧ A 8 v 0 ≤ 4) ∧
  (∀ v i, exv A v → 0 ≤ i → i < A 4 v 0 → conOk (A 5 v (4 * i)) (A 5 v (4 * i + 1)) (A 5 v (4 * i + 2)) (A 5 v (4 * i + 3))) ∧
  (∀ v i, exv A v → 0 ≤ i → i < A 6 v 0 → exv A (A 7 v i) ∧ A 8 (A 7 v i) 0 < A 8 v 0) ∧
  (∀ v, 0 ≤ v → v < 60 → 0 ≤ A 6 v 0 ∧ A 6 v 0 ≤ 3 ∧ (A 9 v 0 = 0 ∨ A 9 v 0 = 1) ∧ (A 10 v 0 = 0 ∨ A 10 v 0 = 1)) ∧
  (∀ v, 0 ≤ v → v < 60 → ¬ exv A v → A 6 v 0 = 0 ∧ A 9 v 0 = 0 ∧ A 10 v 0 = 0) ∧
  (∀ v i, 0 ≤ v → v < 60 → 0 ≤ i → i < 3 → 0 ≤ A 7 v i ∧ A 7 v i < 60)
def IvD (A : AS) : Prop := 0 ≤ A 11 0 0 ∧ A 11 0 0 ≤ 999 ∧ 0 ≤ A 12 0 0 ∧ A 12 0 0 ≤ 6 ∧ 0 ≤ A 14 0 0 ∧ A 14 0 0 ≤ 3 ∧
  (∀ i, 0 ≤ i → i < A 12 0 0 → conOk (A 13 (4 * i) 0) (A 13 (4 * i + 1) 0) (A 13 (4 * i + 2) 0) (A 13 (4 * i + 3) 0)) ∧
  (∀ i, 0 ≤ i → i < A 14 0 0 → exv A (A 15 i 0) ∧ A 8 (A 15 i 0) 0 ≤ 3)
abbrev isA (A : AS) (a : Int) : Prop := 0 ≤ a ∧ a < A 1 0 0
abbrev isV (A : AS) (a v : Int) : Prop := 0 ≤ a ∧ a < A 1 0 0 ∧ 1 ≤ v ∧ v ≤ A 2 a 0
theorem exv_of {A : AS} {a v : Int} (I : IvV A) (h : isV A a v) : exv A (6 * a + v - 1) ∧ 0 ≤ 6 * a + v - 1 ∧ 6 * a + v - 1 < 60 := by
  obtain ⟨i1, i2, i3, -⟩ := I
  obtain ⟨h1, h2, h3, h4⟩ := h
  have h5 := i3 a h1 (by omega)
  have e1 : (6 * a + v - 1) / 6 = a := by omega
  have e2 : (6 * a + v - 1) % 6 = v - 1 := by omega
  exact ⟨⟨by omega, by rw [e1]; exact h2, by rw [e1, e2]; omega⟩, by omega, by omega⟩
-- SPECIFICATIONS: what is thrown (by its place in the throws clause), what is returned, what the state is behind it
def th_addAsset (A : AS) : Int := if A 1 0 0 = 10 then 1 else 0
def nx_addAsset (A : AS) : AS := if th_addAsset A = 0 then up A 1 0 0 (A 1 0 0 + 1) else A
def th_content (x : Int) : Int := if 0 ≤ x ∧ x ≤ 999 then 0 else 1
def nx_content (A : AS) (x : Int) : AS := if th_content x = 0 then up A 11 0 0 x else A
def th_constrain (A : AS) (k t s n : Int) : Int := if ¬ (0 ≤ t ∧ t ≤ 3 ∧ 0 ≤ s ∧ s ≤ 3) then 1 else if ¬ (0 ≤ k ∧ k ≤ 3 ∧ (k < 2 → n = 0) ∧ (k = 2 → -8 ≤ n ∧ n ≤ 8) ∧ (k = 3 → 0 ≤ n ∧ n ≤ 999)) then 2 else if A 12 0 0 = 6 then 3 else 0
def nx_constrain (A : AS) (k t s n : Int) : AS := if th_constrain A k t s n = 0 then up (up (up (up (up A 13 (4 * A 12 0 0) 0 k) 13 (4 * A 12 0 0 + 1) 0 t) 13 (4 * A 12 0 0 + 2) 0 s) 13 (4 * A 12 0 0 + 3) 0 n) 12 0 0 (A 12 0 0 + 1) else A
def th_parent (A : AS) (a v : Int) : Int := if ¬ isV A a v then 1 else if A 14 0 0 = 3 ∨ A 8 (6 * a + v - 1) 0 = 4 then 2 else 0
def nx_parent (A : AS) (a v : Int) : AS := if th_parent A a v = 0 then up (up A 15 (A 14 0 0) 0 (6 * a + v - 1)) 14 0 0 (A 14 0 0 + 1) else A
noncomputable def cif {α : Type} (p : Prop) (a b : α) : α := @ite α p (Classical.propDecidable p) a b
theorem cif_pos {α : Type} {p : Prop} {a b : α} (h : p) : cif p a b = a := by unfold cif; exact if_pos h
theorem cif_neg {α : Type} {p : Prop} {a b : α} (h : ¬ p) : cif p a b = b := by unfold cif; exact if_neg h
def canP (A : AS) (a : Int) : Prop := A 2 a 0 < 6 ∧ ∀ i, 0 ≤ i → i < A 14 0 0 → A 9 (A 15 i 0) 0 = 0
/-- the greatest height of the first n parents of the draft -/
def mxh (A : AS) : Nat → Int
  | 0 => 0
  | n + 1 => max (mxh A n) (A 8 (A 15 n 0) 0)
noncomputable def th_publish (A : AS) (a : Int) : Int := if ¬ isA A a then 1 else cif (canP A a) 0 2
def pb1 (A : AS) (a : Int) : AS := up (up A 3 (6 * a + A 2 a 0) 0 (A 11 0 0)) 4 (6 * a + A 2 a 0) 0 (A 12 0 0)
def pb2 (A : AS) (a k : Int) : AS := upr (pb1 A a) 5 (6 * a + A 2 a 0) (fun j => if 0 ≤ j ∧ j < k then A 13 j 0 else A 5 (6 * a + A 2 a 0) j)
def pb3 (A : AS) (a k : Int) : AS := upr (up (pb2 A a (4 * A 12 0 0)) 6 (6 * a + A 2 a 0) 0 (A 14 0 0)) 7 (6 * a + A 2 a 0) (fun j => if 0 ≤ j ∧ j < k then A 15 j 0 else A 7 (6 * a + A 2 a 0) j)
def pb4 (A : AS) (a : Int) : AS := up (up (up (up (up (pb3 A a (A 14 0 0)) 8 (6 * a + A 2 a 0) 0 (mxh A (A 14 0 0).toNat + 1)) 11 0 0 0) 12 0 0 0) 14 0 0 0) 2 a 0 (A 2 a 0 + 1)
/-- fields from 100 on are nobody's cells: 100 v = the place of the version v among the published, 101 j = its inverse, 102 = how many are published -/
def pb5 (A : AS) (a : Int) : AS := up (up (up (pb4 A a) 100 (6 * a + A 2 a 0) 0 (A 102 0 0)) 101 (A 102 0 0) 0 (6 * a + A 2 a 0)) 102 0 0 (A 102 0 0 + 1)
noncomputable def nx_publish (A : AS) (a : Int) : AS := cif (th_publish A a = 0) (pb5 A a) A
theorem RM.ghost {A : AS} {h : Mh} (R : RM A h) (f : Nat) {i j v : Int} (hf : 100 ≤ f) : RM (up A f i j v) h := by
  have e : ∀ g, g < 100 → ∀ i' j', up A f i j v g i' j' = A g i' j' := fun g hg i' j' => up_f (by omega)
  obtain ⟨W, r1, r2, r3, r4, r5, r6⟩ := R
  refine ⟨W, fun g hg => ?_, fun g hg => ?_, ?_, ?_, ?_, ?_⟩
  · have : g < 100 := by unfold scf at hg; split at hg <;> first | omega | cases hg
    rw [e g this]; exact r1 g hg
  · intro i' j' h0 h1 h2 h3
    have := pw_lt (f := g) (by omega)
    rw [e g (by omega)]; exact r2 g hg i' j' h0 h1 h2 h3
  · unfold RMq; simp only [e 42 (by decide), e 43 (by decide)]; exact r3
  · unfold RMk; simp only [e 23 (by decide), e 24 (by decide), e 25 (by decide)]; exact r4
  · unfold RMt; simp only [e 17 (by decide), e 18 (by decide)]; exact r5
  · unfold RMc; simp only [e 54 (by decide), e 56 (by decide)]; exact r6
