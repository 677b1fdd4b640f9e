theorem mo_key {d : Nat} (hd : 4 ≤ d) {c : Int} {A : AS} {h : Mh} {P : Out → Mh → Prop} {s sl ch p x : Int} (R : RM A h) (I : IvS c A) (H : ∀ h' r, Sm h h' → Mi h' 3 0 = th_key A s sl ch p x → (th_key A s sl ch p x = 0 → r = kyn A s sl ch p) → RM (nx_key A s sl ch p x) h' → P (.inl (some (pI r))) h') : Ct kM_key d [pR (some 3), pI s, pI sl, pI ch, pI p, pI x] h P := by
  have i2 := I.2.1
  have F : ∀ v9, v9 ≠ 0 → th_key A s sl ch p x = v9 → ∀ w, P (.inl (some (pI 0))) (setI (setI h 3 0 w) 3 0 v9) := by
    intro v9 hv e w
    refine H _ _ ((Sm.rfl'.set (Or.inl rfl)).set (Or.inl rfl)) (by simp [Mi_setI, e]) (fun z => by omega) ?_
    rw [nx_key, if_neg (by omega)]
    exact R.thrown.thrown
  have F1 : ∀ v9, v9 ≠ 0 → th_key A s sl ch p x = v9 → P (.inl (some (pI 0))) (setI h 3 0 v9) := by
    intro v9 hv e
    refine H _ _ (Sm.rfl'.set (Or.inl rfl)) (by simp [Mi_setI, e]) (fun z => by omega) ?_
    rw [nx_key, if_neg (by omega)]
    exact R.thrown
  refine eM_key ?_
  by_cases h1 : isP A s p ∧ 0 ≤ sl ∧ sl ≤ 3 ∧ 0 ≤ ch ∧ ch ≤ 3
  · obtain ⟨hP, a1, a2, a3, a4⟩ := h1
    have q1 := hP.1
    have q2 := hP.2.1
    have q3 := hP.2.2.1
    have q4 := hP.2.2.2
    have q5 := I.2.2.1 s q1 (by omega)
    have ef : 16 * s ≤ A 18 s p ∧ A 18 s p < 16 * s + 16 := by have := I.2.2.2.2.2.1 s p q1 (by omega) q3 q4; omega
    have e18 : Mi h 1018 (16 * s + p) = A 18 s p := rp_18 R q1 q3 (by omega) (by omega)
    have e23 : Mi h 1023 s = A 23 s 0 := rp_23 R q1 (by omega)
    have hb : ∀ s', 0 ≤ s' → s' < 5 → 0 ≤ A 23 s' 0 ∧ A 23 s' 0 ≤ 20 := fun s' z0 z1 => by have := I.2.2.1 s' z0 z1; omega
    have E1 : ¬ (-9999 ≤ x ∧ x ≤ 9999) → th_key A s sl ch p x = 2 := fun z => by unfold th_key; rw [if_neg (fun q => q ⟨hP, a1, a2, a3, a4⟩), if_pos z]
    have E3 : (-9999 ≤ x ∧ x ≤ 9999) → A 24 (A 18 s p) (4 * sl + ch) = 0 → A 23 s 0 = 20 → th_key A s sl ch p x = 3 := fun z y w => by unfold th_key; rw [if_neg (fun q => q ⟨hP, a1, a2, a3, a4⟩), if_neg (fun q => q z), if_pos ⟨y, w⟩]
    have E0 : (-9999 ≤ x ∧ x ≤ 9999) → ¬ (A 24 (A 18 s p) (4 * sl + ch) = 0 ∧ A 23 s 0 = 20) → th_key A s sl ch p x = 0 := fun z y => by unfold th_key; rw [if_neg (fun q => q ⟨hP, a1, a2, a3, a4⟩), if_neg (fun q => q z), if_neg y]
    -- a key that is there
    have G1 : ∀ k, 20 * s ≤ k → k < 20 * s + A 23 s 0 → Mi h 1024 k = 4 * sl + ch → Mi h 1025 k = A 18 s p → (-9999 ≤ x ∧ x ≤ 9999) → P (.inl (some (pI (A 23 s 0)))) (setI (setI (setI (setI (setI h 3 0 0) 1024 k (4 * sl + ch)) 1025 k (A 18 s p)) 1026 k x) 1031 s 0) := by
      intro k k0 k1 k2 k3 hx
      have e24 : A 24 (A 18 s p) (4 * sl + ch) = 1 := by
        have := ((R.2.2.2.2.1 s q1 (by omega)).1 k k0 k1).2.2.2.2.1
        rw [k2, k3] at this; exact this
      have e0 := E0 hx (by omega)
      have ek : kyn A s sl ch p = A 23 s 0 := by unfold kyn; rw [if_neg (by omega)]
      refine H _ _ (((((Sm.rfl'.set (Or.inl rfl)).set (by simp)).set (by simp)).set (by simp)).set (by simp)) (by simp [Mi_setI, e0]) (fun _ => ek.symm) ?_
      rw [nx_key, if_pos e0, ek]
      refine RM.set1 ?_ 31 rfl (by decide) (by decide) q1
      refine R.thrown.keyset (v := 0) (x := x) (k := k) q1 (by omega) q5.2.2.2.2.1 ef.1 ef.2 (by omega) (by omega) (Or.inl ⟨rfl, k0, k1, ?_, ?_⟩) hb rfl rfl rfl ?_ ?_ ?_ ?_ ?_ <;> sorry
    sorry
  · sorry
