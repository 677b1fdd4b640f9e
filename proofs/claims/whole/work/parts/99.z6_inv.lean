theorem comes_inv {c : Int} {A : AS} {s pl m : Int} {g : Int → Int} (Y : Cmy A) (s0 : 0 ≤ s) (s1 : s < 5) (nf : newF A s m g) (p0 : 0 ≤ pl) (p1 : pl ≤ A 17 s 0) (m0 : 1 ≤ m) (hm : A 17 s 0 + m ≤ 16) :
    (IvF A → IvF (nx_comes A s pl m g)) ∧ (IvM c A → IvM c (nx_comes A s pl m g)) ∧ (IvN A → IvN (nx_comes A s pl m g)) ∧ (IvG A → IvG (nx_comes A s pl m g)) ∧ (IvE A → IvE (nx_comes A s pl m g)) ∧
    (0 ≤ A 16 0 0 → A 16 0 0 ≤ 5 → s < A 16 0 0 → (∀ s, 0 ≤ s → s < 5 → 0 ≤ A 20 s 0 ∧ A 20 s 0 ≤ 16 * c ∧ 0 ≤ A 23 s 0 ∧ A 23 s 0 ≤ 20 ∧ 0 ≤ A 27 s 0 ∧ A 27 s 0 ≤ 2 ∧ 0 ≤ A 28 s 0 ∧ A 28 s 0 ≤ 4 ∧ 0 ≤ A 29 s 0 ∧ A 29 s 0 ≤ 999 ∧ 0 ≤ A 30 s 0 ∧ A 30 s 0 ≤ 99 * c ∧ (A 31 s 0 = 0 ∨ A 31 s 0 = 1)) →
      (∀ t, 0 ≤ t → t < A 16 0 0 → (t ≠ s → 1 ≤ A 17 t 0) ∧ 1 ≤ A 28 t 0) → (∀ s, A 16 0 0 ≤ s → s < 5 → A 17 s 0 = 0 ∧ A 20 s 0 = 0 ∧ A 23 s 0 = 0 ∧ A 27 s 0 = 0 ∧ A 29 s 0 = 0 ∧ A 30 s 0 = 0 ∧ A 31 s 0 = 0) →
      (∀ s p, 0 ≤ s → s < 5 → 0 ≤ p → p < A 17 s 0 → 0 ≤ A 21 (A 18 s p) 0 ∧ A 21 (A 18 s p) 0 < A 20 s 0) → (∀ s p p', 0 ≤ s → s < 5 → 0 ≤ p → p < p' → p' < A 17 s 0 → A 18 s p ≠ A 18 s p' ∧ A 21 (A 18 s p) 0 ≠ A 21 (A 18 s p') 0) →
      (∀ s k, 0 ≤ s → s < 5 → 0 ≤ k → k < 4 → A 22 s k = -1 ∨ exv A (A 22 s k)) → (∀ s k, A 16 0 0 ≤ s → s < 5 → 0 ≤ k → k < 4 → A 22 s k = -1) → (∀ f l, 0 ≤ f → f < 80 → 0 ≤ l → l < 16 → (A 24 f l = 0 ∨ (A 24 f l = 1 ∧ actv A f)) ∧ -9999 ≤ A 25 f l ∧ A 25 f l ≤ 9999) → IvS (c + 1) (nx_comes A s pl m g)) := by
  obtain ⟨Y1, Y2, Y3⟩ := Y
  obtain ⟨M, eM⟩ : ∃ M, M = A 17 s 0 := ⟨_, rfl⟩
  have hM := Y3 s s0 s1
  rw [← eM] at p1 hm hM
  obtain ⟨B, hB⟩ : ∃ B, B = nx_comes A s pl m g := ⟨_, rfl⟩
  have e : ∀ k, k ∉ [17, 18, 20, 21, 32, 44, 103, 105] → B k = A k := fun k hk => by rw [hB]; exact nx_comes_f hk
  have e17 : ∀ t, B 17 t 0 = if t = s then M + m else A 17 t 0 := fun t => by
    rw [hB]; show (if t = s ∧ (0 : Int) = 0 then A 17 s 0 + m else A 17 t 0) = _; simp [eM]
  have e20 : ∀ t, B 20 t 0 = if t = s then A 20 s 0 + m else A 20 t 0 := fun t => by
    rw [hB]; show (if t = s ∧ (0 : Int) = 0 then A 20 s 0 + m else A 20 t 0) = _; simp
  have e18 : ∀ t j, B 18 t j = if t = s then (if pl ≤ j ∧ j < pl + m then g (j - pl) else if pl + m ≤ j ∧ j < M + m then A 18 s (j - m) else A 18 s j) else A 18 t j := fun t j => by rw [hB, eM]; rfl
  have e105 : ∀ t j, B 105 t j = if t = s then (if pl ≤ j ∧ j < pl + m then A 105 s (M + j - pl) else if pl + m ≤ j ∧ j < M + m then A 105 s (j - m) else A 105 s j) else A 105 t j := fun t j => by rw [hB, eM]; rfl
  have e21 : ∀ f, B 21 f 0 = if gpos g m.toNat f ≠ -1 then A 20 s 0 + gpos g m.toNat f else A 21 f 0 := fun f => by
    rw [hB]; show (if (0 : Int) = 0 ∧ gpos g m.toNat f ≠ -1 then A 20 s 0 + gpos g m.toNat f else A 21 f 0) = _; simp
  have e32 : ∀ f, B 32 f 0 = if gpos g m.toNat f ≠ -1 then -1 else A 32 f 0 := fun f => by
    rw [hB]; show (if (0 : Int) = 0 ∧ gpos g m.toNat f ≠ -1 then -1 else A 32 f 0) = _; simp
  have e44 : ∀ f, B 44 f 0 = if gpos g m.toNat f ≠ -1 then 0 else A 44 f 0 := fun f => by
    rw [hB]; show (if (0 : Int) = 0 ∧ gpos g m.toNat f ≠ -1 then 0 else A 44 f 0) = _; simp
  have e103 : ∀ f, B 103 f 0 = if gpos g m.toNat f ≠ -1 then A 105 s (M + gpos g m.toNat f) else A 103 f 0 := fun f => by
    rw [hB]; show (if (0 : Int) = 0 ∧ gpos g m.toNat f ≠ -1 then A 105 s (A 17 s 0 + gpos g m.toNat f) else A 103 f 0) = _; simp [eM]
  rw [← hB]
  clear hB
  obtain ⟨nf1, nf2⟩ := nf
  have old : ∀ f, actv A f → gpos g m.toNat f = -1 := fun f hf => gpos_ne (fun i i0 i1 q => by
    obtain ⟨x1, x2, p, x3, x4, x5⟩ := hf
    obtain ⟨y1, y2, y3⟩ := nf1 i i0 (by omega)
    have ef : f / 16 = s := by omega
    rw [ef] at x4 x5
    exact y3 p x3 x4 (by rw [x5, q]))
  have new : ∀ i, 0 ≤ i → i < m → gpos g m.toNat (g i) = i ∧ 16 * s ≤ g i ∧ g i < 16 * s + 16 := fun i i0 i1 => by
    have y := nf1 i i0 i1
    exact ⟨gpos_at i0 (by omega) (fun a b a0 ab b1 => nf2 a b a0 ab (by omega)), y.1, y.2.1⟩
  have act : ∀ t p, 0 ≤ t → t < 5 → 0 ≤ p → p < A 17 t 0 → actv A (A 18 t p) := fun t p t0 t1 q0 q1 => by
    have y := Y1 t p t0 t1 q0 q1
    have ef : A 18 t p / 16 = t := by omega
    exact ⟨by omega, by omega, p, q0, by rw [ef]; exact q1, by rw [ef]⟩
  have cs : ∀ p, 0 ≤ p → p < M + m → (∃ i, 0 ≤ i ∧ i < m ∧ p = pl + i ∧ B 18 s p = g i ∧ B 105 s p = A 105 s (M + i)) ∨ (∃ q, 0 ≤ q ∧ q < M ∧ ((p = q ∧ q < pl) ∨ (p = q + m ∧ pl ≤ q)) ∧ B 18 s p = A 18 s q ∧ B 105 s p = A 105 s q) := fun p q0 q1 => by
    rw [e18, e105, if_pos rfl, if_pos rfl]
    by_cases a : pl ≤ p ∧ p < pl + m
    · exact Or.inl ⟨p - pl, by omega, by omega, by omega, by rw [if_pos a], by rw [if_pos a]; congr 1; omega⟩
    · rw [if_neg a, if_neg a]
      by_cases b : pl + m ≤ p ∧ p < M + m
      · exact Or.inr ⟨p - m, by omega, by omega, by omega, by rw [if_pos b], by rw [if_pos b]⟩
      · rw [if_neg b, if_neg b]
        exact Or.inr ⟨p, q0, by omega, by omega, rfl, rfl⟩
  have ea : ∀ f, actv A f → actv B f := fun f hf => by
    obtain ⟨x1, x2, p, x3, x4, x5⟩ := hf
    refine ⟨x1, x2, ?_⟩
    rw [e17]
    by_cases z : f / 16 = s
    · rw [z] at x4 x5 ⊢
      rw [if_pos rfl]
      rw [← eM] at x4
      by_cases y : p < pl
      · exact ⟨p, x3, by omega, by rw [e18, if_pos rfl, if_neg (by omega), if_neg (by omega)]; exact x5⟩
      · exact ⟨p + m, by omega, by omega, by rw [e18, if_pos rfl, if_neg (by omega), if_pos (by omega), show p + m - m = p by omega]; exact x5⟩
    · rw [if_neg z]
      exact ⟨p, x3, x4, by rw [e18, if_neg z]; exact x5⟩
  refine ⟨fun F => ?_, fun J => ?_, fun N => ?_, fun G => ?_, fun E => ?_, fun i1 i2 hsS i3 i4 i5 i6 i7 i8 i9 i10 => ?_⟩
  · intro f f0 f1
    obtain ⟨y1, y2, y3, y4, y5, y6, y7⟩ := F f f0 f1
    unfold exv at *
    rw [e 1 (by decide), e 2 (by decide), e 33 (by decide), e 34 (by decide), e32, e44]
    by_cases z : gpos g m.toNat f = -1
    · rw [if_neg (fun q => q z), if_neg (fun q => q z)]
      exact ⟨y1, y2, y3, y4, fun q => ⟨ea f (y5 q).1, (y5 q).2⟩, y6, y7⟩
    · rw [if_pos z, if_pos z]
      exact ⟨by omega, by omega, y3, y4, fun q => absurd rfl q, by omega, by omega⟩
  · obtain ⟨a1, a2, a3, a4, a5, a6, a7, a8, a9, a10, a11, a12, a13, a14, a15, a16⟩ := J
    unfold IvM
    rw [e 35 (by decide), e 36 (by decide), e 37 (by decide), e 38 (by decide), e 39 (by decide), e 40 (by decide), e 41 (by decide), e 42 (by decide), e 43 (by decide), e 45 (by decide), e 46 (by decide)]
    refine ⟨a1, a2, a3, a4, a5, a6, a7, a8, fun k k0 k1 => ?_, a10, a11, a12, a13, a14, fun k k0 k1 => ?_, a16⟩
    · obtain ⟨b1, b2, b3, b4, b5⟩ := a9 k k0 k1
      refine ⟨b1.imp id (ea _), b2, b3, b4, fun w v => ?_⟩
      have ha := b1.elim (fun q => absurd q w) id
      rw [e44, old _ ha, if_neg (by omega)]
      exact b5 w v
    · obtain ⟨b1, b2, b3⟩ := a15 k k0 k1
      refine ⟨ea _ b1, ?_, b3⟩
      rw [e44, old _ b1, if_neg (by omega)]; exact b2
  · unfold IvN
    rw [e 47 (by decide), e 48 (by decide), e 49 (by decide), e 50 (by decide), e 51 (by decide), e 52 (by decide)]
    exact ⟨N.1, N.2.1, fun k k0 k1 => ⟨(N.2.2.1 k k0 k1).1, (N.2.2.1 k k0 k1).2.1, (N.2.2.1 k k0 k1).2.2.1, (N.2.2.1 k k0 k1).2.2.2.1.imp id (ea _), (N.2.2.1 k k0 k1).2.2.2.2⟩, N.2.2.2⟩
  · obtain ⟨g1, g2, g3, g4, g5, g6, g7, g8⟩ := G
    unfold IvG exv at *
    rw [e 1 (by decide), e 2 (by decide), e 6 (by decide), e 7 (by decide), e 100 (by decide), e 101 (by decide), e 102 (by decide)]
    have sp : ∀ p, 0 ≤ p → p < 16 → ∃ q, 0 ≤ q ∧ q < 16 ∧ B 105 s p = A 105 s q ∧ ((pl ≤ p ∧ p < pl + m ∧ q = M + p - pl) ∨ (pl + m ≤ p ∧ p < M + m ∧ q = p - m) ∨ ((p < pl ∨ M + m ≤ p) ∧ q = p)) := fun p q0 q1 => by
      rw [e105, if_pos rfl]
      by_cases a : pl ≤ p ∧ p < pl + m
      · exact ⟨M + p - pl, by omega, by omega, by rw [if_pos a], by omega⟩
      · rw [if_neg a]
        by_cases b : pl + m ≤ p ∧ p < M + m
        · exact ⟨p - m, by omega, by omega, by rw [if_pos b], by omega⟩
        · rw [if_neg b]; exact ⟨p, q0, q1, rfl, by omega⟩
    refine ⟨g1, g2, g3, g4, g5, fun t p t0 t1 q0 q1 => ?_, fun t p p' t0 t1 q0 q1 q2 => ?_, fun t p t0 t1 q0 q1 => ?_⟩
    · by_cases z : t = s
      · rw [z]
        obtain ⟨q, a, b, d, -⟩ := sp p q0 q1
        rw [d]; exact g6 s q s0 s1 a b
      · rw [e105, if_neg z]; exact g6 t p t0 t1 q0 q1
    · by_cases z : t = s
      · rw [z]
        obtain ⟨q, a, b, d, x⟩ := sp p q0 (by omega)
        obtain ⟨q', a', b', d', x'⟩ := sp p' (by omega) q2
        rw [d, d']
        rcases Int.lt_trichotomy q q' with w | w | w
        · exact g7 s q q' s0 s1 a w b'
        · omega
        · exact fun y => g7 s q' q s0 s1 a' w b y.symm
      · rw [e105, e105, if_neg z, if_neg z]; exact g7 t p p' t0 t1 q0 q1 q2
    · rw [e17] at q1
      by_cases z : t = s
      · rw [if_pos z] at q1
        rw [z]
        rcases cs p q0 q1 with ⟨i, i0, i1, i2, f1, f2⟩ | ⟨q, i0, i1, i2, f1, f2⟩
        · rw [f1, f2, e103, (new i i0 i1).1, if_pos (by omega)]
        · rw [f1, f2, e103, old _ (act s q s0 s1 i0 (by omega)), if_neg (by omega)]
          exact g8 s q s0 s1 i0 (by omega)
      · rw [if_neg z] at q1
        rw [e18, e105, if_neg z, if_neg z, e103, old _ (act t p t0 t1 q0 q1), if_neg (by omega)]
        exact g8 t p t0 t1 q0 q1
  · intro f f0 f1 w
    rw [e32] at w
    rw [e 34 (by decide)]
    by_cases z : gpos g m.toNat f = -1
    · rw [if_neg (fun q => q z)] at w; exact E f f0 f1 w
    · rw [if_pos z] at w; exact absurd rfl w
  · unfold IvS
    rw [e 16 (by decide), e 22 (by decide), e 23 (by decide), e 24 (by decide), e 25 (by decide), e 27 (by decide), e 28 (by decide), e 29 (by decide), e 30 (by decide), e 31 (by decide)]
    have b20 := i3 s s0 s1
    refine ⟨i1, i2, fun t t0 t1 => ?_, fun t t0 t1 => ?_, fun t t0 t1 => ?_, fun t p t0 t1 q0 q1 => ?_, fun t p p' t0 t1 q0 q1 q2 => ?_, fun t k t0 t1 k0 k1 => ?_, i9, fun f l f0 f1 l0 l1 => ?_⟩
    · obtain ⟨b3, b4, b5, b6, b7, b8, b9, b10, b11, b12, b13, b14, b15⟩ := i3 t t0 t1
      have b17 := Y3 t t0 t1
      have x17 := e17 t
      have x20 := e20 t
      by_cases z : t = s
      · rw [if_pos z] at x17 x20
        rw [x17, x20]
        exact ⟨by omega, by omega, by omega, by omega, b5, b6, b7, b8, b9, b10, b11, b12, b13, by omega, b15⟩
      · rw [if_neg z] at x17 x20
        rw [x17, x20]
        exact ⟨b17.1, b17.2, b3, by omega, b5, b6, b7, b8, b9, b10, b11, b12, b13, by omega, b15⟩
    · rw [e17]
      have := i4 t t0 t1
      by_cases z : t = s
      · rw [if_pos z]; exact ⟨by omega, this.2⟩
      · rw [if_neg z]; exact ⟨this.1 z, this.2⟩
    · rw [e17, e20, if_neg (by omega), if_neg (by omega)]; exact i5 t t0 t1
    · rw [e17] at q1
      rw [e20]
      by_cases z : t = s
      · rw [if_pos z] at q1 ⊢
        rw [z]
        rcases cs p q0 q1 with ⟨i, i0, i1, i2, f1, f2⟩ | ⟨q, i0, i1, i2, f1, f2⟩
        · obtain ⟨n1, n2, n3⟩ := new i i0 i1
          rw [f1, e21, n1, if_pos (by omega)]
          exact ⟨n2, n3, by omega, by omega⟩
        · have y := Y1 s q s0 s1 i0 (by omega)
          have x := i6 s q s0 s1 i0 (by omega)
          rw [f1, e21, old _ (act s q s0 s1 i0 (by omega)), if_neg (by omega)]
          exact ⟨y.1, y.2, x.1, by omega⟩
      · rw [if_neg z] at q1 ⊢
        have y := Y1 t p t0 t1 q0 q1
        have x := i6 t p t0 t1 q0 q1
        rw [e18, if_neg z, e21, old _ (act t p t0 t1 q0 q1), if_neg (by omega)]
        exact ⟨y.1, y.2, x.1, x.2⟩
    · rw [e17] at q2
      by_cases z : t = s
      · rw [if_pos z] at q2
        rw [z]
        rcases cs p q0 (by omega) with ⟨i, i0, i1, i2, f1, f2⟩ | ⟨q, i0, i1, i2, f1, f2⟩
        · obtain ⟨n1, n2, n3⟩ := new i i0 i1
          rcases cs p' (by omega) q2 with ⟨i', i0', i1', i2', f1', f2'⟩ | ⟨q', i0', i1', i2', f1', f2'⟩
          · obtain ⟨n1', n2', n3'⟩ := new i' i0' i1'
            rw [f1, f1', e21, e21, n1, n1', if_pos (by omega), if_pos (by omega)]
            exact ⟨nf2 i i' i0 (by omega) i1', by omega⟩
          · have x := i6 s q' s0 s1 i0' (by omega)
            rw [f1, f1', e21, e21, n1, old _ (act s q' s0 s1 i0' (by omega)), if_pos (by omega), if_neg (by omega)]
            exact ⟨fun w => (nf1 i i0 i1).2.2 q' i0' (by omega) w.symm, by omega⟩
        · have x := i6 s q s0 s1 i0 (by omega)
          rcases cs p' (by omega) q2 with ⟨i', i0', i1', i2', f1', f2'⟩ | ⟨q', i0', i1', i2', f1', f2'⟩
          · obtain ⟨n1', n2', n3'⟩ := new i' i0' i1'
            rw [f1, f1', e21, e21, n1', old _ (act s q s0 s1 i0 (by omega)), if_neg (by omega), if_pos (by omega)]
            exact ⟨(nf1 i' i0' i1').2.2 q i0 (by omega), by omega⟩
          · rw [f1, f1', e21, e21, old _ (act s q s0 s1 i0 (by omega)), old _ (act s q' s0 s1 i0' (by omega)), if_neg (by omega), if_neg (by omega)]
            exact i7 s q q' s0 s1 i0 (by omega) (by omega)
      · rw [if_neg z] at q2
        rw [e18, e18, if_neg z, if_neg z, e21, e21, old _ (act t p t0 t1 q0 (by omega)), old _ (act t p' t0 t1 (by omega) q2), if_neg (by omega), if_neg (by omega)]
        exact i7 t p p' t0 t1 q0 q1 q2
    · have := i8 t k t0 t1 k0 k1
      unfold exv at *
      rw [e 1 (by decide), e 2 (by decide)]; exact this
    · obtain ⟨b1, b2⟩ := i10 f l f0 f1 l0 l1
      exact ⟨b1.imp id (fun z => ⟨z.1, ea f z.2⟩), b2⟩
theorem inv_insert {c s p m : Int} {g : Int → Int} {A : AS} (I : Inv c A) (nf : th_insert A s p m = 0 → newF A s m g) : Inv (c + 1) (nx_insert A s p m g) := by
  unfold nx_insert
  split
  · next h =>
    have nf := nf h
    have hx : isS A s ∧ 0 ≤ p ∧ p ≤ A 17 s 0 ∧ 1 ≤ m ∧ m ≤ 16 ∧ A 17 s 0 + m ≤ 16 := by
      unfold th_insert at h
      by_cases y : isS A s ∧ 0 ≤ p ∧ p ≤ A 17 s 0
      · rw [if_neg (fun q => q y)] at h
        by_cases w : 1 ≤ m ∧ m ≤ 16
        · rw [if_neg (fun q => q w)] at h
          by_cases v : 16 < A 17 s 0 + m
          · rw [if_pos v] at h; omega
          · exact ⟨y.1, y.2.1, y.2.2, w.1, w.2, by omega⟩
        · rw [if_pos w] at h; omega
      · rw [if_pos y] at h; omega
    obtain ⟨hS, p0, p1, m1, m2, hm⟩ := hx
    obtain ⟨V, D, S, F, M, N, C, G, E, K⟩ := I
    have s5 : s < 5 := by have := hS.2; have := S.2.1; omega
    obtain ⟨x1, x2, x3, x4, x5, x6⟩ := comes_inv (c := c) (Cmy_of S) hS.1 s5 nf p0 p1 m1 hm
    obtain ⟨i1, i2, i3, i4, i5, i6, i7, i8, i9, i10⟩ := S
    have SB := x6 i1 i2 hS.2 (fun t t0 t1 => (i3 t t0 t1).2.2) (fun t t0 t1 => ⟨fun _ => (i4 t t0 t1).1, (i4 t t0 t1).2⟩) i5 (fun t p t0 t1 q0 q1 => (i6 t p t0 t1 q0 q1).2.2) i7 i8 i9 i10
    have e : ∀ k, k ∉ [17, 18, 20, 21, 31, 32, 44, 103, 105] → up (nx_comes A s p m g) 31 s 0 0 k = A k := fun k hk => by
      funext i j
      rw [up_f (fun q => hk (by rw [q]; decide)), nx_comes_f (fun q => hk (by revert q; simp only [List.mem_cons, List.not_mem_nil, or_false]; omega))]
    have u : ∀ k, k ≠ 31 → up (nx_comes A s p m g) 31 s 0 0 k = nx_comes A s p m g k := fun k hk => by funext i j; exact up_f hk
    have M' := (x2 M).mono (show c ≤ c + 1 by omega)
    have C' := C.mono (show c ≤ c + 1 by omega)
    exact ⟨V.of (fun g hg => e g (nin hg (by decide))), D.of (fun g hg => e g (nin hg (by decide))), up31_S SB (Or.inr rfl), (x1 F).of (fun g hg => u g (fun q => by subst q; revert hg; decide)), M'.of (fun g hg => u g (fun q => by subst q; revert hg; decide)), (x3 N).of (fun g hg => u g (fun q => by subst q; revert hg; decide)), C'.of (fun g hg => e g (nin hg (by decide))), (x4 G).of2 (fun g hg => u g (fun q => by subst q; revert hg; decide)), IvE.of (x5 E) (u 32 (by decide)) (u 34 (by decide)), IvK.of K (e 23 (by decide)) (e 24 (by decide))⟩
  · exact I.mono (by omega)
theorem inv_addShot {c m : Int} {g : Int → Int} {A : AS} (I : Inv c A) (nf : th_addShot A m = 0 → newF A (A 16 0 0) m g) : Inv (c + 1) (nx_addShot A m g) := by
  unfold nx_addShot
  split
  · next h =>
    have nf := nf h
    have hx : 1 ≤ m ∧ m ≤ 16 ∧ A 16 0 0 ≠ 5 := by
      unfold th_addShot at h
      by_cases y : 1 ≤ m ∧ m ≤ 16
      · rw [if_neg (fun q => q y)] at h
        exact ⟨y.1, y.2, fun q => by rw [if_pos q] at h; omega⟩
      · rw [if_pos y] at h; omega
    obtain ⟨m1, m2, h5⟩ := hx
    obtain ⟨V, D, S, F, M, N, C, G, E, K⟩ := I
    have Y := Cmy_of S
    obtain ⟨i1, i2, i3, i4, i5, i6, i7, i8, i9, i10⟩ := S
    have z5 := i5 (A 16 0 0) (by omega) (by omega)
    have e1 : ∀ k, k ∉ [16, 28] → as1 A k = A k := fun k hk => as1_f (fun q => hk (by rw [q]; decide)) (fun q => hk (by rw [q]; decide))
    have Y1 : Cmy (as1 A) := by
      unfold Cmy actv at *
      rw [e1 17 (by decide), e1 18 (by decide), e1 24 (by decide)]
      exact Y
    have e28 := fun t => as1_28 (A := A) (t := t)
    have e16 := as1_16 (A := A)
    obtain ⟨x1, x2, x3, x4, x5, x6⟩ := comes_inv (c := c) (A := as1 A) (s := A 16 0 0) (pl := 0) (m := m) (g := g) Y1 i1 (by omega) (nf.of (e1 17 (by decide)) (e1 18 (by decide))) (by omega) (by rw [e1 17 (by decide)]; omega) m1 (by rw [e1 17 (by decide)]; omega)
    have SB := x6 (by omega) (by omega) (by omega) (fun t t0 t1 => by
        have := (i3 t t0 t1).2.2
        rw [e1 20 (by decide), e1 23 (by decide), e1 27 (by decide), e1 29 (by decide), e1 30 (by decide), e1 31 (by decide), e28]
        refine ⟨this.1, this.2.1, this.2.2.1, this.2.2.2.1, this.2.2.2.2.1, this.2.2.2.2.2.1, ?_, ?_, this.2.2.2.2.2.2.2.2⟩
        · split
          · decide
          · exact this.2.2.2.2.2.2.1
        · split
          · decide
          · exact this.2.2.2.2.2.2.2.1) (fun t t0 t1 => by
        rw [e16] at t1
        rw [e1 17 (by decide), e28]
        by_cases z : t = A 16 0 0
        · rw [if_pos z]; exact ⟨fun q => absurd z q, by decide⟩
        · rw [if_neg z]; have := i4 t t0 (by omega); exact ⟨fun _ => this.1, this.2⟩) (fun t t0 t1 => by
        rw [e16] at t0
        rw [e1 17 (by decide), e1 20 (by decide), e1 23 (by decide), e1 27 (by decide), e1 29 (by decide), e1 30 (by decide), e1 31 (by decide)]
        exact i5 t (by omega) t1) (fun t p t0 t1 q0 q1 => by
        rw [e1 17 (by decide)] at q1
        rw [e1 18 (by decide), e1 20 (by decide), e1 21 (by decide)]
        exact (i6 t p t0 t1 q0 q1).2.2) (fun t p p' t0 t1 q0 q1 q2 => by
        rw [e1 17 (by decide)] at q2
        rw [e1 18 (by decide), e1 21 (by decide)]
        exact i7 t p p' t0 t1 q0 q1 q2) (fun t k t0 t1 k0 k1 => by
        have := i8 t k t0 t1 k0 k1
        unfold exv at *
        rw [e1 1 (by decide), e1 2 (by decide), e1 22 (by decide)]; exact this) (fun t k t0 t1 k0 k1 => by
        rw [e16] at t0
        rw [e1 22 (by decide)]; exact i9 t k (by omega) t1 k0 k1) (fun f l f0 f1 l0 l1 => by
        have := i10 f l f0 f1 l0 l1
        unfold actv at *
        rw [e1 17 (by decide), e1 18 (by decide), e1 24 (by decide), e1 25 (by decide)]; exact this)
    have e : ∀ k, k ∉ [16, 17, 18, 20, 21, 28, 32, 44, 103, 105] → nx_comes (as1 A) (A 16 0 0) 0 m g k = A k := fun k hk => by
      rw [nx_comes_f (fun q => hk (by revert q; simp only [List.mem_cons, List.not_mem_nil, or_false]; omega)), e1 k (fun q => hk (by revert q; simp only [List.mem_cons, List.not_mem_nil, or_false]; omega))]
    have F1 := x1 (F.of (fun g hg => e1 g (nin hg (by decide))))
    have M1 := (x2 (M.of (fun g hg => e1 g (nin hg (by decide))))).mono (show c ≤ c + 1 by omega)
    have N1 := x3 (N.of (fun g hg => e1 g (nin hg (by decide))))
    have G1 := x4 (G.of2 (fun g hg => e1 g (nin hg (by decide))))
    have E1 := x5 (IvE.of E (e1 32 (by decide)) (e1 34 (by decide)))
    have C' := C.mono (show c ≤ c + 1 by omega)
    exact ⟨V.of (fun g hg => e g (nin hg (by decide))), D.of (fun g hg => e g (nin hg (by decide))), SB, F1, M1, N1, C'.of (fun g hg => e g (nin hg (by decide))), G1, E1, IvK.of K (e 23 (by decide)) (e 24 (by decide))⟩
  · exact I.mono (by omega)
