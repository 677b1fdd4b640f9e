theorem gpos_ne {g : Int → Int} {f : Int} {n : Nat} (h : ∀ i : Int, 0 ≤ i → i < n → g i ≠ f) : gpos g n f = -1 := by
  rcases gpos_spec g f n with ⟨a, -⟩ | ⟨a1, a2, a3⟩
  · exact a
  · exact absurd a3 (h _ a1 a2)
theorem gpos_at {g : Int → Int} {i : Int} {n : Nat} (i0 : 0 ≤ i) (i1 : i < n) (hd : ∀ i i' : Int, 0 ≤ i → i < i' → i' < n → g i ≠ g i') : gpos g n (g i) = i := by
  rcases gpos_spec g (g i) n with ⟨-, b⟩ | ⟨a1, a2, a3⟩
  · exact absurd rfl (b i i0 i1)
  · rcases Int.lt_trichotomy (gpos g n (g i)) i with w | w | w
    · exact absurd a3 (hd _ _ a1 w i1)
    · exact w
    · exact absurd a3.symm (hd _ _ i0 w a2)
/-- what the coming of frames asks of the state -/
def Cmy (A : AS) : Prop := (∀ t p, 0 ≤ t → t < 5 → 0 ≤ p → p < A 17 t 0 → 16 * t ≤ A 18 t p ∧ A 18 t p < 16 * t + 16) ∧ (∀ f l, 0 ≤ f → f < 80 → 0 ≤ l → l < 16 → A 24 f l = 0 ∨ actv A f) ∧ (∀ t, 0 ≤ t → t < 5 → 0 ≤ A 17 t 0 ∧ A 17 t 0 ≤ 16)
theorem RC.comes {c : Int} {A : AS} {h h' : Mh} (R : RC A h) (T : Stx A) (Y : Cmy A) (F : IvF A) (J : IvM c A) (N : IvN A) {s pl m : Int} {g : Int → Int} (hS : isS A s) (nf : newF A s m g) (p0 : 0 ≤ pl) (p1 : pl ≤ A 17 s 0) (m0 : 1 ≤ m) (hm : A 17 s 0 + m ≤ 16)
    (U : Put h h' (sN s) (A 17 s 0) m pl (A 20 s 0) (fun p => cN s (A 105 s p))) : RC (up (nx_comes A s pl m g) 31 s 0 0) h' := by
  obtain ⟨V9, D9, a16, a36, a47, a51, G9⟩ := T
  obtain ⟨Y1, Y2, Y3⟩ := Y
  obtain ⟨u1, u2, u3, u4, u5, u6, u7⟩ := U
  have hs0 := hS.1
  have hs1 := hS.2
  obtain ⟨M, eM⟩ : ∃ M, M = A 17 s 0 := ⟨_, rfl⟩
  have hM := Y3 s hs0 (by omega)
  rw [← eM] at p1 hm u4 u5 u6 u7 hM
  obtain ⟨B, hB⟩ : ∃ B, B = up (nx_comes A s pl m g) 31 s 0 0 := ⟨_, rfl⟩
  have e : ∀ k, k ∉ [17, 18, 20, 21, 31, 32, 44, 103, 105] → B k = A k := fun k hk => by
    rw [hB]; funext i j
    rw [up_f (fun q => hk (by rw [q]; decide)), nx_comes_f (fun q => hk (by revert q; simp only [List.mem_cons, List.not_mem_nil, or_false]; omega))]
  have e17 : ∀ t, B 17 t 0 = if t = s then M + m else A 17 t 0 := fun t => by
    rw [hB, up_f (by decide)]; show (if t = s ∧ (0 : Int) = 0 then A 17 s 0 + m else A 17 t 0) = _; simp [eM]
  have e20 : ∀ t, B 20 t 0 = if t = s then A 20 s 0 + m else A 20 t 0 := fun t => by
    rw [hB, up_f (by decide)]; show (if t = s ∧ (0 : Int) = 0 then A 20 s 0 + m else A 20 t 0) = _; simp
  have e31 : ∀ t, B 31 t 0 = if t = s then 0 else A 31 t 0 := fun t => by
    rw [hB, up_at]; simp [nx_comes]
  have e18 : ∀ t j, B 18 t j = if t = s then (if pl ≤ j ∧ j < pl + m then g (j - pl) else if pl + m ≤ j ∧ j < M + m then A 18 s (j - m) else A 18 s j) else A 18 t j := fun t j => by
    rw [hB, up_f (by decide), eM]; rfl
  have e105 : ∀ t j, B 105 t j = if t = s then (if pl ≤ j ∧ j < pl + m then A 105 s (M + j - pl) else if pl + m ≤ j ∧ j < M + m then A 105 s (j - m) else A 105 s j) else A 105 t j := fun t j => by
    rw [hB, up_f (by decide), eM]; rfl
  have e21 : ∀ f, B 21 f 0 = if gpos g m.toNat f ≠ -1 then A 20 s 0 + gpos g m.toNat f else A 21 f 0 := fun f => by
    rw [hB, up_f (by decide)]; show (if (0 : Int) = 0 ∧ gpos g m.toNat f ≠ -1 then A 20 s 0 + gpos g m.toNat f else A 21 f 0) = _; simp
  have e32 : ∀ f, B 32 f 0 = if gpos g m.toNat f ≠ -1 then -1 else A 32 f 0 := fun f => by
    rw [hB, up_f (by decide)]; show (if (0 : Int) = 0 ∧ gpos g m.toNat f ≠ -1 then -1 else A 32 f 0) = _; simp
  have e44 : ∀ f, B 44 f 0 = if gpos g m.toNat f ≠ -1 then 0 else A 44 f 0 := fun f => by
    rw [hB, up_f (by decide)]; show (if (0 : Int) = 0 ∧ gpos g m.toNat f ≠ -1 then 0 else A 44 f 0) = _; simp
  have e103 : ∀ f, B 103 f 0 = if gpos g m.toNat f ≠ -1 then A 105 s (M + gpos g m.toNat f) else A 103 f 0 := fun f => by
    rw [hB, up_f (by decide)]; show (if (0 : Int) = 0 ∧ gpos g m.toNat f ≠ -1 then A 105 s (A 17 s 0 + gpos g m.toNat f) else A 103 f 0) = _; simp [eM]
  rw [← hB]
  clear hB
  obtain ⟨nf1, nf2⟩ := nf
  -- a frame that a shot has is none of the new ones
  have old : ∀ f, actv A f → gpos g m.toNat f = -1 := fun f hf => gpos_ne (fun i i0 i1 q => by
    obtain ⟨x1, x2, p, x3, x4, x5⟩ := hf
    obtain ⟨y1, y2, y3⟩ := nf1 i i0 (by omega)
    have ef : f / 16 = s := by omega
    rw [ef] at x4 x5
    exact y3 p x3 x4 (by rw [x5, q]))
  have new : ∀ i, 0 ≤ i → i < m → gpos g m.toNat (g i) = i ∧ ¬ actv A (g i) ∧ 0 ≤ g i ∧ g i < 80 := fun i i0 i1 => by
    have y := nf1 i i0 i1
    refine ⟨gpos_at i0 (by omega) (fun a b a0 ab b1 => nf2 a b a0 ab (by omega)), fun hf => ?_, by omega, by omega⟩
    have h1 := old _ hf
    rw [gpos_at i0 (by omega) (fun a b a0 ab b1 => nf2 a b a0 ab (by omega))] at h1
    omega
  have act : ∀ t p, 0 ≤ t → t < 5 → 0 ≤ p → p < A 17 t 0 → actv A (A 18 t p) := fun t p t0 t1 q0 q1 => by
    have y := Y1 t p t0 t1 q0 q1
    have ef : A 18 t p / 16 = t := by omega
    exact ⟨by omega, by omega, p, q0, by rw [ef]; exact q1, by rw [ef]⟩
  have g6 := G9.2.2.2.2.2.1
  have hc : ∀ t k, cN t k = 20010 + 200 * t.toNat + 10 * k.toNat := fun t k => rfl
  have hb : sN s = 20000 + 200 * s.toNat := rfl
  have s5 : s.toNat < 5 := by omega
  -- which cells changed
  have mi : ∀ n, n ≠ sN s → (∀ p, M ≤ p → p < M + m → n ≠ cN s (A 105 s p)) → Mi h' n = Mi h n := u5
  have mo : ∀ n, (n < 20000 ∨ 30000 ≤ n) → Mi h' n = Mi h n := fun n hn => mi n (by omega) (fun p q0 q1 => by
    have := g6 s p hs0 (by omega) (by omega) (by omega)
    rw [hc]; omega)
  have s9 : ∀ n, (n < 20000 + 200 * s.toNat ∨ 20200 + 200 * s.toNat ≤ n) → Sam h h' n := fun n hn => ⟨by rw [u1], by rw [u2], mi n (by omega) (fun p q0 q1 => by
    have := g6 s p hs0 (by omega) (by omega) (by omega)
    rw [hc]; omega), u3 n (by omega) (by omega)⟩
  have mk : ∀ k, 0 ≤ k → k < 16 → ∀ i, 1 ≤ i → i < 5 → Mi h' (cN s k + i) = Mi h (cN s k + i) := fun k k0 k1 i i0 i1 => mi _ (by rw [hc]; omega) (fun p q0 q1 => by
    have := g6 s p hs0 (by omega) (by omega) (by omega)
    rw [hc, hc]; omega)
  have mr : ∀ t k, 0 ≤ k → k < 16 → ∀ i, i < 5 → Mr h' (cN t k + i) = Mr h (cN t k + i) := fun t k k0 k1 i i1 => u3 _ (by rw [hc]; omega) (by rw [hc]; omega)
  have mnew : ∀ p, M ≤ p → p < M + m → ∀ k : Int, Mi h' (cN s (A 105 s p)) k = if k = 1 then A 20 s 0 + (p - M) else Mi h (cN s (A 105 s p)) k := u7
  have mold : ∀ p, 0 ≤ p → p < M → Mi h' (cN s (A 105 s p)) = Mi h (cN s (A 105 s p)) := fun p q0 q1 => mi _ (by rw [hc]; omega) (fun q a b w => by
    have := cN_ne G9 (s := s) (t := s) (p := q) (q := p) hs0 (by omega) hs0 (by omega) (by omega) (by omega) q0 (by omega) (by omega)
    omega)
  have mspr : ∀ p, M + m ≤ p → p < 16 → Mi h' (cN s (A 105 s p)) = Mi h (cN s (A 105 s p)) := fun p q0 q1 => mi _ (by rw [hc]; omega) (fun q a b w => by
    have := cN_ne G9 (s := s) (t := s) (p := q) (q := p) hs0 (by omega) hs0 (by omega) (by omega) (by omega) (by omega) q1 (by omega)
    omega)
  -- a place: a new one, an old one, a spare one
  have cs : ∀ p, 0 ≤ p → p < 16 → (∃ i, 0 ≤ i ∧ i < m ∧ p < M + m ∧ B 18 s p = g i ∧ B 105 s p = A 105 s (M + i)) ∨ (∃ q, 0 ≤ q ∧ q < M ∧ p < M + m ∧ B 18 s p = A 18 s q ∧ B 105 s p = A 105 s q) ∨ (M + m ≤ p ∧ B 105 s p = A 105 s p) := fun p q0 q1 => by
    rw [e18, e105, if_pos rfl, if_pos rfl]
    by_cases a : pl ≤ p ∧ p < pl + m
    · refine Or.inl ⟨p - pl, by omega, by omega, by omega, by rw [if_pos a], by rw [if_pos a]; congr 1; omega⟩
    · rw [if_neg a, if_neg a]
      by_cases b : pl + m ≤ p ∧ p < M + m
      · exact Or.inr (Or.inl ⟨p - m, by omega, by omega, by omega, by rw [if_pos b], by rw [if_pos b]⟩)
      · rw [if_neg b, if_neg b]
        by_cases d : p < M + m
        · exact Or.inr (Or.inl ⟨p, q0, by omega, by omega, rfl, rfl⟩)
        · exact Or.inr (Or.inr ⟨by omega, rfl⟩)
  have E9 : ∀ L : List Nat, (∀ f, f ∈ [17, 18, 20, 21, 31, 32, 44, 103, 105] → f ∉ L) → ∀ k, k ∈ L → B k = A k := fun L hL k hk => e k (fun q => hL k q hk)
  have xs : RCs B h' := by
    refine ⟨fun t t0 t1 => ?_, fun n n0 n1 => ?_⟩
    · rw [e 16 (by decide)] at t1
      by_cases z : t = s
      · subst z
        obtain ⟨r1, r2, r3, r4⟩ := R.xs.1 t t0 t1
        unfold SObj
        rw [u1, u2, u3 (sN t) (by omega) (by omega), u3 (sN t + 3) (by omega) (by omega), e17, e20, e31, if_pos rfl, if_pos rfl, if_pos rfl, e 22 (by decide), e 23 (by decide), e 27 (by decide), e 28 (by decide), e 29 (by decide), e 30 (by decide), pN_of (e 100 (by decide)), u6 3, u6 4, u6 6, u6 7, u6 8, u6 9, u6 10, u6 11, u6 0]
        refine ⟨r1, ⟨rfl, rfl, r2.2.2.1, r2.2.2.2.1, r2.2.2.2.2.1, rfl, r2.2.2.2.2.2.2.1, r2.2.2.2.2.2.2.2⟩, fun p q0 q1 => ?_, r4⟩
        rw [u4 p q0 q1, e105, if_pos rfl]
        simp only []
        congr 2
        by_cases a : pl ≤ p ∧ p < pl + m
        · rw [if_pos a]; congr 1; unfold mvi; rw [if_pos a]
        · rw [if_neg a]
          by_cases b : pl + m ≤ p ∧ p < M + m
          · rw [if_pos b]; congr 1; unfold mvi; rw [if_neg a, if_neg (by omega), if_pos (by omega)]
          · rw [if_neg b]; congr 1; unfold mvi; rw [if_neg a]
            by_cases d : p < pl
            · rw [if_pos d, if_pos (by omega)]
            · rw [if_neg d, if_neg (by omega)]
      · exact (R.xs.1 t t0 t1).of2 (fun k hk => by
          simp only [List.mem_cons, List.not_mem_nil, or_false] at hk
          rcases hk with rfl | rfl | rfl | rfl | rfl | rfl | rfl | rfl
          · rw [e17, if_neg z]
          · rw [e20, if_neg z]
          · rw [e 23 (by decide)]
          · rw [e 27 (by decide)]
          · rw [e 28 (by decide)]
          · rw [e 29 (by decide)]
          · rw [e 30 (by decide)]
          · rw [e31, if_neg z]) (by funext j; rw [e105, if_neg z]) (by rw [e 22 (by decide)]) (e 100 (by decide)) (fun n n0 n1 => s9 n (by unfold sN at n0 n1; omega))
    · rw [e 16 (by decide)] at n0
      rw [u1]; exact R.xs.2 n n0 n1
  have xo : RCo B h' := by
    intro t k t0 t1 k0 k1
    rw [e 16 (by decide)] at t1
    have := R.xo t k t0 t1 k0 k1
    unfold FObj at *
    have y := mr t k k0 k1 0 (by decide)
    rw [Nat.add_zero] at y
    rw [u1, u2, y]; exact this
  have oth : ∀ t p, 0 ≤ t → t < 5 → t ≠ s → 0 ≤ p → p < 16 → ∀ i, i < 5 → Mi h' (cN t (A 105 t p) + i) = Mi h (cN t (A 105 t p) + i) := fun t p t0 t1 z q0 q1 i hi => by
    have := g6 t p t0 t1 q0 q1
    exact (s9 _ (by rw [hc]; omega)).2.2.1
  have xk : RCk B h' := by
    intro t p t0 t1 q0 q1
    rw [e 16 (by decide)] at t1
    unfold FKey FNam
    rw [e 24 (by decide), e 25 (by decide), e17]
    by_cases z : t = s
    · subst z
      rw [if_pos rfl]
      rcases cs p q0 q1 with ⟨i, i0, i1, i2, f1, f2⟩ | ⟨q, i0, i1, i2, f1, f2⟩ | ⟨f1, f2⟩
      · have gg := g6 t (M + i) t0 (by omega) (by omega) (by omega)
        obtain ⟨x1, x2⟩ := R.xk t (M + i) t0 t1 (by omega) (by omega)
        unfold FKey at x1
        obtain ⟨n1, n2, n3, n4⟩ := new i i0 i1
        rw [f1, f2, mk _ gg.1 gg.2 1 (by decide) (by decide), mk _ gg.1 gg.2 2 (by decide) (by decide), e21, n1, if_pos (by omega), mnew (M + i) (by omega) (by omega), if_pos rfl]
        refine ⟨fun l l0 l1 => ⟨fun _ => ?_, fun w => by omega⟩, fun _ => by omega⟩
        have k0 := (x1 l l0 l1).2 (by omega)
        have a0 : A 24 (g i) l = 0 := (Y2 (g i) l n3 n4 l0 l1).elim id (fun w => absurd w n2)
        rw [k0, a0]
        exact ⟨rfl, fun w => absurd rfl w⟩
      · have gg := g6 t q t0 (by omega) i0 (by omega)
        obtain ⟨x1, x2⟩ := R.xk t q t0 t1 i0 (by omega)
        unfold FKey FNam at *
        have ho := old _ (act t q t0 (by omega) i0 (by omega))
        rw [f1, f2, mk _ gg.1 gg.2 1 (by decide) (by decide), mk _ gg.1 gg.2 2 (by decide) (by decide), mold q i0 i1, e21, ho, if_neg (by omega)]
        exact ⟨fun l l0 l1 => ⟨fun _ => (x1 l l0 l1).1 (by omega), fun w => by omega⟩, fun _ => x2 (by omega)⟩
      · have gg := g6 t p t0 (by omega) q0 q1
        obtain ⟨x1, x2⟩ := R.xk t p t0 t1 q0 q1
        unfold FKey at x1
        rw [f2, mk _ gg.1 gg.2 1 (by decide) (by decide)]
        exact ⟨fun l l0 l1 => ⟨fun w => by omega, fun _ => (x1 l l0 l1).2 (by omega)⟩, fun w => by omega⟩
    · rw [e18, e105, if_neg z, if_neg z, if_neg z]
      have y0 := oth t p t0 (by omega) z q0 q1 0 (by decide)
      rw [Nat.add_zero] at y0
      rw [y0, oth t p t0 (by omega) z q0 q1 1 (by decide), oth t p t0 (by omega) z q0 q1 2 (by decide)]
      obtain ⟨x1, x2⟩ := R.xk t p t0 t1 q0 q1
      unfold FKey FNam at *
      refine ⟨x1, fun w => ?_⟩
      rw [e21, old _ (act t p t0 (by omega) q0 w), if_neg (by omega)]
      exact x2 w
  have ew : ∀ f r, Whr A f r → Whr B f r := fun f r hw => Whr_of (e 36 (by decide)) (e 39 (by decide)) (e 42 (by decide)) (e 43 (by decide)) hw
  have xt : RCt B h' := by
    intro t p t0 t1 q0 q1
    rw [e 16 (by decide)] at t1
    unfold FSta
    rw [e17]
    by_cases z : t = s
    · subst z
      rw [if_pos rfl]
      rcases cs p q0 q1 with ⟨i, i0, i1, i2, f1, f2⟩ | ⟨q, i0, i1, i2, f1, f2⟩ | ⟨f1, f2⟩
      · have x := (R.xt t (M + i) t0 t1 (by omega) (by omega)).2 (by omega)
        obtain ⟨n1, n2, n3, n4⟩ := new i i0 i1
        rw [f1, f2, mnew (M + i) (by omega) (by omega), mnew (M + i) (by omega) (by omega), if_neg (by decide), if_neg (by decide), x]
        refine ⟨fun _ => ⟨ew _ _ (Or.inl ⟨Or.inl ⟨rfl, fun k k0 k1 q => ?_⟩, fun k k0 k1 q => ?_⟩), fun w => absurd rfl w⟩, fun w => by omega⟩
        · exact n2 (q ▸ (J.2.2.2.2.2.2.2.2.2.2.2.2.2.2.1 k k0 k1).1)
        · rcases (J.2.2.2.2.2.2.2.2.1 k k0 (by omega)).1 with w | w
          · rw [w] at q; omega
          · exact n2 (q ▸ w)
      · have x := (R.xt t q t0 t1 i0 (by omega)).1 (by omega)
        have ho := old _ (act t q t0 (by omega) i0 (by omega))
        rw [f1, f2, mold q i0 i1, e44, ho, if_neg (by omega)]
        exact ⟨fun _ => ⟨ew _ _ x.1, x.2⟩, fun w => by omega⟩
      · have x := (R.xt t p t0 t1 q0 q1).2 (by omega)
        rw [f2, mspr p f1 q1]
        exact ⟨fun w => by omega, fun _ => x⟩
    · rw [e18, e105, if_neg z, if_neg z, if_neg z]
      have y0 := oth t p t0 (by omega) z q0 q1 0 (by decide)
      rw [Nat.add_zero] at y0
      rw [y0]
      have x := R.xt t p t0 t1 q0 q1
      unfold FSta at x
      refine ⟨fun w => ?_, x.2⟩
      rw [e44, old _ (act t p t0 (by omega) q0 w), if_neg (by omega)]
      exact ⟨ew _ _ (x.1 w).1, (x.1 w).2⟩
  have xi : RCi B h' := by
    intro t p t0 t1 q0 q1
    rw [e 16 (by decide)] at t1
    unfold FImg
    rw [e17, e 34 (by decide), pN_of (e 100 (by decide))]
    by_cases z : t = s
    · subst z
      rw [if_pos rfl]
      rcases cs p q0 q1 with ⟨i, i0, i1, i2, f1, f2⟩ | ⟨q, i0, i1, i2, f1, f2⟩ | ⟨f1, f2⟩
      · have x := (R.xi t (M + i) t0 t1 (by omega) (by omega)).2 (by omega)
        obtain ⟨n1, n2, n3, n4⟩ := new i i0 i1
        rw [f1, f2, mnew (M + i) (by omega) (by omega), if_neg (by decide), x, e32, n1, if_pos (by omega)]
        exact ⟨fun _ => ⟨fun _ => rfl, fun w => absurd rfl w⟩, fun w => by omega⟩
      · have gg := g6 t q t0 (by omega) i0 (by omega)
        have x := (R.xi t q t0 t1 i0 (by omega)).1 (by omega)
        have ho := old _ (act t q t0 (by omega) i0 (by omega))
        rw [f1, f2, mold q i0 i1, e32, ho, if_neg (by omega), mk _ gg.1 gg.2 4 (by decide) (by decide), mr t _ gg.1 gg.2 3 (by decide)]
        exact ⟨fun _ => x, fun w => by omega⟩
      · have x := (R.xi t p t0 t1 q0 q1).2 (by omega)
        rw [f2, mspr p f1 q1]
        exact ⟨fun w => by omega, fun _ => x⟩
    · have gg := g6 t p t0 (by omega) q0 q1
      rw [e18, e105, if_neg z, if_neg z, if_neg z]
      have y0 := oth t p t0 (by omega) z q0 q1 0 (by decide)
      rw [Nat.add_zero] at y0
      rw [y0, oth t p t0 (by omega) z q0 q1 4 (by decide), mr t _ gg.1 gg.2 3 (by decide)]
      have x := R.xi t p t0 t1 q0 q1
      unfold FImg at x
      refine ⟨fun w => ?_, x.2⟩
      rw [e32, old _ (act t p t0 (by omega) q0 w), if_neg (by omega)]
      exact x.1 w
  have efN : ∀ f, actv A f → fN B f = fN A f := fun f hf => by unfold fN; rw [e103, old f hf, if_neg (by omega)]
  have xm : RCm B h' := by
    obtain ⟨y1, y2, y3, y4, y5⟩ := R.xm
    have w16 := s9 16 (by omega)
    have w21 := s9 21 (by omega)
    have w22 := s9 22 (by omega)
    unfold RCm
    rw [w16.1, w16.2.2.1, w16.2.2.2, w21.1, w21.2.1, w21.2.2.2, w22.1, w22.2.1, w22.2.2.2, e 35 (by decide), e 36 (by decide), e 37 (by decide), e 38 (by decide), e 39 (by decide), e 40 (by decide), e 41 (by decide), e 42 (by decide), e 43 (by decide), e 45 (by decide), e 46 (by decide)]
    refine ⟨y1, y2, fun k k0 k1 => ?_, fun k k0 k1 => ?_, fun k k0 k1 => ?_⟩
    · have w := s9 (32000 + k.toNat) (by omega)
      have y := y3 k k0 k1
      rw [w.1, w.2.2.1, w.2.2.2]
      rcases (J.2.2.2.2.2.2.2.2.1 k k0 (by omega)).1 with x | x
      · rw [if_pos x] at y ⊢; exact y
      · rw [efN _ x]; exact y
    · rw [efN _ (J.2.2.2.2.2.2.2.2.2.2.2.2.2.2.1 k k0 k1).1]
      exact y4 k k0 k1
    · rw [(s9 (32000 + k.toNat) (by omega)).1]; exact y5 k k0 k1
  have x32 : ∀ f, 0 ≤ f → f < 80 → B 32 f 0 = A 32 f 0 := fun f f0 f1 => by
    rw [e32]
    by_cases w : gpos g m.toNat f = -1
    · rw [if_neg (fun q => q w)]
    · rw [if_pos w]
      by_cases x : A 32 f 0 = -1
      · rw [x]
      · exact absurd (old f ((F f f0 f1).2.2.2.2.1 x).1) w
  have xu : RCu B h' := by
    have : ∀ n : Nat, n ≤ 80 → lft B n = lft A n := fun n => by
      induction n with
      | zero => intro _; rfl
      | succ n ih => intro hn; rw [lft, lft, ih (by omega), x32 n (by omega) (by omega), e 33 (by decide)]
    unfold RCu
    rw [this 80 (by omega), (s9 16 (by omega)).2.2.1]; exact R.xu
  have xn : RCn B h' := by
    have y := R.xn
    unfold RCn at *
    rw [e 16 (by decide), e 47 (by decide), e 48 (by decide), e 49 (by decide), e 50 (by decide)]
    refine ⟨fun k k0 k1 => ?_, fun n n0 n1 => ?_⟩
    · have w := s9 (30000 + k.toNat) (by omega)
      rw [w.1, w.2.2.1, w.2.2.2]
      obtain ⟨m1, m2, m3, m4, m5⟩ := y.1 k k0 k1
      refine ⟨m1, m2, m3, fun v => ?_, fun v => ?_⟩
      · rcases (N.2.2.1 k k0 k1).2.2.2.1 with x | x
        · exact absurd x v
        · rw [e21, old _ x, if_neg (by omega)]; exact m4 v
      · obtain ⟨t, x0, x1, x2, x3, x4⟩ := m5 v
        refine ⟨t, x0, x1, x2, ?_, fun p q0 q1 => ?_⟩
        · rw [e20]
          by_cases z : t = s
          · rw [if_pos z]; rw [z] at x3; omega
          · rw [if_neg z]; exact x3
        · rw [e17] at q1
          by_cases z : t = s
          · subst z
            rw [if_pos rfl] at q1
            rcases cs p q0 (by omega) with ⟨i, i0, i1, i2, f1, f2⟩ | ⟨q, i0, i1, i2, f1, f2⟩ | ⟨f1, f2⟩
            · rw [f1, e21, (new i i0 i1).1, if_pos (by omega)]; omega
            · rw [f1, e21, old _ (act t q x0 (by omega) i0 (by omega)), if_neg (by omega)]; exact x4 q i0 (by omega)
            · omega
          · rw [if_neg z] at q1
            rw [e18, if_neg z, e21, old _ (act t p x0 (by omega) q0 q1), if_neg (by omega)]
            exact x4 p q0 q1
    · rw [(s9 n (by omega)).1]; exact y.2 n n0 n1
  exact ⟨R.1.of (E9 _ (by decide)) (fun n hn => s9 n (by omega)), R.xa.of (E9 _ (by decide)) (fun n n0 n1 => s9 n (by omega)), R.xv.of V9 D9 G9 (E9 _ (by decide)) (fun n n0 n1 => s9 n (by omega)), xs, xo, xk, xt, xi, xm, xu, R.xc.of (E9 _ (by decide)) (fun n hn => s9 n (by omega)) (fun n n0 n1 => ⟨(s9 n (by omega)).1, (s9 n (by omega)).2.1⟩), xn, R.xd.of a51 (E9 _ (by decide)) (fun n n0 n1 => s9 n (by omega))⟩
theorem Cmy_of {c : Int} {A : AS} (I : IvS c A) : Cmy A := ⟨fun t p t0 t1 q0 q1 => ⟨(I.2.2.2.2.2.1 t p t0 t1 q0 q1).1, (I.2.2.2.2.2.1 t p t0 t1 q0 q1).2.1⟩, fun f l f0 f1 l0 l1 => (I.2.2.2.2.2.2.2.2.2 f l f0 f1 l0 l1).1.elim Or.inl (fun w => Or.inr w.2), fun t t0 t1 => ⟨(I.2.2.1 t t0 t1).1, (I.2.2.1 t t0 t1).2.1⟩⟩
theorem Put.sx {h h' : Mh} {s N m pl nn : Int} {A : AS} (U : Put h h' (sN s) N m pl nn (fun p => cN s (A 105 s p))) : Sx h h' := fun n n2 nr => by
  obtain ⟨u1, u2, u3, u4, u5, u6, u7⟩ := U
  have hc : ∀ k, cN s k = 20010 + 200 * s.toNat + 10 * k.toNat := fun k => rfl
  have hb : sN s = 20000 + 200 * s.toNat := rfl
  exact ⟨by rw [u1], by rw [u2], u5 n (by omega) (fun p q0 q1 => by show n ≠ cN s (A 105 s p); rw [hc]; omega), u3 n (by omega) (by omega)⟩
theorem xo_insert {d : Nat} (hd : 14 ≤ d) {c : Int} {A : AS} {h : Mh} {P : Out → Mh → Prop} {s p m : Int} (hc : 0 ≤ c ∧ c ≤ 600) (R : RC A h) (T : Stx A) (I : IvS c A) (F : IvF A) (J : IvM c A) (N : IvN A) (H0 : th_insert A s p m = 0 → ∀ h', Sx h h' → (∀ g, newF A s m g → RC (nx_insert A s p m g) h') → P (.inl (some (pI (A 17 s 0 + m)))) h') (H1 : th_insert A s p m = 1 → P (.inr eIx) h) (H2 : th_insert A s p m = 2 → P (.inr eIa) h) (H3 : th_insert A s p m = 3 → P (.inr eIs) h) : Ct kX_insert d [pR (some 2), pI s, pI p, pI m] h P := by
  have a16 := T.2.2.1
  refine eX_insert ?_
  by_cases hS : isS A s
  · have hs0 := hS.1
    have hs1 := hS.2
    have i3 := I.2.2.1 s hS.1 (by omega)
    have b0 := i3.1
    have b1 := i3.2.1
    have b3 := i3.2.2.1
    have b4 := i3.2.2.2.1
    have W := R.rowS T hS
    have k1 := W.1
    have k2 := W.2.2.2.2.2.2.2.1
    have k4 := (R.xs.1 s hS.1 hS.2).2.1.2.1
    by_cases hp : 0 ≤ p ∧ p ≤ A 17 s 0
    · by_cases hm : 1 ≤ m ∧ m ≤ 16
      · by_cases q : 16 < A 17 s 0 + m
        · have K9 := H3 (by unfold th_insert; rw [if_neg (fun w => w ⟨hS, hp⟩), if_neg (fun w => w hm), if_pos q])
          clear H0 H1 H2 H3 i3
          repeat' (first | (with_reducible refine And.intro ?_ ?_) | (with_reducible intro _) | (exact Nat.le_of_ble_eq_true rfl) | (refine bX_insert_0 _ _ _ _ _ ?_; simp only [o_const, o_null, o_lconst, o_iload, o_aload, o_istore, o_astore, o_iinc, o_iadd, o_isub, o_imul, o_idiv, o_irem, o_ineg, o_i2l, o_lcmp, o_dup, o_dup2, o_goto, o_max, o_min, o_objinit, o_icmplt, o_iflt, o_icmpge, o_ifge, o_icmpgt, o_ifgt, o_icmple, o_ifle, o_icmpeq, o_ifeq, o_icmpne, o_ifne, o_ifnull, o_ifnonnull, o_acmpeq, o_acmpne, o_tsw, tsw, o_getI, o_getR, o_putI, o_putZ, o_putR, o_iald, o_bald, o_lald, o_aald, o_iast, o_bast, o_last, o_aast, o_alen, o_new, o_newa, o_iret, o_zret, o_aret, o_vret, o_throw, o_call, o_callV, o_aft_v, o_aft_n, o_aft_x, o_up_e, lget, lset, all1, dr_some, List.take_succ_cons, List.take_zero, List.drop_succ_cons, List.drop_zero, List.reverse_cons, List.reverse_nil, List.nil_append, List.cons_append, List.length_cons, List.length_nil, List.take_nil, List.drop_nil, true_and, and_true, false_and, and_false, true_implies, implies_true, false_implies, ne_eq, not_true_eq_false, not_false_eq_true, reduceCtorEq, Option.some.injEq, if_true, if_false, ite_true, ite_false, Nat.zero_add, eq_self, okn_some, okn_none, forall_const, true_or, or_true, false_or, or_false, Option.map_some, Option.map_none, Kd_setI, Ln_setI, Mr_setI, Kd_setR, Ln_setR, Mi_setR, Int.reduceNatCast', Int.reduceNeg, Int.reduceAdd, Int.reduceSub, Int.reduceMul, Int.reduceEq, Int.reduceNe, Int.reduceLT, Int.reduceLE, Nat.reduceAdd, Nat.reduceSub, Nat.reduceLT, Nat.reduceLeDiff, Nat.reduceEqDiff, Mi_setI, k1, k2, rx1 R, rx2 R, rx3 R, rx4 R, rx5 R, rx6 R, rx7 R, rx8 R, rx9 R, rx10 R, rx11 R, rx12 R, rx13 R, rx14 R, rx15 R, rx16 R, rx17 R, rx18 R, rx19 R, rx20 R, rx21 R, rx22 R, rx23 R, rx24 R]) | (refine bX_insert_41 _ _ _ _ _ ?_; simp only [o_const, o_null, o_lconst, o_iload, o_aload, o_istore, o_astore, o_iinc, o_iadd, o_isub, o_imul, o_idiv, o_irem, o_ineg, o_i2l, o_lcmp, o_dup, o_dup2, o_goto, o_max, o_min, o_objinit, o_icmplt, o_iflt, o_icmpge, o_ifge, o_icmpgt, o_ifgt, o_icmple, o_ifle, o_icmpeq, o_ifeq, o_icmpne, o_ifne, o_ifnull, o_ifnonnull, o_acmpeq, o_acmpne, o_tsw, tsw, o_getI, o_getR, o_putI, o_putZ, o_putR, o_iald, o_bald, o_lald, o_aald, o_iast, o_bast, o_last, o_aast, o_alen, o_new, o_newa, o_iret, o_zret, o_aret, o_vret, o_throw, o_call, o_callV, o_aft_v, o_aft_n, o_aft_x, o_up_e, lget, lset, all1, dr_some, List.take_succ_cons, List.take_zero, List.drop_succ_cons, List.drop_zero, List.reverse_cons, List.reverse_nil, List.nil_append, List.cons_append, List.length_cons, List.length_nil, List.take_nil, List.drop_nil, true_and, and_true, false_and, and_false, true_implies, implies_true, false_implies, ne_eq, not_true_eq_false, not_false_eq_true, reduceCtorEq, Option.some.injEq, if_true, if_false, ite_true, ite_false, Nat.zero_add, eq_self, okn_some, okn_none, forall_const, true_or, or_true, false_or, or_false, Option.map_some, Option.map_none, Kd_setI, Ln_setI, Mr_setI, Kd_setR, Ln_setR, Mi_setR, Int.reduceNatCast', Int.reduceNeg, Int.reduceAdd, Int.reduceSub, Int.reduceMul, Int.reduceEq, Int.reduceNe, Int.reduceLT, Int.reduceLE, Nat.reduceAdd, Nat.reduceSub, Nat.reduceLT, Nat.reduceLeDiff, Nat.reduceEqDiff, Mi_setI, k1, k2, rx1 R, rx2 R, rx3 R, rx4 R, rx5 R, rx6 R, rx7 R, rx8 R, rx9 R, rx10 R, rx11 R, rx12 R, rx13 R, rx14 R, rx15 R, rx16 R, rx17 R, rx18 R, rx19 R, rx20 R, rx21 R, rx22 R, rx23 R, rx24 R]) | (refine bX_insert_42 _ _ _ _ _ ?_; simp only [o_const, o_null, o_lconst, o_iload, o_aload, o_istore, o_astore, o_iinc, o_iadd, o_isub, o_imul, o_idiv, o_irem, o_ineg, o_i2l, o_lcmp, o_dup, o_dup2, o_goto, o_max, o_min, o_objinit, o_icmplt, o_iflt, o_icmpge, o_ifge, o_icmpgt, o_ifgt, o_icmple, o_ifle, o_icmpeq, o_ifeq, o_icmpne, o_ifne, o_ifnull, o_ifnonnull, o_acmpeq, o_acmpne, o_tsw, tsw, o_getI, o_getR, o_putI, o_putZ, o_putR, o_iald, o_bald, o_lald, o_aald, o_iast, o_bast, o_last, o_aast, o_alen, o_new, o_newa, o_iret, o_zret, o_aret, o_vret, o_throw, o_call, o_callV, o_aft_v, o_aft_n, o_aft_x, o_up_e, lget, lset, all1, dr_some, List.take_succ_cons, List.take_zero, List.drop_succ_cons, List.drop_zero, List.reverse_cons, List.reverse_nil, List.nil_append, List.cons_append, List.length_cons, List.length_nil, List.take_nil, List.drop_nil, true_and, and_true, false_and, and_false, true_implies, implies_true, false_implies, ne_eq, not_true_eq_false, not_false_eq_true, reduceCtorEq, Option.some.injEq, if_true, if_false, ite_true, ite_false, Nat.zero_add, eq_self, okn_some, okn_none, forall_const, true_or, or_true, false_or, or_false, Option.map_some, Option.map_none, Kd_setI, Ln_setI, Mr_setI, Kd_setR, Ln_setR, Mi_setR, Int.reduceNatCast', Int.reduceNeg, Int.reduceAdd, Int.reduceSub, Int.reduceMul, Int.reduceEq, Int.reduceNe, Int.reduceLT, Int.reduceLE, Nat.reduceAdd, Nat.reduceSub, Nat.reduceLT, Nat.reduceLeDiff, Nat.reduceEqDiff, Mi_setI, k1, k2, rx1 R, rx2 R, rx3 R, rx4 R, rx5 R, rx6 R, rx7 R, rx8 R, rx9 R, rx10 R, rx11 R, rx12 R, rx13 R, rx14 R, rx15 R, rx16 R, rx17 R, rx18 R, rx19 R, rx20 R, rx21 R, rx22 R, rx23 R, rx24 R]) | (refine c_X_shotAt (by omega) R a16 (fun z9 => ?_) (fun z9 => absurd hS z9)) | (refine c_X_requireIndex (by omega) (fun z9 => ?_) (fun z9 => (by omega : False).elim)) | (refine c_X_requireRange (by omega) (fun z9 => ?_) (fun z9 => (by omega : False).elim)) | (refine c_X_requireState (by omega) (fun z9 => absurd rfl z9) (fun z9 => ?_)) | (simp only [o_const, o_null, o_lconst, o_iload, o_aload, o_istore, o_astore, o_iinc, o_iadd, o_isub, o_imul, o_idiv, o_irem, o_ineg, o_i2l, o_lcmp, o_dup, o_dup2, o_goto, o_max, o_min, o_objinit, o_icmplt, o_iflt, o_icmpge, o_ifge, o_icmpgt, o_ifgt, o_icmple, o_ifle, o_icmpeq, o_ifeq, o_icmpne, o_ifne, o_ifnull, o_ifnonnull, o_acmpeq, o_acmpne, o_tsw, tsw, o_getI, o_getR, o_putI, o_putZ, o_putR, o_iald, o_bald, o_lald, o_aald, o_iast, o_bast, o_last, o_aast, o_alen, o_new, o_newa, o_iret, o_zret, o_aret, o_vret, o_throw, o_call, o_callV, o_aft_v, o_aft_n, o_aft_x, o_up_e, lget, lset, all1, dr_some, List.take_succ_cons, List.take_zero, List.drop_succ_cons, List.drop_zero, List.reverse_cons, List.reverse_nil, List.nil_append, List.cons_append, List.length_cons, List.length_nil, List.take_nil, List.drop_nil, true_and, and_true, false_and, and_false, true_implies, implies_true, false_implies, ne_eq, not_true_eq_false, not_false_eq_true, reduceCtorEq, Option.some.injEq, if_true, if_false, ite_true, ite_false, Nat.zero_add, eq_self, okn_some, okn_none, forall_const, true_or, or_true, false_or, or_false, Option.map_some, Option.map_none, Kd_setI, Ln_setI, Mr_setI, Kd_setR, Ln_setR, Mi_setR, Int.reduceNatCast', Int.reduceNeg, Int.reduceAdd, Int.reduceSub, Int.reduceMul, Int.reduceEq, Int.reduceNe, Int.reduceLT, Int.reduceLE, Nat.reduceAdd, Nat.reduceSub, Nat.reduceLT, Nat.reduceLeDiff, Nat.reduceEqDiff, Mi_setI, k1, k2, rx1 R, rx2 R, rx3 R, rx4 R, rx5 R, rx6 R, rx7 R, rx8 R, rx9 R, rx10 R, rx11 R, rx12 R, rx13 R, rx14 R, rx15 R, rx16 R, rx17 R, rx18 R, rx19 R, rx20 R, rx21 R, rx22 R, rx23 R, rx24 R]) | (unfold rng; omega) | omega)
          all_goals first | exact K9 | (exfalso; omega) | done
        · have e : th_insert A s p m = 0 := by unfold th_insert; rw [if_neg (fun w => w ⟨hS, hp⟩), if_neg (fun w => w hm), if_neg q]
          have G6 := T.2.2.2.2.2.2.2.2.2.2.2.1
          have G9 := T.2.2.2.2.2.2
          have hcn : ∀ k, cN s k = 20010 + 200 * s.toNat + 10 * k.toNat := fun k => rfl
          have hb : sN s = 20000 + 200 * s.toNat := rfl
          have K9 : ∀ h', Put h h' (sN s) (A 17 s 0) m p (A 20 s 0) (fun p => cN s (A 105 s p)) → P (.inl (some (pI (A 17 s 0 + m)))) h' ∧ Kd h' (sN s) = 9 ∧ Mi h' (sN s) 3 = A 17 s 0 + m := fun h' U => ⟨H0 e h' (U.sx (A := A)) (fun g nf => by
            unfold nx_insert; rw [if_pos e]
            exact R.comes T (Cmy_of I) F J N hS nf hp.1 hp.2 hm.1 (by omega) U), by rw [U.1]; exact k1, by rw [U.2.2.2.2.2.1, if_neg (by decide), if_neg (by decide), if_pos rfl]⟩
          have KP := fun (Q : Out → Mh → Prop) (HH) => c_Sh_putFrames (d := d - 1) (by omega) (h := h) (P := Q) (pl := p) (m := m) W k4 (fun p q0 q1 => by show cN s (A 105 s p) ≠ _; rw [hcn]; omega) (fun p q q0 q1 q2 q3 hne => by
            show cN s (A 105 s p) ≠ cN s (A 105 s q)
            have := cN_ne G9 (s := s) (t := s) (p := q) (q := p) hs0 (by omega) hs0 (by omega) q2 q3 q0 q1 (fun w => hne w.2)
            omega) b0 hp.1 hp.2 (by omega) (by omega) b3 (by omega) HH
          obtain ⟨hp0, hp1⟩ := hp
          obtain ⟨hm0, hm1⟩ := hm
          clear H0 H1 H2 H3 i3 hcn
          repeat' (first | (with_reducible refine And.intro ?_ ?_) | (with_reducible intro _) | (exact Nat.le_of_ble_eq_true rfl) | (refine bX_insert_0 _ _ _ _ _ ?_; simp only [o_const, o_null, o_lconst, o_iload, o_aload, o_istore, o_astore, o_iinc, o_iadd, o_isub, o_imul, o_idiv, o_irem, o_ineg, o_i2l, o_lcmp, o_dup, o_dup2, o_goto, o_max, o_min, o_objinit, o_icmplt, o_iflt, o_icmpge, o_ifge, o_icmpgt, o_ifgt, o_icmple, o_ifle, o_icmpeq, o_ifeq, o_icmpne, o_ifne, o_ifnull, o_ifnonnull, o_acmpeq, o_acmpne, o_tsw, tsw, o_getI, o_getR, o_putI, o_putZ, o_putR, o_iald, o_bald, o_lald, o_aald, o_iast, o_bast, o_last, o_aast, o_alen, o_new, o_newa, o_iret, o_zret, o_aret, o_vret, o_throw, o_call, o_callV, o_aft_v, o_aft_n, o_aft_x, o_up_e, lget, lset, all1, dr_some, List.take_succ_cons, List.take_zero, List.drop_succ_cons, List.drop_zero, List.reverse_cons, List.reverse_nil, List.nil_append, List.cons_append, List.length_cons, List.length_nil, List.take_nil, List.drop_nil, true_and, and_true, false_and, and_false, true_implies, implies_true, false_implies, ne_eq, not_true_eq_false, not_false_eq_true, reduceCtorEq, Option.some.injEq, if_true, if_false, ite_true, ite_false, Nat.zero_add, eq_self, okn_some, okn_none, forall_const, true_or, or_true, false_or, or_false, Option.map_some, Option.map_none, Kd_setI, Ln_setI, Mr_setI, Kd_setR, Ln_setR, Mi_setR, Int.reduceNatCast', Int.reduceNeg, Int.reduceAdd, Int.reduceSub, Int.reduceMul, Int.reduceEq, Int.reduceNe, Int.reduceLT, Int.reduceLE, Nat.reduceAdd, Nat.reduceSub, Nat.reduceLT, Nat.reduceLeDiff, Nat.reduceEqDiff, Mi_setI, k1, k2, rx1 R, rx2 R, rx3 R, rx4 R, rx5 R, rx6 R, rx7 R, rx8 R, rx9 R, rx10 R, rx11 R, rx12 R, rx13 R, rx14 R, rx15 R, rx16 R, rx17 R, rx18 R, rx19 R, rx20 R, rx21 R, rx22 R, rx23 R, rx24 R]) | (refine bX_insert_41 _ _ _ _ _ ?_; simp only [o_const, o_null, o_lconst, o_iload, o_aload, o_istore, o_astore, o_iinc, o_iadd, o_isub, o_imul, o_idiv, o_irem, o_ineg, o_i2l, o_lcmp, o_dup, o_dup2, o_goto, o_max, o_min, o_objinit, o_icmplt, o_iflt, o_icmpge, o_ifge, o_icmpgt, o_ifgt, o_icmple, o_ifle, o_icmpeq, o_ifeq, o_icmpne, o_ifne, o_ifnull, o_ifnonnull, o_acmpeq, o_acmpne, o_tsw, tsw, o_getI, o_getR, o_putI, o_putZ, o_putR, o_iald, o_bald, o_lald, o_aald, o_iast, o_bast, o_last, o_aast, o_alen, o_new, o_newa, o_iret, o_zret, o_aret, o_vret, o_throw, o_call, o_callV, o_aft_v, o_aft_n, o_aft_x, o_up_e, lget, lset, all1, dr_some, List.take_succ_cons, List.take_zero, List.drop_succ_cons, List.drop_zero, List.reverse_cons, List.reverse_nil, List.nil_append, List.cons_append, List.length_cons, List.length_nil, List.take_nil, List.drop_nil, true_and, and_true, false_and, and_false, true_implies, implies_true, false_implies, ne_eq, not_true_eq_false, not_false_eq_true, reduceCtorEq, Option.some.injEq, if_true, if_false, ite_true, ite_false, Nat.zero_add, eq_self, okn_some, okn_none, forall_const, true_or, or_true, false_or, or_false, Option.map_some, Option.map_none, Kd_setI, Ln_setI, Mr_setI, Kd_setR, Ln_setR, Mi_setR, Int.reduceNatCast', Int.reduceNeg, Int.reduceAdd, Int.reduceSub, Int.reduceMul, Int.reduceEq, Int.reduceNe, Int.reduceLT, Int.reduceLE, Nat.reduceAdd, Nat.reduceSub, Nat.reduceLT, Nat.reduceLeDiff, Nat.reduceEqDiff, Mi_setI, k1, k2, rx1 R, rx2 R, rx3 R, rx4 R, rx5 R, rx6 R, rx7 R, rx8 R, rx9 R, rx10 R, rx11 R, rx12 R, rx13 R, rx14 R, rx15 R, rx16 R, rx17 R, rx18 R, rx19 R, rx20 R, rx21 R, rx22 R, rx23 R, rx24 R]) | (refine bX_insert_42 _ _ _ _ _ ?_; simp only [o_const, o_null, o_lconst, o_iload, o_aload, o_istore, o_astore, o_iinc, o_iadd, o_isub, o_imul, o_idiv, o_irem, o_ineg, o_i2l, o_lcmp, o_dup, o_dup2, o_goto, o_max, o_min, o_objinit, o_icmplt, o_iflt, o_icmpge, o_ifge, o_icmpgt, o_ifgt, o_icmple, o_ifle, o_icmpeq, o_ifeq, o_icmpne, o_ifne, o_ifnull, o_ifnonnull, o_acmpeq, o_acmpne, o_tsw, tsw, o_getI, o_getR, o_putI, o_putZ, o_putR, o_iald, o_bald, o_lald, o_aald, o_iast, o_bast, o_last, o_aast, o_alen, o_new, o_newa, o_iret, o_zret, o_aret, o_vret, o_throw, o_call, o_callV, o_aft_v, o_aft_n, o_aft_x, o_up_e, lget, lset, all1, dr_some, List.take_succ_cons, List.take_zero, List.drop_succ_cons, List.drop_zero, List.reverse_cons, List.reverse_nil, List.nil_append, List.cons_append, List.length_cons, List.length_nil, List.take_nil, List.drop_nil, true_and, and_true, false_and, and_false, true_implies, implies_true, false_implies, ne_eq, not_true_eq_false, not_false_eq_true, reduceCtorEq, Option.some.injEq, if_true, if_false, ite_true, ite_false, Nat.zero_add, eq_self, okn_some, okn_none, forall_const, true_or, or_true, false_or, or_false, Option.map_some, Option.map_none, Kd_setI, Ln_setI, Mr_setI, Kd_setR, Ln_setR, Mi_setR, Int.reduceNatCast', Int.reduceNeg, Int.reduceAdd, Int.reduceSub, Int.reduceMul, Int.reduceEq, Int.reduceNe, Int.reduceLT, Int.reduceLE, Nat.reduceAdd, Nat.reduceSub, Nat.reduceLT, Nat.reduceLeDiff, Nat.reduceEqDiff, Mi_setI, k1, k2, rx1 R, rx2 R, rx3 R, rx4 R, rx5 R, rx6 R, rx7 R, rx8 R, rx9 R, rx10 R, rx11 R, rx12 R, rx13 R, rx14 R, rx15 R, rx16 R, rx17 R, rx18 R, rx19 R, rx20 R, rx21 R, rx22 R, rx23 R, rx24 R]) | (refine c_X_shotAt (by omega) R a16 (fun z9 => ?_) (fun z9 => absurd hS z9)) | (refine c_X_requireIndex (by omega) (fun z9 => ?_) (fun z9 => (by omega : False).elim)) | (refine c_X_requireRange (by omega) (fun z9 => ?_) (fun z9 => (by omega : False).elim)) | (refine c_X_requireState (by omega) (fun z9 => ?_) (fun z9 => absurd z9 (by decide))) | (refine KP _ (fun h' U => ?_)) | (simp only [o_const, o_null, o_lconst, o_iload, o_aload, o_istore, o_astore, o_iinc, o_iadd, o_isub, o_imul, o_idiv, o_irem, o_ineg, o_i2l, o_lcmp, o_dup, o_dup2, o_goto, o_max, o_min, o_objinit, o_icmplt, o_iflt, o_icmpge, o_ifge, o_icmpgt, o_ifgt, o_icmple, o_ifle, o_icmpeq, o_ifeq, o_icmpne, o_ifne, o_ifnull, o_ifnonnull, o_acmpeq, o_acmpne, o_tsw, tsw, o_getI, o_getR, o_putI, o_putZ, o_putR, o_iald, o_bald, o_lald, o_aald, o_iast, o_bast, o_last, o_aast, o_alen, o_new, o_newa, o_iret, o_zret, o_aret, o_vret, o_throw, o_call, o_callV, o_aft_v, o_aft_n, o_aft_x, o_up_e, lget, lset, all1, dr_some, List.take_succ_cons, List.take_zero, List.drop_succ_cons, List.drop_zero, List.reverse_cons, List.reverse_nil, List.nil_append, List.cons_append, List.length_cons, List.length_nil, List.take_nil, List.drop_nil, true_and, and_true, false_and, and_false, true_implies, implies_true, false_implies, ne_eq, not_true_eq_false, not_false_eq_true, reduceCtorEq, Option.some.injEq, if_true, if_false, ite_true, ite_false, Nat.zero_add, eq_self, okn_some, okn_none, forall_const, true_or, or_true, false_or, or_false, Option.map_some, Option.map_none, Kd_setI, Ln_setI, Mr_setI, Kd_setR, Ln_setR, Mi_setR, Int.reduceNatCast', Int.reduceNeg, Int.reduceAdd, Int.reduceSub, Int.reduceMul, Int.reduceEq, Int.reduceNe, Int.reduceLT, Int.reduceLE, Nat.reduceAdd, Nat.reduceSub, Nat.reduceLT, Nat.reduceLeDiff, Nat.reduceEqDiff, Mi_setI, k1, k2, rx1 R, rx2 R, rx3 R, rx4 R, rx5 R, rx6 R, rx7 R, rx8 R, rx9 R, rx10 R, rx11 R, rx12 R, rx13 R, rx14 R, rx15 R, rx16 R, rx17 R, rx18 R, rx19 R, rx20 R, rx21 R, rx22 R, rx23 R, rx24 R]) | (unfold rng; omega) | omega)
          all_goals try (obtain ⟨y1, y2, y3⟩ := K9 h' U)
          all_goals try repeat' (first | (with_reducible refine And.intro ?_ ?_) | (with_reducible intro _) | (exact Nat.le_of_ble_eq_true rfl) | (refine bX_insert_0 _ _ _ _ _ ?_; simp only [o_const, o_null, o_lconst, o_iload, o_aload, o_istore, o_astore, o_iinc, o_iadd, o_isub, o_imul, o_idiv, o_irem, o_ineg, o_i2l, o_lcmp, o_dup, o_dup2, o_goto, o_max, o_min, o_objinit, o_icmplt, o_iflt, o_icmpge, o_ifge, o_icmpgt, o_ifgt, o_icmple, o_ifle, o_icmpeq, o_ifeq, o_icmpne, o_ifne, o_ifnull, o_ifnonnull, o_acmpeq, o_acmpne, o_tsw, tsw, o_getI, o_getR, o_putI, o_putZ, o_putR, o_iald, o_bald, o_lald, o_aald, o_iast, o_bast, o_last, o_aast, o_alen, o_new, o_newa, o_iret, o_zret, o_aret, o_vret, o_throw, o_call, o_callV, o_aft_v, o_aft_n, o_aft_x, o_up_e, lget, lset, all1, dr_some, List.take_succ_cons, List.take_zero, List.drop_succ_cons, List.drop_zero, List.reverse_cons, List.reverse_nil, List.nil_append, List.cons_append, List.length_cons, List.length_nil, List.take_nil, List.drop_nil, true_and, and_true, false_and, and_false, true_implies, implies_true, false_implies, ne_eq, not_true_eq_false, not_false_eq_true, reduceCtorEq, Option.some.injEq, if_true, if_false, ite_true, ite_false, Nat.zero_add, eq_self, okn_some, okn_none, forall_const, true_or, or_true, false_or, or_false, Option.map_some, Option.map_none, Kd_setI, Ln_setI, Mr_setI, Kd_setR, Ln_setR, Mi_setR, Int.reduceNatCast', Int.reduceNeg, Int.reduceAdd, Int.reduceSub, Int.reduceMul, Int.reduceEq, Int.reduceNe, Int.reduceLT, Int.reduceLE, Nat.reduceAdd, Nat.reduceSub, Nat.reduceLT, Nat.reduceLeDiff, Nat.reduceEqDiff, Mi_setI, y2, y3, rx1 R, rx2 R, rx3 R, rx4 R, rx5 R, rx6 R, rx7 R, rx8 R, rx9 R, rx10 R, rx11 R, rx12 R, rx13 R, rx14 R, rx15 R, rx16 R, rx17 R, rx18 R, rx19 R, rx20 R, rx21 R, rx22 R, rx23 R, rx24 R]) | (refine bX_insert_41 _ _ _ _ _ ?_; simp only [o_const, o_null, o_lconst, o_iload, o_aload, o_istore, o_astore, o_iinc, o_iadd, o_isub, o_imul, o_idiv, o_irem, o_ineg, o_i2l, o_lcmp, o_dup, o_dup2, o_goto, o_max, o_min, o_objinit, o_icmplt, o_iflt, o_icmpge, o_ifge, o_icmpgt, o_ifgt, o_icmple, o_ifle, o_icmpeq, o_ifeq, o_icmpne, o_ifne, o_ifnull, o_ifnonnull, o_acmpeq, o_acmpne, o_tsw, tsw, o_getI, o_getR, o_putI, o_putZ, o_putR, o_iald, o_bald, o_lald, o_aald, o_iast, o_bast, o_last, o_aast, o_alen, o_new, o_newa, o_iret, o_zret, o_aret, o_vret, o_throw, o_call, o_callV, o_aft_v, o_aft_n, o_aft_x, o_up_e, lget, lset, all1, dr_some, List.take_succ_cons, List.take_zero, List.drop_succ_cons, List.drop_zero, List.reverse_cons, List.reverse_nil, List.nil_append, List.cons_append, List.length_cons, List.length_nil, List.take_nil, List.drop_nil, true_and, and_true, false_and, and_false, true_implies, implies_true, false_implies, ne_eq, not_true_eq_false, not_false_eq_true, reduceCtorEq, Option.some.injEq, if_true, if_false, ite_true, ite_false, Nat.zero_add, eq_self, okn_some, okn_none, forall_const, true_or, or_true, false_or, or_false, Option.map_some, Option.map_none, Kd_setI, Ln_setI, Mr_setI, Kd_setR, Ln_setR, Mi_setR, Int.reduceNatCast', Int.reduceNeg, Int.reduceAdd, Int.reduceSub, Int.reduceMul, Int.reduceEq, Int.reduceNe, Int.reduceLT, Int.reduceLE, Nat.reduceAdd, Nat.reduceSub, Nat.reduceLT, Nat.reduceLeDiff, Nat.reduceEqDiff, Mi_setI, y2, y3, rx1 R, rx2 R, rx3 R, rx4 R, rx5 R, rx6 R, rx7 R, rx8 R, rx9 R, rx10 R, rx11 R, rx12 R, rx13 R, rx14 R, rx15 R, rx16 R, rx17 R, rx18 R, rx19 R, rx20 R, rx21 R, rx22 R, rx23 R, rx24 R]) | (refine bX_insert_42 _ _ _ _ _ ?_; simp only [o_const, o_null, o_lconst, o_iload, o_aload, o_istore, o_astore, o_iinc, o_iadd, o_isub, o_imul, o_idiv, o_irem, o_ineg, o_i2l, o_lcmp, o_dup, o_dup2, o_goto, o_max, o_min, o_objinit, o_icmplt, o_iflt, o_icmpge, o_ifge, o_icmpgt, o_ifgt, o_icmple, o_ifle, o_icmpeq, o_ifeq, o_icmpne, o_ifne, o_ifnull, o_ifnonnull, o_acmpeq, o_acmpne, o_tsw, tsw, o_getI, o_getR, o_putI, o_putZ, o_putR, o_iald, o_bald, o_lald, o_aald, o_iast, o_bast, o_last, o_aast, o_alen, o_new, o_newa, o_iret, o_zret, o_aret, o_vret, o_throw, o_call, o_callV, o_aft_v, o_aft_n, o_aft_x, o_up_e, lget, lset, all1, dr_some, List.take_succ_cons, List.take_zero, List.drop_succ_cons, List.drop_zero, List.reverse_cons, List.reverse_nil, List.nil_append, List.cons_append, List.length_cons, List.length_nil, List.take_nil, List.drop_nil, true_and, and_true, false_and, and_false, true_implies, implies_true, false_implies, ne_eq, not_true_eq_false, not_false_eq_true, reduceCtorEq, Option.some.injEq, if_true, if_false, ite_true, ite_false, Nat.zero_add, eq_self, okn_some, okn_none, forall_const, true_or, or_true, false_or, or_false, Option.map_some, Option.map_none, Kd_setI, Ln_setI, Mr_setI, Kd_setR, Ln_setR, Mi_setR, Int.reduceNatCast', Int.reduceNeg, Int.reduceAdd, Int.reduceSub, Int.reduceMul, Int.reduceEq, Int.reduceNe, Int.reduceLT, Int.reduceLE, Nat.reduceAdd, Nat.reduceSub, Nat.reduceLT, Nat.reduceLeDiff, Nat.reduceEqDiff, Mi_setI, y2, y3, rx1 R, rx2 R, rx3 R, rx4 R, rx5 R, rx6 R, rx7 R, rx8 R, rx9 R, rx10 R, rx11 R, rx12 R, rx13 R, rx14 R, rx15 R, rx16 R, rx17 R, rx18 R, rx19 R, rx20 R, rx21 R, rx22 R, rx23 R, rx24 R]) | (simp only [o_const, o_null, o_lconst, o_iload, o_aload, o_istore, o_astore, o_iinc, o_iadd, o_isub, o_imul, o_idiv, o_irem, o_ineg, o_i2l, o_lcmp, o_dup, o_dup2, o_goto, o_max, o_min, o_objinit, o_icmplt, o_iflt, o_icmpge, o_ifge, o_icmpgt, o_ifgt, o_icmple, o_ifle, o_icmpeq, o_ifeq, o_icmpne, o_ifne, o_ifnull, o_ifnonnull, o_acmpeq, o_acmpne, o_tsw, tsw, o_getI, o_getR, o_putI, o_putZ, o_putR, o_iald, o_bald, o_lald, o_aald, o_iast, o_bast, o_last, o_aast, o_alen, o_new, o_newa, o_iret, o_zret, o_aret, o_vret, o_throw, o_call, o_callV, o_aft_v, o_aft_n, o_aft_x, o_up_e, lget, lset, all1, dr_some, List.take_succ_cons, List.take_zero, List.drop_succ_cons, List.drop_zero, List.reverse_cons, List.reverse_nil, List.nil_append, List.cons_append, List.length_cons, List.length_nil, List.take_nil, List.drop_nil, true_and, and_true, false_and, and_false, true_implies, implies_true, false_implies, ne_eq, not_true_eq_false, not_false_eq_true, reduceCtorEq, Option.some.injEq, if_true, if_false, ite_true, ite_false, Nat.zero_add, eq_self, okn_some, okn_none, forall_const, true_or, or_true, false_or, or_false, Option.map_some, Option.map_none, Kd_setI, Ln_setI, Mr_setI, Kd_setR, Ln_setR, Mi_setR, Int.reduceNatCast', Int.reduceNeg, Int.reduceAdd, Int.reduceSub, Int.reduceMul, Int.reduceEq, Int.reduceNe, Int.reduceLT, Int.reduceLE, Nat.reduceAdd, Nat.reduceSub, Nat.reduceLT, Nat.reduceLeDiff, Nat.reduceEqDiff, Mi_setI, y2, y3, rx1 R, rx2 R, rx3 R, rx4 R, rx5 R, rx6 R, rx7 R, rx8 R, rx9 R, rx10 R, rx11 R, rx12 R, rx13 R, rx14 R, rx15 R, rx16 R, rx17 R, rx18 R, rx19 R, rx20 R, rx21 R, rx22 R, rx23 R, rx24 R]) | (unfold rng; omega) | omega)
          all_goals first | exact y1 | (exfalso; omega) | done
      · have K9 := H2 (by unfold th_insert; rw [if_neg (fun w => w ⟨hS, hp⟩), if_pos hm])
        clear H0 H1 H2 H3 i3
        repeat' (first | (with_reducible refine And.intro ?_ ?_) | (with_reducible intro _) | (exact Nat.le_of_ble_eq_true rfl) | (refine bX_insert_0 _ _ _ _ _ ?_; simp only [o_const, o_null, o_lconst, o_iload, o_aload, o_istore, o_astore, o_iinc, o_iadd, o_isub, o_imul, o_idiv, o_irem, o_ineg, o_i2l, o_lcmp, o_dup, o_dup2, o_goto, o_max, o_min, o_objinit, o_icmplt, o_iflt, o_icmpge, o_ifge, o_icmpgt, o_ifgt, o_icmple, o_ifle, o_icmpeq, o_ifeq, o_icmpne, o_ifne, o_ifnull, o_ifnonnull, o_acmpeq, o_acmpne, o_tsw, tsw, o_getI, o_getR, o_putI, o_putZ, o_putR, o_iald, o_bald, o_lald, o_aald, o_iast, o_bast, o_last, o_aast, o_alen, o_new, o_newa, o_iret, o_zret, o_aret, o_vret, o_throw, o_call, o_callV, o_aft_v, o_aft_n, o_aft_x, o_up_e, lget, lset, all1, dr_some, List.take_succ_cons, List.take_zero, List.drop_succ_cons, List.drop_zero, List.reverse_cons, List.reverse_nil, List.nil_append, List.cons_append, List.length_cons, List.length_nil, List.take_nil, List.drop_nil, true_and, and_true, false_and, and_false, true_implies, implies_true, false_implies, ne_eq, not_true_eq_false, not_false_eq_true, reduceCtorEq, Option.some.injEq, if_true, if_false, ite_true, ite_false, Nat.zero_add, eq_self, okn_some, okn_none, forall_const, true_or, or_true, false_or, or_false, Option.map_some, Option.map_none, Kd_setI, Ln_setI, Mr_setI, Kd_setR, Ln_setR, Mi_setR, Int.reduceNatCast', Int.reduceNeg, Int.reduceAdd, Int.reduceSub, Int.reduceMul, Int.reduceEq, Int.reduceNe, Int.reduceLT, Int.reduceLE, Nat.reduceAdd, Nat.reduceSub, Nat.reduceLT, Nat.reduceLeDiff, Nat.reduceEqDiff, Mi_setI, k1, k2, rx1 R, rx2 R, rx3 R, rx4 R, rx5 R, rx6 R, rx7 R, rx8 R, rx9 R, rx10 R, rx11 R, rx12 R, rx13 R, rx14 R, rx15 R, rx16 R, rx17 R, rx18 R, rx19 R, rx20 R, rx21 R, rx22 R, rx23 R, rx24 R]) | (refine bX_insert_41 _ _ _ _ _ ?_; simp only [o_const, o_null, o_lconst, o_iload, o_aload, o_istore, o_astore, o_iinc, o_iadd, o_isub, o_imul, o_idiv, o_irem, o_ineg, o_i2l, o_lcmp, o_dup, o_dup2, o_goto, o_max, o_min, o_objinit, o_icmplt, o_iflt, o_icmpge, o_ifge, o_icmpgt, o_ifgt, o_icmple, o_ifle, o_icmpeq, o_ifeq, o_icmpne, o_ifne, o_ifnull, o_ifnonnull, o_acmpeq, o_acmpne, o_tsw, tsw, o_getI, o_getR, o_putI, o_putZ, o_putR, o_iald, o_bald, o_lald, o_aald, o_iast, o_bast, o_last, o_aast, o_alen, o_new, o_newa, o_iret, o_zret, o_aret, o_vret, o_throw, o_call, o_callV, o_aft_v, o_aft_n, o_aft_x, o_up_e, lget, lset, all1, dr_some, List.take_succ_cons, List.take_zero, List.drop_succ_cons, List.drop_zero, List.reverse_cons, List.reverse_nil, List.nil_append, List.cons_append, List.length_cons, List.length_nil, List.take_nil, List.drop_nil, true_and, and_true, false_and, and_false, true_implies, implies_true, false_implies, ne_eq, not_true_eq_false, not_false_eq_true, reduceCtorEq, Option.some.injEq, if_true, if_false, ite_true, ite_false, Nat.zero_add, eq_self, okn_some, okn_none, forall_const, true_or, or_true, false_or, or_false, Option.map_some, Option.map_none, Kd_setI, Ln_setI, Mr_setI, Kd_setR, Ln_setR, Mi_setR, Int.reduceNatCast', Int.reduceNeg, Int.reduceAdd, Int.reduceSub, Int.reduceMul, Int.reduceEq, Int.reduceNe, Int.reduceLT, Int.reduceLE, Nat.reduceAdd, Nat.reduceSub, Nat.reduceLT, Nat.reduceLeDiff, Nat.reduceEqDiff, Mi_setI, k1, k2, rx1 R, rx2 R, rx3 R, rx4 R, rx5 R, rx6 R, rx7 R, rx8 R, rx9 R, rx10 R, rx11 R, rx12 R, rx13 R, rx14 R, rx15 R, rx16 R, rx17 R, rx18 R, rx19 R, rx20 R, rx21 R, rx22 R, rx23 R, rx24 R]) | (refine bX_insert_42 _ _ _ _ _ ?_; simp only [o_const, o_null, o_lconst, o_iload, o_aload, o_istore, o_astore, o_iinc, o_iadd, o_isub, o_imul, o_idiv, o_irem, o_ineg, o_i2l, o_lcmp, o_dup, o_dup2, o_goto, o_max, o_min, o_objinit, o_icmplt, o_iflt, o_icmpge, o_ifge, o_icmpgt, o_ifgt, o_icmple, o_ifle, o_icmpeq, o_ifeq, o_icmpne, o_ifne, o_ifnull, o_ifnonnull, o_acmpeq, o_acmpne, o_tsw, tsw, o_getI, o_getR, o_putI, o_putZ, o_putR, o_iald, o_bald, o_lald, o_aald, o_iast, o_bast, o_last, o_aast, o_alen, o_new, o_newa, o_iret, o_zret, o_aret, o_vret, o_throw, o_call, o_callV, o_aft_v, o_aft_n, o_aft_x, o_up_e, lget, lset, all1, dr_some, List.take_succ_cons, List.take_zero, List.drop_succ_cons, List.drop_zero, List.reverse_cons, List.reverse_nil, List.nil_append, List.cons_append, List.length_cons, List.length_nil, List.take_nil, List.drop_nil, true_and, and_true, false_and, and_false, true_implies, implies_true, false_implies, ne_eq, not_true_eq_false, not_false_eq_true, reduceCtorEq, Option.some.injEq, if_true, if_false, ite_true, ite_false, Nat.zero_add, eq_self, okn_some, okn_none, forall_const, true_or, or_true, false_or, or_false, Option.map_some, Option.map_none, Kd_setI, Ln_setI, Mr_setI, Kd_setR, Ln_setR, Mi_setR, Int.reduceNatCast', Int.reduceNeg, Int.reduceAdd, Int.reduceSub, Int.reduceMul, Int.reduceEq, Int.reduceNe, Int.reduceLT, Int.reduceLE, Nat.reduceAdd, Nat.reduceSub, Nat.reduceLT, Nat.reduceLeDiff, Nat.reduceEqDiff, Mi_setI, k1, k2, rx1 R, rx2 R, rx3 R, rx4 R, rx5 R, rx6 R, rx7 R, rx8 R, rx9 R, rx10 R, rx11 R, rx12 R, rx13 R, rx14 R, rx15 R, rx16 R, rx17 R, rx18 R, rx19 R, rx20 R, rx21 R, rx22 R, rx23 R, rx24 R]) | (refine c_X_shotAt (by omega) R a16 (fun z9 => ?_) (fun z9 => absurd hS z9)) | (refine c_X_requireIndex (by omega) (fun z9 => ?_) (fun z9 => (by omega : False).elim)) | (refine c_X_requireRange (by omega) (fun z9 => absurd z9 hm) (fun z9 => ?_)) | (simp only [o_const, o_null, o_lconst, o_iload, o_aload, o_istore, o_astore, o_iinc, o_iadd, o_isub, o_imul, o_idiv, o_irem, o_ineg, o_i2l, o_lcmp, o_dup, o_dup2, o_goto, o_max, o_min, o_objinit, o_icmplt, o_iflt, o_icmpge, o_ifge, o_icmpgt, o_ifgt, o_icmple, o_ifle, o_icmpeq, o_ifeq, o_icmpne, o_ifne, o_ifnull, o_ifnonnull, o_acmpeq, o_acmpne, o_tsw, tsw, o_getI, o_getR, o_putI, o_putZ, o_putR, o_iald, o_bald, o_lald, o_aald, o_iast, o_bast, o_last, o_aast, o_alen, o_new, o_newa, o_iret, o_zret, o_aret, o_vret, o_throw, o_call, o_callV, o_aft_v, o_aft_n, o_aft_x, o_up_e, lget, lset, all1, dr_some, List.take_succ_cons, List.take_zero, List.drop_succ_cons, List.drop_zero, List.reverse_cons, List.reverse_nil, List.nil_append, List.cons_append, List.length_cons, List.length_nil, List.take_nil, List.drop_nil, true_and, and_true, false_and, and_false, true_implies, implies_true, false_implies, ne_eq, not_true_eq_false, not_false_eq_true, reduceCtorEq, Option.some.injEq, if_true, if_false, ite_true, ite_false, Nat.zero_add, eq_self, okn_some, okn_none, forall_const, true_or, or_true, false_or, or_false, Option.map_some, Option.map_none, Kd_setI, Ln_setI, Mr_setI, Kd_setR, Ln_setR, Mi_setR, Int.reduceNatCast', Int.reduceNeg, Int.reduceAdd, Int.reduceSub, Int.reduceMul, Int.reduceEq, Int.reduceNe, Int.reduceLT, Int.reduceLE, Nat.reduceAdd, Nat.reduceSub, Nat.reduceLT, Nat.reduceLeDiff, Nat.reduceEqDiff, Mi_setI, k1, k2, rx1 R, rx2 R, rx3 R, rx4 R, rx5 R, rx6 R, rx7 R, rx8 R, rx9 R, rx10 R, rx11 R, rx12 R, rx13 R, rx14 R, rx15 R, rx16 R, rx17 R, rx18 R, rx19 R, rx20 R, rx21 R, rx22 R, rx23 R, rx24 R]) | (unfold rng; omega) | omega)
        all_goals first | exact K9 | (exfalso; omega) | done
    · have K9 := H1 (by unfold th_insert; rw [if_pos (fun w => hp w.2)])
      clear H0 H1 H2 H3 i3
      repeat' (first | (with_reducible refine And.intro ?_ ?_) | (with_reducible intro _) | (exact Nat.le_of_ble_eq_true rfl) | (refine bX_insert_0 _ _ _ _ _ ?_; simp only [o_const, o_null, o_lconst, o_iload, o_aload, o_istore, o_astore, o_iinc, o_iadd, o_isub, o_imul, o_idiv, o_irem, o_ineg, o_i2l, o_lcmp, o_dup, o_dup2, o_goto, o_max, o_min, o_objinit, o_icmplt, o_iflt, o_icmpge, o_ifge, o_icmpgt, o_ifgt, o_icmple, o_ifle, o_icmpeq, o_ifeq, o_icmpne, o_ifne, o_ifnull, o_ifnonnull, o_acmpeq, o_acmpne, o_tsw, tsw, o_getI, o_getR, o_putI, o_putZ, o_putR, o_iald, o_bald, o_lald, o_aald, o_iast, o_bast, o_last, o_aast, o_alen, o_new, o_newa, o_iret, o_zret, o_aret, o_vret, o_throw, o_call, o_callV, o_aft_v, o_aft_n, o_aft_x, o_up_e, lget, lset, all1, dr_some, List.take_succ_cons, List.take_zero, List.drop_succ_cons, List.drop_zero, List.reverse_cons, List.reverse_nil, List.nil_append, List.cons_append, List.length_cons, List.length_nil, List.take_nil, List.drop_nil, true_and, and_true, false_and, and_false, true_implies, implies_true, false_implies, ne_eq, not_true_eq_false, not_false_eq_true, reduceCtorEq, Option.some.injEq, if_true, if_false, ite_true, ite_false, Nat.zero_add, eq_self, okn_some, okn_none, forall_const, true_or, or_true, false_or, or_false, Option.map_some, Option.map_none, Kd_setI, Ln_setI, Mr_setI, Kd_setR, Ln_setR, Mi_setR, Int.reduceNatCast', Int.reduceNeg, Int.reduceAdd, Int.reduceSub, Int.reduceMul, Int.reduceEq, Int.reduceNe, Int.reduceLT, Int.reduceLE, Nat.reduceAdd, Nat.reduceSub, Nat.reduceLT, Nat.reduceLeDiff, Nat.reduceEqDiff, Mi_setI, k1, k2, rx1 R, rx2 R, rx3 R, rx4 R, rx5 R, rx6 R, rx7 R, rx8 R, rx9 R, rx10 R, rx11 R, rx12 R, rx13 R, rx14 R, rx15 R, rx16 R, rx17 R, rx18 R, rx19 R, rx20 R, rx21 R, rx22 R, rx23 R, rx24 R]) | (refine bX_insert_41 _ _ _ _ _ ?_; simp only [o_const, o_null, o_lconst, o_iload, o_aload, o_istore, o_astore, o_iinc, o_iadd, o_isub, o_imul, o_idiv, o_irem, o_ineg, o_i2l, o_lcmp, o_dup, o_dup2, o_goto, o_max, o_min, o_objinit, o_icmplt, o_iflt, o_icmpge, o_ifge, o_icmpgt, o_ifgt, o_icmple, o_ifle, o_icmpeq, o_ifeq, o_icmpne, o_ifne, o_ifnull, o_ifnonnull, o_acmpeq, o_acmpne, o_tsw, tsw, o_getI, o_getR, o_putI, o_putZ, o_putR, o_iald, o_bald, o_lald, o_aald, o_iast, o_bast, o_last, o_aast, o_alen, o_new, o_newa, o_iret, o_zret, o_aret, o_vret, o_throw, o_call, o_callV, o_aft_v, o_aft_n, o_aft_x, o_up_e, lget, lset, all1, dr_some, List.take_succ_cons, List.take_zero, List.drop_succ_cons, List.drop_zero, List.reverse_cons, List.reverse_nil, List.nil_append, List.cons_append, List.length_cons, List.length_nil, List.take_nil, List.drop_nil, true_and, and_true, false_and, and_false, true_implies, implies_true, false_implies, ne_eq, not_true_eq_false, not_false_eq_true, reduceCtorEq, Option.some.injEq, if_true, if_false, ite_true, ite_false, Nat.zero_add, eq_self, okn_some, okn_none, forall_const, true_or, or_true, false_or, or_false, Option.map_some, Option.map_none, Kd_setI, Ln_setI, Mr_setI, Kd_setR, Ln_setR, Mi_setR, Int.reduceNatCast', Int.reduceNeg, Int.reduceAdd, Int.reduceSub, Int.reduceMul, Int.reduceEq, Int.reduceNe, Int.reduceLT, Int.reduceLE, Nat.reduceAdd, Nat.reduceSub, Nat.reduceLT, Nat.reduceLeDiff, Nat.reduceEqDiff, Mi_setI, k1, k2, rx1 R, rx2 R, rx3 R, rx4 R, rx5 R, rx6 R, rx7 R, rx8 R, rx9 R, rx10 R, rx11 R, rx12 R, rx13 R, rx14 R, rx15 R, rx16 R, rx17 R, rx18 R, rx19 R, rx20 R, rx21 R, rx22 R, rx23 R, rx24 R]) | (refine bX_insert_42 _ _ _ _ _ ?_; simp only [o_const, o_null, o_lconst, o_iload, o_aload, o_istore, o_astore, o_iinc, o_iadd, o_isub, o_imul, o_idiv, o_irem, o_ineg, o_i2l, o_lcmp, o_dup, o_dup2, o_goto, o_max, o_min, o_objinit, o_icmplt, o_iflt, o_icmpge, o_ifge, o_icmpgt, o_ifgt, o_icmple, o_ifle, o_icmpeq, o_ifeq, o_icmpne, o_ifne, o_ifnull, o_ifnonnull, o_acmpeq, o_acmpne, o_tsw, tsw, o_getI, o_getR, o_putI, o_putZ, o_putR, o_iald, o_bald, o_lald, o_aald, o_iast, o_bast, o_last, o_aast, o_alen, o_new, o_newa, o_iret, o_zret, o_aret, o_vret, o_throw, o_call, o_callV, o_aft_v, o_aft_n, o_aft_x, o_up_e, lget, lset, all1, dr_some, List.take_succ_cons, List.take_zero, List.drop_succ_cons, List.drop_zero, List.reverse_cons, List.reverse_nil, List.nil_append, List.cons_append, List.length_cons, List.length_nil, List.take_nil, List.drop_nil, true_and, and_true, false_and, and_false, true_implies, implies_true, false_implies, ne_eq, not_true_eq_false, not_false_eq_true, reduceCtorEq, Option.some.injEq, if_true, if_false, ite_true, ite_false, Nat.zero_add, eq_self, okn_some, okn_none, forall_const, true_or, or_true, false_or, or_false, Option.map_some, Option.map_none, Kd_setI, Ln_setI, Mr_setI, Kd_setR, Ln_setR, Mi_setR, Int.reduceNatCast', Int.reduceNeg, Int.reduceAdd, Int.reduceSub, Int.reduceMul, Int.reduceEq, Int.reduceNe, Int.reduceLT, Int.reduceLE, Nat.reduceAdd, Nat.reduceSub, Nat.reduceLT, Nat.reduceLeDiff, Nat.reduceEqDiff, Mi_setI, k1, k2, rx1 R, rx2 R, rx3 R, rx4 R, rx5 R, rx6 R, rx7 R, rx8 R, rx9 R, rx10 R, rx11 R, rx12 R, rx13 R, rx14 R, rx15 R, rx16 R, rx17 R, rx18 R, rx19 R, rx20 R, rx21 R, rx22 R, rx23 R, rx24 R]) | (refine c_X_shotAt (by omega) R a16 (fun z9 => ?_) (fun z9 => absurd hS z9)) | (refine c_X_requireIndex (by omega) (fun z9 => (by omega : False).elim) (fun z9 => ?_)) | (simp only [o_const, o_null, o_lconst, o_iload, o_aload, o_istore, o_astore, o_iinc, o_iadd, o_isub, o_imul, o_idiv, o_irem, o_ineg, o_i2l, o_lcmp, o_dup, o_dup2, o_goto, o_max, o_min, o_objinit, o_icmplt, o_iflt, o_icmpge, o_ifge, o_icmpgt, o_ifgt, o_icmple, o_ifle, o_icmpeq, o_ifeq, o_icmpne, o_ifne, o_ifnull, o_ifnonnull, o_acmpeq, o_acmpne, o_tsw, tsw, o_getI, o_getR, o_putI, o_putZ, o_putR, o_iald, o_bald, o_lald, o_aald, o_iast, o_bast, o_last, o_aast, o_alen, o_new, o_newa, o_iret, o_zret, o_aret, o_vret, o_throw, o_call, o_callV, o_aft_v, o_aft_n, o_aft_x, o_up_e, lget, lset, all1, dr_some, List.take_succ_cons, List.take_zero, List.drop_succ_cons, List.drop_zero, List.reverse_cons, List.reverse_nil, List.nil_append, List.cons_append, List.length_cons, List.length_nil, List.take_nil, List.drop_nil, true_and, and_true, false_and, and_false, true_implies, implies_true, false_implies, ne_eq, not_true_eq_false, not_false_eq_true, reduceCtorEq, Option.some.injEq, if_true, if_false, ite_true, ite_false, Nat.zero_add, eq_self, okn_some, okn_none, forall_const, true_or, or_true, false_or, or_false, Option.map_some, Option.map_none, Kd_setI, Ln_setI, Mr_setI, Kd_setR, Ln_setR, Mi_setR, Int.reduceNatCast', Int.reduceNeg, Int.reduceAdd, Int.reduceSub, Int.reduceMul, Int.reduceEq, Int.reduceNe, Int.reduceLT, Int.reduceLE, Nat.reduceAdd, Nat.reduceSub, Nat.reduceLT, Nat.reduceLeDiff, Nat.reduceEqDiff, Mi_setI, k1, k2, rx1 R, rx2 R, rx3 R, rx4 R, rx5 R, rx6 R, rx7 R, rx8 R, rx9 R, rx10 R, rx11 R, rx12 R, rx13 R, rx14 R, rx15 R, rx16 R, rx17 R, rx18 R, rx19 R, rx20 R, rx21 R, rx22 R, rx23 R, rx24 R]) | (unfold rng; omega) | omega)
      all_goals first | exact K9 | (exfalso; omega) | done
  · have K9 := H1 (by unfold th_insert; rw [if_pos (fun w => hS w.1)])
    clear H0 H1 H2 H3
    repeat' (first | (with_reducible refine And.intro ?_ ?_) | (with_reducible intro _) | (exact Nat.le_of_ble_eq_true rfl) | (refine bX_insert_0 _ _ _ _ _ ?_; simp only [o_const, o_null, o_lconst, o_iload, o_aload, o_istore, o_astore, o_iinc, o_iadd, o_isub, o_imul, o_idiv, o_irem, o_ineg, o_i2l, o_lcmp, o_dup, o_dup2, o_goto, o_max, o_min, o_objinit, o_icmplt, o_iflt, o_icmpge, o_ifge, o_icmpgt, o_ifgt, o_icmple, o_ifle, o_icmpeq, o_ifeq, o_icmpne, o_ifne, o_ifnull, o_ifnonnull, o_acmpeq, o_acmpne, o_tsw, tsw, o_getI, o_getR, o_putI, o_putZ, o_putR, o_iald, o_bald, o_lald, o_aald, o_iast, o_bast, o_last, o_aast, o_alen, o_new, o_newa, o_iret, o_zret, o_aret, o_vret, o_throw, o_call, o_callV, o_aft_v, o_aft_n, o_aft_x, o_up_e, lget, lset, all1, dr_some, List.take_succ_cons, List.take_zero, List.drop_succ_cons, List.drop_zero, List.reverse_cons, List.reverse_nil, List.nil_append, List.cons_append, List.length_cons, List.length_nil, List.take_nil, List.drop_nil, true_and, and_true, false_and, and_false, true_implies, implies_true, false_implies, ne_eq, not_true_eq_false, not_false_eq_true, reduceCtorEq, Option.some.injEq, if_true, if_false, ite_true, ite_false, Nat.zero_add, eq_self, okn_some, okn_none, forall_const, true_or, or_true, false_or, or_false, Option.map_some, Option.map_none, Kd_setI, Ln_setI, Mr_setI, Kd_setR, Ln_setR, Mi_setR, Int.reduceNatCast', Int.reduceNeg, Int.reduceAdd, Int.reduceSub, Int.reduceMul, Int.reduceEq, Int.reduceNe, Int.reduceLT, Int.reduceLE, Nat.reduceAdd, Nat.reduceSub, Nat.reduceLT, Nat.reduceLeDiff, Nat.reduceEqDiff, Mi_setI, rx1 R, rx2 R, rx3 R, rx4 R, rx5 R, rx6 R, rx7 R, rx8 R, rx9 R, rx10 R, rx11 R, rx12 R, rx13 R, rx14 R, rx15 R, rx16 R, rx17 R, rx18 R, rx19 R, rx20 R, rx21 R, rx22 R, rx23 R, rx24 R]) | (refine bX_insert_41 _ _ _ _ _ ?_; simp only [o_const, o_null, o_lconst, o_iload, o_aload, o_istore, o_astore, o_iinc, o_iadd, o_isub, o_imul, o_idiv, o_irem, o_ineg, o_i2l, o_lcmp, o_dup, o_dup2, o_goto, o_max, o_min, o_objinit, o_icmplt, o_iflt, o_icmpge, o_ifge, o_icmpgt, o_ifgt, o_icmple, o_ifle, o_icmpeq, o_ifeq, o_icmpne, o_ifne, o_ifnull, o_ifnonnull, o_acmpeq, o_acmpne, o_tsw, tsw, o_getI, o_getR, o_putI, o_putZ, o_putR, o_iald, o_bald, o_lald, o_aald, o_iast, o_bast, o_last, o_aast, o_alen, o_new, o_newa, o_iret, o_zret, o_aret, o_vret, o_throw, o_call, o_callV, o_aft_v, o_aft_n, o_aft_x, o_up_e, lget, lset, all1, dr_some, List.take_succ_cons, List.take_zero, List.drop_succ_cons, List.drop_zero, List.reverse_cons, List.reverse_nil, List.nil_append, List.cons_append, List.length_cons, List.length_nil, List.take_nil, List.drop_nil, true_and, and_true, false_and, and_false, true_implies, implies_true, false_implies, ne_eq, not_true_eq_false, not_false_eq_true, reduceCtorEq, Option.some.injEq, if_true, if_false, ite_true, ite_false, Nat.zero_add, eq_self, okn_some, okn_none, forall_const, true_or, or_true, false_or, or_false, Option.map_some, Option.map_none, Kd_setI, Ln_setI, Mr_setI, Kd_setR, Ln_setR, Mi_setR, Int.reduceNatCast', Int.reduceNeg, Int.reduceAdd, Int.reduceSub, Int.reduceMul, Int.reduceEq, Int.reduceNe, Int.reduceLT, Int.reduceLE, Nat.reduceAdd, Nat.reduceSub, Nat.reduceLT, Nat.reduceLeDiff, Nat.reduceEqDiff, Mi_setI, rx1 R, rx2 R, rx3 R, rx4 R, rx5 R, rx6 R, rx7 R, rx8 R, rx9 R, rx10 R, rx11 R, rx12 R, rx13 R, rx14 R, rx15 R, rx16 R, rx17 R, rx18 R, rx19 R, rx20 R, rx21 R, rx22 R, rx23 R, rx24 R]) | (refine bX_insert_42 _ _ _ _ _ ?_; simp only [o_const, o_null, o_lconst, o_iload, o_aload, o_istore, o_astore, o_iinc, o_iadd, o_isub, o_imul, o_idiv, o_irem, o_ineg, o_i2l, o_lcmp, o_dup, o_dup2, o_goto, o_max, o_min, o_objinit, o_icmplt, o_iflt, o_icmpge, o_ifge, o_icmpgt, o_ifgt, o_icmple, o_ifle, o_icmpeq, o_ifeq, o_icmpne, o_ifne, o_ifnull, o_ifnonnull, o_acmpeq, o_acmpne, o_tsw, tsw, o_getI, o_getR, o_putI, o_putZ, o_putR, o_iald, o_bald, o_lald, o_aald, o_iast, o_bast, o_last, o_aast, o_alen, o_new, o_newa, o_iret, o_zret, o_aret, o_vret, o_throw, o_call, o_callV, o_aft_v, o_aft_n, o_aft_x, o_up_e, lget, lset, all1, dr_some, List.take_succ_cons, List.take_zero, List.drop_succ_cons, List.drop_zero, List.reverse_cons, List.reverse_nil, List.nil_append, List.cons_append, List.length_cons, List.length_nil, List.take_nil, List.drop_nil, true_and, and_true, false_and, and_false, true_implies, implies_true, false_implies, ne_eq, not_true_eq_false, not_false_eq_true, reduceCtorEq, Option.some.injEq, if_true, if_false, ite_true, ite_false, Nat.zero_add, eq_self, okn_some, okn_none, forall_const, true_or, or_true, false_or, or_false, Option.map_some, Option.map_none, Kd_setI, Ln_setI, Mr_setI, Kd_setR, Ln_setR, Mi_setR, Int.reduceNatCast', Int.reduceNeg, Int.reduceAdd, Int.reduceSub, Int.reduceMul, Int.reduceEq, Int.reduceNe, Int.reduceLT, Int.reduceLE, Nat.reduceAdd, Nat.reduceSub, Nat.reduceLT, Nat.reduceLeDiff, Nat.reduceEqDiff, Mi_setI, rx1 R, rx2 R, rx3 R, rx4 R, rx5 R, rx6 R, rx7 R, rx8 R, rx9 R, rx10 R, rx11 R, rx12 R, rx13 R, rx14 R, rx15 R, rx16 R, rx17 R, rx18 R, rx19 R, rx20 R, rx21 R, rx22 R, rx23 R, rx24 R]) | (refine c_X_shotAt (by omega) R a16 (fun z9 => absurd z9 hS) (fun z9 => ?_)) | (simp only [o_const, o_null, o_lconst, o_iload, o_aload, o_istore, o_astore, o_iinc, o_iadd, o_isub, o_imul, o_idiv, o_irem, o_ineg, o_i2l, o_lcmp, o_dup, o_dup2, o_goto, o_max, o_min, o_objinit, o_icmplt, o_iflt, o_icmpge, o_ifge, o_icmpgt, o_ifgt, o_icmple, o_ifle, o_icmpeq, o_ifeq, o_icmpne, o_ifne, o_ifnull, o_ifnonnull, o_acmpeq, o_acmpne, o_tsw, tsw, o_getI, o_getR, o_putI, o_putZ, o_putR, o_iald, o_bald, o_lald, o_aald, o_iast, o_bast, o_last, o_aast, o_alen, o_new, o_newa, o_iret, o_zret, o_aret, o_vret, o_throw, o_call, o_callV, o_aft_v, o_aft_n, o_aft_x, o_up_e, lget, lset, all1, dr_some, List.take_succ_cons, List.take_zero, List.drop_succ_cons, List.drop_zero, List.reverse_cons, List.reverse_nil, List.nil_append, List.cons_append, List.length_cons, List.length_nil, List.take_nil, List.drop_nil, true_and, and_true, false_and, and_false, true_implies, implies_true, false_implies, ne_eq, not_true_eq_false, not_false_eq_true, reduceCtorEq, Option.some.injEq, if_true, if_false, ite_true, ite_false, Nat.zero_add, eq_self, okn_some, okn_none, forall_const, true_or, or_true, false_or, or_false, Option.map_some, Option.map_none, Kd_setI, Ln_setI, Mr_setI, Kd_setR, Ln_setR, Mi_setR, Int.reduceNatCast', Int.reduceNeg, Int.reduceAdd, Int.reduceSub, Int.reduceMul, Int.reduceEq, Int.reduceNe, Int.reduceLT, Int.reduceLE, Nat.reduceAdd, Nat.reduceSub, Nat.reduceLT, Nat.reduceLeDiff, Nat.reduceEqDiff, Mi_setI, rx1 R, rx2 R, rx3 R, rx4 R, rx5 R, rx6 R, rx7 R, rx8 R, rx9 R, rx10 R, rx11 R, rx12 R, rx13 R, rx14 R, rx15 R, rx16 R, rx17 R, rx18 R, rx19 R, rx20 R, rx21 R, rx22 R, rx23 R, rx24 R]) | (unfold rng; omega) | omega)
    all_goals first | exact K9 | (exfalso; omega) | done
