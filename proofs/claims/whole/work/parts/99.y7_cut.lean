/-- the last frames of a row go: they have no keys, no image, are nowhere -/
theorem RC_shr {c c' : Int} {K B : AS} {h h' : Mh} (R : RC K h) (T : Stx K) (I : IvS c K) (J : IvM c' K) {s m N : Int} (hS : isS K s) (hN : N = K 17 s 0) (m1 : 1 ≤ m) (m2 : m < N) (e : ∀ g, g ∉ [17, 18, 31, 48, 50] → B g = K g) (b17 : ∀ t, B 17 t 0 = if t = s then N - m else K 17 t 0) (b18 : ∀ t j, 0 ≤ j → j < B 17 t 0 → B 18 t j = K 18 t j) (b31 : ∀ t, B 31 t 0 = if t = s then 0 else K 31 t 0) (b50 : ∀ k, 0 ≤ k → k < K 47 0 0 → B 50 k 0 = K 50 k 0)
    (b48 : ∀ k, 0 ≤ k → k < K 47 0 0 → ((∃ p, N - m ≤ p ∧ p < N ∧ K 48 k 0 = K 18 s p) → B 48 k 0 = -1) ∧ ((∀ p, N - m ≤ p → p < N → K 48 k 0 ≠ K 18 s p) → B 48 k 0 = K 48 k 0)) (hz : ∀ p, N - m ≤ p → p < N → K 32 (K 18 s p) 0 = -1 ∧ Whr K (K 18 s p) 0 ∧ ∀ l, 0 ≤ l → l < 16 → K 24 (K 18 s p) l = 0) (e' : h' = setI (setI h (sN s) 3 (N - m)) (sN s) 9 0) : RC B h' := by
  have T' := T
  obtain ⟨V9, D9, a16, a36, a47, a51, G9⟩ := T'
  have hs0 := hS.1
  have hs1 := hS.2
  have s5 : s < 5 := by omega
  have i17 := (I.2.2.1 s hs0 s5).2.1
  have hb : sN s = 20000 + 200 * s.toNat := rfl
  have s9 : ∀ n, n ≠ sN s → Sam h h' n := fun n hn => by rw [e']; exact (Sam.rfl'.setI hn).setI hn
  have c1 : Kd h' = Kd h := by rw [e']; rfl
  have c2 : Ln h' = Ln h := by rw [e']; rfl
  have c3 : Mr h' = Mr h := by rw [e']; rfl
  have m9 : ∀ n, n ≠ sN s → Mi h' n = Mi h n := fun n hn => (s9 n hn).2.2.1
  have hc : ∀ t k, cN t k = 20010 + 200 * t.toNat + 10 * k.toNat := fun t k => rfl
  have mc : ∀ t k i, 0 ≤ k → k < 16 → i < 5 → Mi h' (cN t k + i) = Mi h (cN t k + i) := fun t k i k0 k1 hi => m9 _ (by rw [hc]; omega)
  have E9 : ∀ L : List Nat, (∀ f, f ∈ [17, 18, 31, 48, 50] → f ∉ L) → ∀ g, g ∈ L → B g = K g := fun L hL g hg => e g (fun q => hL g q hg)
  have xs : RCs B h' := by
    refine ⟨fun t t0 t1 => ?_, fun n n0 n1 => ?_⟩
    · rw [e 16 (by decide)] at t1
      by_cases z : t = s
      · subst z
        obtain ⟨r1, r2, r3, r4⟩ := R.xs.1 t t0 t1
        have q : ∀ k : Int, k ≠ 3 → k ≠ 9 → Mi h' (sN t) k = Mi h (sN t) k := fun k q1 q2 => by rw [e', Mi_setI, if_neg (fun q => q2 q.2), Mi_setI, if_neg (fun q => q1 q.2)]
        unfold SObj
        rw [c1, c2, c3, q 0 (by decide) (by decide), q 4 (by decide) (by decide), q 6 (by decide) (by decide), q 7 (by decide) (by decide), q 8 (by decide) (by decide), q 10 (by decide) (by decide), q 11 (by decide) (by decide), b17, if_pos rfl, b31, if_pos rfl, e 20 (by decide), e 22 (by decide), e 23 (by decide), e 27 (by decide), e 28 (by decide), e 29 (by decide), e 30 (by decide), e 105 (by decide), pN_of (e 100 (by decide))]
        refine ⟨r1, ⟨by rw [e', Mi_setI, if_neg (by omega), Mi_setI, if_pos ⟨rfl, rfl⟩], r2.2.1, r2.2.2.1, r2.2.2.2.1, r2.2.2.2.2.1, by rw [e', Mi_setI, if_pos ⟨rfl, rfl⟩], r2.2.2.2.2.2.2⟩, r3, r4⟩
      · exact (R.xs.1 t t0 t1).of2 (fun k hk => by
          simp only [List.mem_cons, List.not_mem_nil, or_false] at hk
          rcases hk with rfl | rfl | rfl | rfl | rfl | rfl | rfl | rfl
          · rw [b17, if_neg z]
          · rw [e 20 (by decide)]
          · rw [e 23 (by decide)]
          · rw [e 27 (by decide)]
          · rw [e 28 (by decide)]
          · rw [e 29 (by decide)]
          · rw [e 30 (by decide)]
          · rw [b31, if_neg z]) (by rw [e 105 (by decide)]) (by rw [e 22 (by decide)]) (e 100 (by decide)) (fun n n0 n1 => s9 n (by unfold sN at n0 n1 ⊢; omega))
    · rw [e 16 (by decide)] at n0
      rw [c1]; exact R.xs.2 n n0 n1
  have xo : RCo B h' := by
    intro t k t0 t1 k0 k1
    rw [e 16 (by decide)] at t1
    have := R.xo t k t0 t1 k0 k1
    unfold FObj at *
    rw [c1, c2, c3]; exact this
  have cs : ∀ t p, 0 ≤ t → t < 5 → 0 ≤ p → (p < B 17 t 0 → p < K 17 t 0 ∧ B 18 t p = K 18 t p) ∧ (B 17 t 0 ≤ p → K 17 t 0 ≤ p ∨ (t = s ∧ N - m ≤ p ∧ p < N)) := fun t p t0 t1 p0 => by
    have h1 := b17 t
    by_cases z : t = s
    · rw [if_pos z] at h1
      rw [h1]
      refine ⟨fun w => ⟨by rw [z, ← hN]; omega, b18 t p p0 (by rw [h1]; exact w)⟩, fun w => ?_⟩
      by_cases y : p < N
      · exact Or.inr ⟨z, w, y⟩
      · left; rw [z, ← hN]; omega
    · rw [if_neg z] at h1
      rw [h1]
      exact ⟨fun w => ⟨w, b18 t p p0 (by rw [h1]; exact w)⟩, fun w => Or.inl w⟩
  have g6 := G9.2.2.2.2.2.1
  have xk : RCk B h' := by
    intro t p t0 t1 p0 p1
    rw [e 16 (by decide)] at t1
    obtain ⟨w1, w2⟩ := cs t p t0 (by omega) p0
    have g := g6 t p t0 (by omega) p0 p1
    obtain ⟨x1, x2⟩ := R.xk t p t0 t1 p0 p1
    have m0 := mc t _ 0 g.1 g.2 (by decide)
    rw [Nat.add_zero] at m0
    unfold FKey FNam at *
    rw [e 21 (by decide), e 24 (by decide), e 25 (by decide), e 105 (by decide), m0, mc t _ 1 g.1 g.2 (by decide), mc t _ 2 g.1 g.2 (by decide)]
    refine ⟨fun l l0 l1 => ⟨fun w => ?_, fun w => ?_⟩, fun w => ?_⟩
    · rw [(w1 w).2]; exact (x1 l l0 l1).1 (w1 w).1
    · rcases w2 w with y | ⟨rfl, y1, y2⟩
      · exact (x1 l l0 l1).2 y
      · have := ((x1 l l0 l1).1 (by rw [← hN]; exact y2)).1
        rw [this]; exact (hz p y1 y2).2.2 l l0 l1
    · rw [(w1 w).2]; exact x2 (w1 w).1
  have xt : RCt B h' := by
    intro t p t0 t1 p0 p1
    rw [e 16 (by decide)] at t1
    obtain ⟨w1, w2⟩ := cs t p t0 (by omega) p0
    have g := g6 t p t0 (by omega) p0 p1
    have x := R.xt t p t0 t1 p0 p1
    have m0 := mc t _ 0 g.1 g.2 (by decide)
    rw [Nat.add_zero] at m0
    unfold FSta at *
    rw [e 44 (by decide), e 105 (by decide), m0]
    refine ⟨fun w => ?_, fun w => ?_⟩
    · rw [(w1 w).2]
      exact ⟨Whr_of (e 36 (by decide)) (e 39 (by decide)) (e 42 (by decide)) (e 43 (by decide)) (x.1 (w1 w).1).1, (x.1 (w1 w).1).2⟩
    · rcases w2 w with y | ⟨rfl, y1, y2⟩
      · exact x.2 y
      · have hP : isP K t p := ⟨t0, t1, p0, by rw [← hN]; exact y2⟩
        exact Whr_uniq J (actv_of I hP).2.2.1 (x.1 hP.2.2.2).1 (hz p y1 y2).2.1
  have xi : RCi B h' := by
    intro t p t0 t1 p0 p1
    rw [e 16 (by decide)] at t1
    obtain ⟨w1, w2⟩ := cs t p t0 (by omega) p0
    have g := g6 t p t0 (by omega) p0 p1
    have x := R.xi t p t0 t1 p0 p1
    have m0 := mc t _ 0 g.1 g.2 (by decide)
    rw [Nat.add_zero] at m0
    unfold FImg at *
    rw [e 32 (by decide), e 34 (by decide), e 105 (by decide), pN_of (e 100 (by decide)), m0, c3, mc t _ 4 g.1 g.2 (by decide)]
    refine ⟨fun w => ?_, fun w => ?_⟩
    · rw [(w1 w).2]; exact x.1 (w1 w).1
    · rcases w2 w with y | ⟨rfl, y1, y2⟩
      · exact x.2 y
      · exact (x.1 (by rw [← hN]; exact y2)).1 (hz p y1 y2).1
  have xm : RCm B h' := R.xm.of a36 (E9 _ (by decide)) (fun n hn => by have := s9 n (by omega); exact ⟨this.1, this.2.1, fun k _ => congrFun this.2.2.1 k, this.2.2.2⟩)
  have xu : RCu B h' := R.xu.of (e 32 (by decide)) (e 33 (by decide)) (by rw [m9 16 (by omega)])
  have xn : RCn B h' := by
    have y := R.xn
    unfold RCn at *
    rw [e 16 (by decide), e 20 (by decide), e 21 (by decide), e 47 (by decide), e 49 (by decide)]
    refine ⟨fun k k0 k1 => ?_, fun n n0 n1 => ?_⟩
    · have w := s9 (30000 + k.toNat) (by omega)
      rw [w.1, w.2.2.1, w.2.2.2, b50 k k0 k1]
      obtain ⟨n1, n2, n3, n4, n5⟩ := y.1 k k0 k1
      refine ⟨n1, n2, n3, ?_⟩
      obtain ⟨u1, u2⟩ := b48 k k0 k1
      have sh : ∀ t p, 0 ≤ t → t < K 16 0 0 → 0 ≤ p → p < B 17 t 0 → p < K 17 t 0 ∧ B 18 t p = K 18 t p := fun t p t0 t1 p0 w => (cs t p t0 (by omega) p0).1 w
      by_cases q : ∃ p, N - m ≤ p ∧ p < N ∧ K 48 k 0 = K 18 s p
      · rw [u1 q]
        obtain ⟨p, p0, p1, p2⟩ := q
        have hP : isP K s p := ⟨hs0, hs1, by omega, by rw [← hN]; exact p1⟩
        have ac := actv_of I hP
        obtain ⟨z1, z2⟩ := n4 (by rw [p2]; have := ac.2.2.1; omega)
        rw [p2, ac.2.1] at z1
        rw [p2] at z2
        refine ⟨fun w => absurd rfl w, fun _ => ⟨s, hs0, hs1, z1, by rw [z2]; exact (I.2.2.2.2.2.1 s p hs0 s5 (by omega) hP.2.2.2).2.2.2, fun j j0 j1 => ?_⟩⟩
        have j1' := j1
        rw [b17, if_pos rfl] at j1'
        rw [(sh s j hs0 hs1 j0 j1).2, z2]
        exact (I.2.2.2.2.2.2.1 s j p hs0 s5 j0 (by omega) hP.2.2.2).2
      · rw [u2 (fun p p0 p1 w => q ⟨p, p0, p1, w⟩)]
        refine ⟨n4, fun w => ?_⟩
        obtain ⟨t, x0, x1, x2, x3, x4⟩ := n5 w
        refine ⟨t, x0, x1, x2, x3, fun j j0 j1 => ?_⟩
        obtain ⟨v1, v2⟩ := sh t j x0 x1 j0 j1
        rw [v2]; exact x4 j j0 v1
    · rw [(s9 n (by omega)).1]; exact y.2 n n0 n1
  exact ⟨R.1.of (E9 _ (by decide)) (fun n hn => s9 n (by omega)), R.xa.of (E9 _ (by decide)) (fun n n0 n1 => s9 n (by omega)), R.xv.of V9 D9 G9 (E9 _ (by decide)) (fun n n0 n1 => s9 n (by omega)), xs, xo, xk, xt, xi, xm, xu, R.xc.of (E9 _ (by decide)) (fun n hn => s9 n (by omega)) (fun n n0 n1 => ⟨(s9 n (by omega)).1, (s9 n (by omega)).2.1⟩), xn, R.xd.of a51 (E9 _ (by decide)) (fun n n0 n1 => s9 n (by omega))⟩
