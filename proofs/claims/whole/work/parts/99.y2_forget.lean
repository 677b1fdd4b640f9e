/-- the queue and the machines without a frame -/
def rls (A : AS) (f : Int) : AS := mdl (qdel A f) f (A 36 0 0)
theorem rls_f {A : AS} {f : Int} {g : Nat} (h : g ∉ [39, 40, 42, 43]) : rls A f g = A g := by
  unfold rls
  rw [mdl_f (fun q => h (by rw [q]; decide)) (fun q => h (by rw [q]; decide)), qdel_f (fun q => h (by rw [q]; decide)) (fun q => h (by rw [q]; decide))]
theorem rls_39 {A : AS} {f i : Int} (i0 : 0 ≤ i) (i1 : i < A 36 0 0) : rls A f 39 i 0 = (if A 39 i 0 = f then -1 else A 39 i 0) ∧ rls A f 40 i 0 = (if A 39 i 0 = f then 0 else A 40 i 0) := by
  have e1 : qdel A f 39 = A 39 := qdel_f (by decide) (by decide)
  have e2 : qdel A f 40 = A 40 := qdel_f (by decide) (by decide)
  unfold rls
  show ((if (0 : Int) = 0 ∧ 0 ≤ i ∧ i < A 36 0 0 ∧ qdel A f 39 i 0 = f then -1 else qdel A f 39 i 0) = _) ∧ (if (0 : Int) = 0 ∧ 0 ≤ i ∧ i < A 36 0 0 ∧ qdel A f 39 i 0 = f then 0 else qdel A f 40 i 0) = _
  rw [e1, e2]
  simp [i0, i1]
theorem rls_39o {A : AS} {f i : Int} (i1 : A 36 0 0 ≤ i) : rls A f 39 i 0 = A 39 i 0 ∧ rls A f 40 i 0 = A 40 i 0 := by
  have e1 : qdel A f 39 = A 39 := qdel_f (by decide) (by decide)
  have e2 : qdel A f 40 = A 40 := qdel_f (by decide) (by decide)
  unfold rls
  show ((if (0 : Int) = 0 ∧ 0 ≤ i ∧ i < A 36 0 0 ∧ qdel A f 39 i 0 = f then -1 else qdel A f 39 i 0) = _) ∧ (if (0 : Int) = 0 ∧ 0 ≤ i ∧ i < A 36 0 0 ∧ qdel A f 39 i 0 = f then 0 else qdel A f 40 i 0) = _
  rw [e1, e2, if_neg (by omega), if_neg (by omega)]
  exact ⟨rfl, rfl⟩
theorem rls_42 {A : AS} {f : Int} : rls A f 42 0 0 = if jq A f ≠ -1 then A 42 0 0 - 1 else A 42 0 0 := by
  unfold rls
  rw [mdl_f (by decide) (by decide)]
  show (if (0 : Int) = 0 ∧ (0 : Int) = 0 ∧ jq A f ≠ -1 then A 42 0 0 - 1 else A 42 0 0) = _
  simp
theorem rls_43 {A : AS} {f i : Int} : rls A f 43 i 0 = if jq A f ≠ -1 ∧ jq A f ≤ i then A 43 (i + 1) 0 else A 43 i 0 := by
  unfold rls
  rw [mdl_f (by decide) (by decide)]
  show (if (0 : Int) = 0 ∧ jq A f ≠ -1 ∧ jq A f ≤ i then A 43 (i + 1) 0 else A 43 i 0) = _
  simp
/-- the queue without the frame holds the others, and not it -/
theorem rls_q {c : Int} {A : AS} (J : IvM c A) {f : Int} : (∀ k, 0 ≤ k → k < rls A f 42 0 0 → ∃ i, 0 ≤ i ∧ i < A 42 0 0 ∧ rls A f 43 k 0 = A 43 i 0 ∧ A 43 i 0 ≠ f) ∧ (∀ i, 0 ≤ i → i < A 42 0 0 → A 43 i 0 ≠ f → ∃ k, 0 ≤ k ∧ k < rls A f 42 0 0 ∧ rls A f 43 k 0 = A 43 i 0) ∧ 0 ≤ rls A f 42 0 0 ∧ rls A f 42 0 0 ≤ A 42 0 0 ∧
    (∀ k k', 0 ≤ k → k < k' → k' < rls A f 42 0 0 → rls A f 43 k 0 ≠ rls A f 43 k' 0) := by
  have a0 := J.2.2.2.2.2.2.2.2.2.2.2.2.1
  have aD := J.2.2.2.2.2.2.2.2.2.2.2.2.2.2.2
  have js := jq_spec (f := f) a0
  rw [rls_42]
  simp only [rls_43]
  rcases js with ⟨j1, j2⟩ | ⟨j0, j1, j2⟩
  · rw [if_neg (fun q => q j1)]
    refine ⟨fun k k0 k1 => ⟨k, k0, k1, ?_, j2 k k0 k1⟩, fun i i0 i1 _ => ⟨i, i0, i1, ?_⟩, a0, by omega, fun k k' k0 k1 k2 => ?_⟩
    · rw [if_neg (fun q => q.1 j1)]
    · rw [if_neg (fun q => q.1 j1)]
    · rw [if_neg (fun q => q.1 j1), if_neg (fun q => q.1 j1)]; exact aD k k' k0 k1 k2
  · have hj : jq A f ≠ -1 := by omega
    have hne : ∀ i, 0 ≤ i → i < A 42 0 0 → i ≠ jq A f → A 43 i 0 ≠ f := fun i i0 i1 hi q => by
      rw [← j2] at q
      rcases Int.lt_trichotomy i (jq A f) with w | w | w
      · exact aD i _ i0 w j1 q
      · exact hi w
      · exact aD _ i j0 w i1 q.symm
    rw [if_pos hj]
    refine ⟨fun k k0 k1 => ?_, fun i i0 i1 hi => ?_, by omega, by omega, fun k k' k0 k1 k2 => ?_⟩
    · by_cases z : jq A f ≤ k
      · rw [if_pos ⟨hj, z⟩]; exact ⟨k + 1, by omega, by omega, rfl, hne _ (by omega) (by omega) (by omega)⟩
      · rw [if_neg (fun q => z q.2)]; exact ⟨k, k0, by omega, rfl, hne _ k0 (by omega) (by omega)⟩
    · have hi2 : i ≠ jq A f := fun q => hi (by rw [q]; exact j2)
      by_cases z : i < jq A f
      · exact ⟨i, i0, by omega, by rw [if_neg (by omega)]⟩
      · exact ⟨i - 1, by omega, by omega, by rw [if_pos ⟨hj, by omega⟩, show i - 1 + 1 = i by omega]⟩
    · by_cases z : jq A f ≤ k
      · rw [if_pos ⟨hj, z⟩, if_pos ⟨hj, by omega⟩]; exact aD _ _ (by omega) (by omega) (by omega)
      · rw [if_neg (fun q => z q.2)]
        by_cases y : jq A f ≤ k'
        · rw [if_pos ⟨hj, y⟩]; exact aD _ _ (by omega) (by omega) (by omega)
        · rw [if_neg (fun q => y q.2)]; exact aD _ _ (by omega) (by omega) (by omega)
theorem rls_M {c : Int} {A : AS} (J : IvM c A) (f : Int) : IvM c (rls A f) := by
  obtain ⟨q1, q2, q3, q4, q5⟩ := rls_q (f := f) J
  obtain ⟨a1, a2, a3, a4, a5, a6, a7, a8, a9, a10, a11, a12, a13, a14, a15, a16⟩ := J
  have w39 : ∀ i, 0 ≤ i → i < 4 → (rls A f 39 i 0 = A 39 i 0 ∨ rls A f 39 i 0 = -1) ∧ (rls A f 40 i 0 = A 40 i 0 ∨ rls A f 40 i 0 = 0) := fun i i0 i1 => by
    by_cases z : i < A 36 0 0
    · obtain ⟨x1, x2⟩ := rls_39 (f := f) i0 z
      rw [x1, x2]
      by_cases y : A 39 i 0 = f
      · rw [if_pos y, if_pos y]; exact ⟨Or.inr rfl, Or.inr rfl⟩
      · rw [if_neg y, if_neg y]; exact ⟨Or.inl rfl, Or.inl rfl⟩
    · obtain ⟨x1, x2⟩ := rls_39o (A := A) (f := f) (i := i) (by omega)
      rw [x1, x2]; exact ⟨Or.inl rfl, Or.inl rfl⟩
  have e : ∀ g, g ∉ [39, 40, 42, 43] → rls A f g = A g := fun g hg => rls_f hg
  have ea : ∀ g, actv (rls A f) g ↔ actv A g := fun g => by unfold actv; rw [e 17 (by decide), e 18 (by decide)]
  unfold IvM
  simp only [ea]
  rw [e 35 (by decide), e 36 (by decide), e 37 (by decide), e 38 (by decide), e 41 (by decide), e 44 (by decide), e 45 (by decide), e 46 (by decide)]
  refine ⟨a1, a2, a3, a4, a5, a6, a7, a8, fun m m0 m1 => ?_, a10, fun m m0 m1 => ?_, fun m m' m0 m1 m2 w => ?_, q3, by omega, fun k k0 k1 => ?_, q5⟩
  · obtain ⟨b1, b2, b3, b4, b5⟩ := a9 m m0 m1
    obtain ⟨x1, x2⟩ := w39 m m0 m1
    refine ⟨?_, ?_, ?_, b4, fun y z => ?_⟩
    · rcases x1 with x | x <;> rw [x]
      · exact b1
      · exact Or.inl rfl
    · rcases x2 with x | x <;> rw [x]
      · exact b2
      · decide
    · rcases x2 with x | x <;> rw [x]
      · exact b3
      · decide
    · rcases x1 with x | x
      · rw [x] at y ⊢; exact b5 y z
      · exact absurd x y
  · obtain ⟨x1, x2⟩ := rls_39o (A := A) (f := f) (i := m) m0
    rw [x1, x2]; exact a11 m m0 m1
  · obtain ⟨x1, -⟩ := w39 m m0 (by omega)
    obtain ⟨y1, -⟩ := w39 m' (by omega) m2
    rcases x1 with x | x
    · rcases y1 with y | y
      · rw [x, y] at w; rw [x]; exact a12 m m' m0 m1 m2 w
      · rw [w, y]
    · exact x
  · obtain ⟨i, i0, i1, i2, i3⟩ := q1 k k0 k1
    rw [i2]
    obtain ⟨b1, b2, b3⟩ := a15 i i0 i1
    refine ⟨b1, b2, fun m m0 m1 => ?_⟩
    obtain ⟨x1, -⟩ := w39 m m0 m1
    rcases x1 with x | x
    · rw [x]; exact b3 m m0 m1
    · rw [x]; have := b1.1; omega
/-- a frame is released: it is nowhere -/
theorem RC_rls {c c' : Int} {A : AS} {h h' : Mh} (R : RC A h) (T : Stx A) (I : IvS c A) (J : IvM c' A) {s p f : Int} {N : Nat} (hP : isP A s p) (ef : f = A 18 s p) (eN : N = cN s (A 105 s p)) (c1 : Kd h' = Kd h) (c2 : Ln h' = Ln h) (r : ∀ n, n ≠ 22 → n < 32000 → Mr h' n = Mr h n) (mi : ∀ n, n ≠ 16 → n ≠ N → n < 32000 → Mi h' n = Mi h n) (m16 : ∀ k : Int, k ≠ 3 → Mi h' 16 k = Mi h 16 k) (q3 : Mi h' 16 3 = rls A f 42 0 0) (q22 : ∀ i, 0 ≤ i → i < rls A f 42 0 0 → Mr h' 22 i = some (fN A (rls A f 43 i 0)))
    (mf : ∀ k : Int, k ≠ 4 → Mi h' N k = Mi h N k) (f4 : Mi h' N 4 = 0) (mm : ∀ m, 0 ≤ m → m < A 36 0 0 → Mr h' (32000 + m.toNat) 3 = (if A 39 m 0 = f then none else Mr h (32000 + m.toNat) 3) ∧ Mr h' 21 m = Mr h 21 m ∧ ∀ k : Int, Mi h' (32000 + m.toNat) k = if k = 4 ∧ A 39 m 0 = f then 0 else Mi h (32000 + m.toNat) k) : RC (rls A f) h' := by
  have T' := T
  obtain ⟨V9, D9, a16, a36, a47, a51, G9⟩ := T'
  have hs0 := hP.1
  have hs1 := hP.2.1
  have p0 := hP.2.2.1
  have p1 := hP.2.2.2
  have s5 : s < 5 := by omega
  have p16 : p < 16 := by have := (I.2.2.1 s hs0 s5).2.1; omega
  have ac := actv_of I hP
  rw [← ef] at ac
  have gN := G9.2.2.2.2.2.1 s p hs0 s5 p0 p16
  obtain ⟨j9, j0, j1, eN2⟩ : ∃ j : Int, 0 ≤ j ∧ j < 16 ∧ N = 20010 + 200 * s.toNat + 10 * j.toNat := ⟨A 105 s p, gN.1, gN.2, by rw [eN]; rfl⟩
  obtain ⟨Q1, Q2, Q3, Q4, Q5⟩ := rls_q (f := f) J
  have hc : ∀ t k, cN t k = 20010 + 200 * t.toNat + 10 * k.toNat := fun t k => rfl
  have hb : ∀ t, sN t = 20000 + 200 * t.toNat := fun t => rfl
  have e : ∀ g, g ∉ [39, 40, 42, 43] → rls A f g = A g := fun g hg => rls_f hg
  have ew : ∀ g x, g ≠ f → 0 ≤ g → Whr A g x → Whr (rls A f) g x := fun g x hg g0 hx => by
    unfold Whr at *
    rw [e 36 (by decide)]
    rcases hx with ⟨a, a3⟩ | ⟨m, m0, m1, m2, m3⟩
    · refine Or.inl ⟨?_, fun m m0 m1 => ?_⟩
      · rcases a with ⟨a1, a2⟩ | ⟨a1, k, b0, b1, b2⟩
        · refine Or.inl ⟨a1, fun k k0 k1 => ?_⟩
          obtain ⟨i, i0, i1, i2, i3⟩ := Q1 k k0 k1
          rw [i2]; exact a2 i i0 i1
        · obtain ⟨i, i0, i1, i2⟩ := Q2 k b0 b1 (by rw [b2]; exact hg)
          exact Or.inr ⟨a1, i, i0, i1, by rw [i2]; exact b2⟩
      · rw [(rls_39 m0 m1).1]
        split
        · omega
        · exact a3 m m0 m1
    · refine Or.inr ⟨m, m0, m1, ?_, m3⟩
      rw [(rls_39 m0 m1).1, if_neg (by rw [m2]; exact hg)]; exact m2
  have ewf : Whr (rls A f) f 0 := by
    refine Or.inl ⟨Or.inl ⟨rfl, fun k k0 k1 => ?_⟩, fun m m0 m1 => ?_⟩
    · obtain ⟨i, i0, i1, i2, i3⟩ := Q1 k k0 k1
      rw [i2]; exact i3
    · rw [e 36 (by decide)] at m1
      rw [(rls_39 m0 m1).1]
      have := ac.2.2.1
      split
      · omega
      · next z => exact z
  refine R.mid T (fun g hg => e g (fun q => hg (by revert q; simp only [List.mem_cons, List.not_mem_nil, or_false]; omega))) c1 c2 (fun n q1 q2 q3 => ⟨mi n q1 (by omega) (by omega), r n q2 (by omega)⟩) (fun t t0 t1 n n0 n1 => by rw [hb] at n0 n1; exact ⟨mi n (by omega) (by omega) (by omega), r n (by omega) (by omega)⟩) (fun t k t0 t1 k0 k1 => ⟨r _ (by rw [hc]; omega) (by rw [hc]; omega), ?_, mi _ (by rw [hc]; omega) (by rw [hc]; omega) (by rw [hc]; omega), mi _ (by rw [hc]; omega) (by rw [hc]; omega) (by rw [hc]; omega)⟩) ?_ ?_ ?_ ?_
  · by_cases z : cN t k = N
    · rw [z]; exact mf 1 (by decide)
    · rw [mi _ (by rw [hc]; omega) z (by rw [hc]; omega)]
  · intro t q t0 t1 q0 q1
    rw [e 16 (by decide)] at t1
    have y := R.xt t q t0 t1 q0 q1
    have g := G9.2.2.2.2.2.1 t q t0 (by omega) q0 q1
    unfold FSta at *
    rw [e 17 (by decide), e 18 (by decide), e 105 (by decide), e 44 (by decide)]
    by_cases z : t = s ∧ q = p
    · obtain ⟨rfl, rfl⟩ := z
      rw [← eN, ← ef, f4]
      exact ⟨fun _ => ⟨ewf, fun w => absurd rfl w⟩, fun w => by omega⟩
    · have hn := cN_ne G9 hs0 (by omega) t0 (by omega) p0 p16 q0 q1 z
      rw [← eN] at hn
      rw [mi _ (by rw [hc]; omega) (by omega) (by rw [hc]; omega)]
      refine ⟨fun w => ⟨ew _ _ ?_ (actv_of I ⟨t0, t1, q0, w⟩).2.2.1 (y.1 w).1, (y.1 w).2⟩, y.2⟩
      have := pl_ne I hP ⟨t0, t1, q0, w⟩ z
      rw [← ef] at this; exact this
  · refine R.xi.of3 a16 G9 (fun g hg => e g (fun q => by revert hg q; simp only [gI, List.mem_cons, List.not_mem_nil, or_false]; omega)) (fun t k t0 t1 k0 k1 => ⟨fun i hi => ?_, r _ (by rw [hc]; omega) (by rw [hc]; omega), mi _ (by rw [hc]; omega) (by rw [hc]; omega) (by rw [hc]; omega)⟩)
    by_cases z : cN t k = N
    · rw [z]; exact mf i (by omega)
    · rw [mi _ (by rw [hc]; omega) z (by rw [hc]; omega)]
  · obtain ⟨y1, y2, y3, y4, y5⟩ := R.xm
    unfold RCm
    rw [c1, c2, r 16 (by decide) (by decide), m16 1 (by decide), q3, m16 4 (by decide), m16 6 (by decide), m16 7 (by decide), e 35 (by decide), e 36 (by decide), e 37 (by decide), e 38 (by decide), e 41 (by decide), e 45 (by decide), e 46 (by decide), fN_of (e 103 (by decide))]
    refine ⟨y1, ⟨y2.1, rfl, y2.2.2⟩, fun m m0 m1 => ?_, q22, y5⟩
    obtain ⟨x1, x2, x3⟩ := mm m m0 m1
    obtain ⟨v1, v2, v3, v4, v5, v6, v7, v8⟩ := y3 m m0 m1
    obtain ⟨z1, z2⟩ := rls_39 (f := f) m0 m1
    rw [x1, x2, x3 0, x3 1, x3 2, x3 4, x3 5, z1, z2]
    refine ⟨v1, v2, by rw [if_neg (by omega)]; exact v3, by rw [if_neg (by omega)]; exact v4, by rw [if_neg (by omega)]; exact v5, ?_, ?_, by rw [if_neg (by omega)]; exact v8⟩
    · by_cases z : A 39 m 0 = f
      · rw [if_pos z, if_pos z, if_pos rfl]
      · rw [if_neg z, if_neg z]; exact v6
    · by_cases z : A 39 m 0 = f
      · rw [if_pos ⟨rfl, z⟩, if_pos z]
      · rw [if_neg (fun q => z q.2), if_neg z]; exact v7
  · exact R.xu.of (e 32 (by decide)) (e 33 (by decide)) (m16 5 (by decide))
theorem c_Fa_release {d : Nat} (hd : 2 ≤ d) {c c' : Int} {A : AS} {h : Mh} {P : Out → Mh → Prop} {s p : Int} (R : RC A h) (T : Stx A) (I : IvS c A) (J : IvM c' A) (hP : isP A s p) (H : ∀ h', Sx h h' → RC (rls A (A 18 s p)) h' → P (.inl none) h') : Ct kFa_release d [pR (some 16), pR (some (cN s (A 105 s p)))] h P := by
  have G := T.2.2.2.2.2.2
  obtain ⟨_, b16, -, b17, o, -⟩ := at_place R G I hP
  have p16 : p < 16 := by have := hP.2.2.2; omega
  have s5 : s < 5 := by have := hP.2.1; omega
  have hs0 := hP.1
  have ac := actv_of I hP
  have g8 := G.2.2.2.2.2.2.2 s p hs0 s5 hP.2.2.1 hP.2.2.2
  have gN := G.2.2.2.2.2.1 s p hs0 s5 hP.2.2.1 p16
  obtain ⟨f, ef⟩ : ∃ f, f = A 18 s p := ⟨_, rfl⟩
  obtain ⟨N, eN⟩ : ∃ N, N = cN s (A 105 s p) := ⟨_, rfl⟩
  have hN : N = 20010 + 200 * s.toNat + 10 * (A 105 s p).toNat := by rw [eN]; rfl
  have efN : fN A f = N := by unfold fN; rw [ef, ac.2.1, g8, eN]; rfl
  rw [← eN]
  rw [← ef] at H ac
  have k1 : Kd h N = 6 := by rw [eN]; exact o.1
  obtain ⟨y1, y2, y3, y4, y5⟩ := R.xm
  have a42 := J.2.2.2.2.2.2.2.2.2.2.2.2.1
  have a42' := J.2.2.2.2.2.2.2.2.2.2.2.2.2.1
  have aQ := J.2.2.2.2.2.2.2.2.2.2.2.2.2.2.1
  have aD := J.2.2.2.2.2.2.2.2.2.2.2.2.2.2.2
  have a36 := T.2.2.2.1
  have aM := J.2.2.2.2.2.2.2.2.1
  -- a frame's name
  have inj : ∀ g, actv A g → (fN A g = N ↔ g = f) := fun g hg => ⟨fun q => fN_inj G I hg ac.1 (by rw [q, efN]), fun q => by rw [q, efN]⟩
  obtain ⟨h1, eh1⟩ : ∃ h1, h1 = setI h N 4 0 := ⟨_, rfl⟩
  have QS := R.quS (fun j j0 j1 => Fr_kd R G I (aQ j j0 j1).1)
  have QS1 : QuS h1 (A 42 0 0) (fun i => fN A (A 43 i 0)) := by
    obtain ⟨w1, w2, w3, w4, w5, w6⟩ := QS
    rw [eh1]
    exact ⟨w1, w2, w3, w4, by rw [Mi_setI, if_neg (by omega)]; exact w5, w6⟩
  have k11 : Kd h1 N = 6 := by rw [eh1]; exact k1
  -- behind the queue
  have KM : ∀ (h2 : Mh) (c9 s9 : Nat), Kd h2 = Kd h → Ln h2 = Ln h → (∀ n, n ≠ 22 → Mr h2 n = Mr h n) → (∀ n, n ≠ 16 → n ≠ N → Mi h2 n = Mi h n) → (∀ k : Int, k ≠ 3 → Mi h2 16 k = Mi h 16 k) → Mi h2 16 3 = rls A f 42 0 0 → (∀ i, 0 ≤ i → i < rls A f 42 0 0 → Mr h2 22 i = some (fN A (rls A f 43 i 0))) → (∀ k : Int, k ≠ 4 → Mi h2 N k = Mi h N k) → Mi h2 N 4 = 0 → Ru kFa_release d none P 37 [some (pR (some 16)), some (pR (some N)), some (pI (-1))] [] h2 c9 s9 := fun h2 c9 s9 f1 f2 f3 f4 f5 f6 f7 f8 f9 => by
    have r16 := f3 16 (by decide)
    have K := l_rel_39 (d := d) (by omega) (c9 := c9) (s9 := s9) (P := P) (h0 := h2) J efN ac.2.2.1 (fun m m0 m1 hm => by
      have ha := (aM m m0 (by omega)).1.elim (fun q => absurd q hm) id
      exact ⟨inj _ ha, by rw [f1]; exact Fr_kd R G I ha⟩) (by rw [f1]; exact y1.1) (by rw [r16]; exact y1.2.1) (by rw [f1]; exact y1.2.2.2.2.1) (by rw [f2]; exact y1.2.2.2.2.2.1) (by rw [f1]; exact k1) (by rw [f5 1 (by decide)]; exact y2.1) (fun m m0 m1 => by
      obtain ⟨v1, v2, v3, v4, v5, v6, v7, v8⟩ := y3 m m0 m1
      rw [f3 21 (by decide), f1, f3 _ (by omega)]
      exact ⟨v1, v2, v6⟩) (fun h' L => by
      obtain ⟨l1, l2, l3, l4⟩ := L
      have lo : ∀ n, n < 32000 → Mr h' n = Mr h2 n ∧ Mi h' n = Mi h2 n := fun n hn => l3 n (fun k k0 k1 _ => by omega)
      refine H h' (fun n n2 nr => ⟨by rw [l1, f1], by rw [l2, f2], by rw [(lo n (by omega)).2, f4 n (by omega) (by omega)], by rw [(lo n (by omega)).1, f3 n (by omega)]⟩) ?_
      refine RC_rls R T I J hP ef eN (by rw [l1, f1]) (by rw [l2, f2]) (fun n n1 n2 => by rw [(lo n n2).1, f3 n n1]) (fun n n1 n2 n3 => by rw [(lo n n3).2, f4 n n1 n2]) (fun k hk => by rw [(lo 16 (by decide)).2, f5 k hk]) (by rw [(lo 16 (by decide)).2, f6]) (fun i i0 i1 => by rw [(lo 22 (by decide)).1, f7 i i0 i1]) (fun k hk => by rw [(lo N (by omega)).2, f8 k hk]) (by rw [(lo N (by omega)).2, f9]) (fun m m0 m1 => ?_)
      refine ⟨?_, by rw [(lo 21 (by decide)).1, f3 21 (by decide)], fun k => ?_⟩
      · by_cases z : A 39 m 0 = f
        · rw [(l4 m m0 m1 z).1, if_pos rfl, if_pos z]
        · rw [(l3 (32000 + m.toNat) (fun k k0 k1 k2 q => z (by rw [show m = k by omega]; exact k2))).1, if_neg z, f3 _ (by omega)]
      · by_cases z : A 39 m 0 = f
        · rw [(l4 m m0 m1 z).2]
          by_cases w : k = 4
          · rw [if_pos w, if_pos ⟨w, z⟩]
          · rw [if_neg w, if_neg (fun q => w q.1), f4 _ (by omega) (by omega)]
        · rw [(l3 (32000 + m.toNat) (fun k k0 k1 k2 q => z (by rw [show m = k by omega]; exact k2))).2, if_neg (fun q => z q.2), f4 _ (by omega) (by omega)]) (A 36 0 0).toNat 0 h2 (by have := J.1; omega) (by omega) ⟨rfl, rfl, fun n _ => ⟨rfl, rfl⟩, fun k k0 k1 => by omega⟩
    refine bFa_release_37 _ _ _ _ _ ?_; simp only [o_const, o_null, o_lconst, o_iload, o_aload, o_istore, o_astore, o_iinc, o_iadd, o_isub, o_imul, o_idiv, o_irem, o_ineg, o_i2l, o_lcmp, o_dup, o_dup2, o_goto, o_max, o_min, o_objinit, o_icmplt, o_iflt, o_icmpge, o_ifge, o_icmpgt, o_ifgt, o_icmple, o_ifle, o_icmpeq, o_ifeq, o_icmpne, o_ifne, o_ifnull, o_ifnonnull, o_acmpeq, o_acmpne, o_tsw, tsw, o_getI, o_getR, o_putI, o_putZ, o_putR, o_iald, o_bald, o_lald, o_aald, o_iast, o_bast, o_last, o_aast, o_alen, o_new, o_newa, o_iret, o_zret, o_aret, o_vret, o_throw, o_call, o_callV, o_aft_v, o_aft_n, o_aft_x, o_up_e, lget, lset, all1, dr_some, List.take_succ_cons, List.take_zero, List.drop_succ_cons, List.drop_zero, List.reverse_cons, List.reverse_nil, List.nil_append, List.cons_append, List.length_cons, List.length_nil, List.take_nil, List.drop_nil, true_and, and_true, false_and, and_false, true_implies, implies_true, false_implies, ne_eq, not_true_eq_false, not_false_eq_true, reduceCtorEq, Option.some.injEq, if_true, if_false, ite_true, ite_false, Nat.zero_add, eq_self, okn_some, okn_none, forall_const, true_or, or_true, false_or, or_false, Option.map_some, Option.map_none, Kd_setI, Ln_setI, Mr_setI, Kd_setR, Ln_setR, Mi_setR, Int.reduceNatCast', Int.reduceNeg, Int.reduceAdd, Int.reduceSub, Int.reduceMul, Int.reduceEq, Int.reduceNe, Int.reduceLT, Int.reduceLE, Nat.reduceAdd, Nat.reduceSub, Nat.reduceLT, Nat.reduceLeDiff, Nat.reduceEqDiff, Mi_setI]
    repeat' (first | (with_reducible refine And.intro ?_ ?_) | (with_reducible intro _) | (exact Nat.le_of_ble_eq_true rfl) | (refine bFa_release_0 _ _ _ _ _ ?_; simp only [o_const, o_null, o_lconst, o_iload, o_aload, o_istore, o_astore, o_iinc, o_iadd, o_isub, o_imul, o_idiv, o_irem, o_ineg, o_i2l, o_lcmp, o_dup, o_dup2, o_goto, o_max, o_min, o_objinit, o_icmplt, o_iflt, o_icmpge, o_ifge, o_icmpgt, o_ifgt, o_icmple, o_ifle, o_icmpeq, o_ifeq, o_icmpne, o_ifne, o_ifnull, o_ifnonnull, o_acmpeq, o_acmpne, o_tsw, tsw, o_getI, o_getR, o_putI, o_putZ, o_putR, o_iald, o_bald, o_lald, o_aald, o_iast, o_bast, o_last, o_aast, o_alen, o_new, o_newa, o_iret, o_zret, o_aret, o_vret, o_throw, o_call, o_callV, o_aft_v, o_aft_n, o_aft_x, o_up_e, lget, lset, all1, dr_some, List.take_succ_cons, List.take_zero, List.drop_succ_cons, List.drop_zero, List.reverse_cons, List.reverse_nil, List.nil_append, List.cons_append, List.length_cons, List.length_nil, List.take_nil, List.drop_nil, true_and, and_true, false_and, and_false, true_implies, implies_true, false_implies, ne_eq, not_true_eq_false, not_false_eq_true, reduceCtorEq, Option.some.injEq, if_true, if_false, ite_true, ite_false, Nat.zero_add, eq_self, okn_some, okn_none, forall_const, true_or, or_true, false_or, or_false, Option.map_some, Option.map_none, Kd_setI, Ln_setI, Mr_setI, Kd_setR, Ln_setR, Mi_setR, Int.reduceNatCast', Int.reduceNeg, Int.reduceAdd, Int.reduceSub, Int.reduceMul, Int.reduceEq, Int.reduceNe, Int.reduceLT, Int.reduceLE, Nat.reduceAdd, Nat.reduceSub, Nat.reduceLT, Nat.reduceLeDiff, Nat.reduceEqDiff, Mi_setI]) | (refine bFa_release_31 _ _ _ _ _ ?_; simp only [o_const, o_null, o_lconst, o_iload, o_aload, o_istore, o_astore, o_iinc, o_iadd, o_isub, o_imul, o_idiv, o_irem, o_ineg, o_i2l, o_lcmp, o_dup, o_dup2, o_goto, o_max, o_min, o_objinit, o_icmplt, o_iflt, o_icmpge, o_ifge, o_icmpgt, o_ifgt, o_icmple, o_ifle, o_icmpeq, o_ifeq, o_icmpne, o_ifne, o_ifnull, o_ifnonnull, o_acmpeq, o_acmpne, o_tsw, tsw, o_getI, o_getR, o_putI, o_putZ, o_putR, o_iald, o_bald, o_lald, o_aald, o_iast, o_bast, o_last, o_aast, o_alen, o_new, o_newa, o_iret, o_zret, o_aret, o_vret, o_throw, o_call, o_callV, o_aft_v, o_aft_n, o_aft_x, o_up_e, lget, lset, all1, dr_some, List.take_succ_cons, List.take_zero, List.drop_succ_cons, List.drop_zero, List.reverse_cons, List.reverse_nil, List.nil_append, List.cons_append, List.length_cons, List.length_nil, List.take_nil, List.drop_nil, true_and, and_true, false_and, and_false, true_implies, implies_true, false_implies, ne_eq, not_true_eq_false, not_false_eq_true, reduceCtorEq, Option.some.injEq, if_true, if_false, ite_true, ite_false, Nat.zero_add, eq_self, okn_some, okn_none, forall_const, true_or, or_true, false_or, or_false, Option.map_some, Option.map_none, Kd_setI, Ln_setI, Mr_setI, Kd_setR, Ln_setR, Mi_setR, Int.reduceNatCast', Int.reduceNeg, Int.reduceAdd, Int.reduceSub, Int.reduceMul, Int.reduceEq, Int.reduceNe, Int.reduceLT, Int.reduceLE, Nat.reduceAdd, Nat.reduceSub, Nat.reduceLT, Nat.reduceLeDiff, Nat.reduceEqDiff, Mi_setI]) | (refine bFa_release_69 _ _ _ _ _ ?_; simp only [o_const, o_null, o_lconst, o_iload, o_aload, o_istore, o_astore, o_iinc, o_iadd, o_isub, o_imul, o_idiv, o_irem, o_ineg, o_i2l, o_lcmp, o_dup, o_dup2, o_goto, o_max, o_min, o_objinit, o_icmplt, o_iflt, o_icmpge, o_ifge, o_icmpgt, o_ifgt, o_icmple, o_ifle, o_icmpeq, o_ifeq, o_icmpne, o_ifne, o_ifnull, o_ifnonnull, o_acmpeq, o_acmpne, o_tsw, tsw, o_getI, o_getR, o_putI, o_putZ, o_putR, o_iald, o_bald, o_lald, o_aald, o_iast, o_bast, o_last, o_aast, o_alen, o_new, o_newa, o_iret, o_zret, o_aret, o_vret, o_throw, o_call, o_callV, o_aft_v, o_aft_n, o_aft_x, o_up_e, lget, lset, all1, dr_some, List.take_succ_cons, List.take_zero, List.drop_succ_cons, List.drop_zero, List.reverse_cons, List.reverse_nil, List.nil_append, List.cons_append, List.length_cons, List.length_nil, List.take_nil, List.drop_nil, true_and, and_true, false_and, and_false, true_implies, implies_true, false_implies, ne_eq, not_true_eq_false, not_false_eq_true, reduceCtorEq, Option.some.injEq, if_true, if_false, ite_true, ite_false, Nat.zero_add, eq_self, okn_some, okn_none, forall_const, true_or, or_true, false_or, or_false, Option.map_some, Option.map_none, Kd_setI, Ln_setI, Mr_setI, Kd_setR, Ln_setR, Mi_setR, Int.reduceNatCast', Int.reduceNeg, Int.reduceAdd, Int.reduceSub, Int.reduceMul, Int.reduceEq, Int.reduceNe, Int.reduceLT, Int.reduceLE, Nat.reduceAdd, Nat.reduceSub, Nat.reduceLT, Nat.reduceLeDiff, Nat.reduceEqDiff, Mi_setI]) | (refine bFa_release_75 _ _ _ _ _ ?_; simp only [o_const, o_null, o_lconst, o_iload, o_aload, o_istore, o_astore, o_iinc, o_iadd, o_isub, o_imul, o_idiv, o_irem, o_ineg, o_i2l, o_lcmp, o_dup, o_dup2, o_goto, o_max, o_min, o_objinit, o_icmplt, o_iflt, o_icmpge, o_ifge, o_icmpgt, o_ifgt, o_icmple, o_ifle, o_icmpeq, o_ifeq, o_icmpne, o_ifne, o_ifnull, o_ifnonnull, o_acmpeq, o_acmpne, o_tsw, tsw, o_getI, o_getR, o_putI, o_putZ, o_putR, o_iald, o_bald, o_lald, o_aald, o_iast, o_bast, o_last, o_aast, o_alen, o_new, o_newa, o_iret, o_zret, o_aret, o_vret, o_throw, o_call, o_callV, o_aft_v, o_aft_n, o_aft_x, o_up_e, lget, lset, all1, dr_some, List.take_succ_cons, List.take_zero, List.drop_succ_cons, List.drop_zero, List.reverse_cons, List.reverse_nil, List.nil_append, List.cons_append, List.length_cons, List.length_nil, List.take_nil, List.drop_nil, true_and, and_true, false_and, and_false, true_implies, implies_true, false_implies, ne_eq, not_true_eq_false, not_false_eq_true, reduceCtorEq, Option.some.injEq, if_true, if_false, ite_true, ite_false, Nat.zero_add, eq_self, okn_some, okn_none, forall_const, true_or, or_true, false_or, or_false, Option.map_some, Option.map_none, Kd_setI, Ln_setI, Mr_setI, Kd_setR, Ln_setR, Mi_setR, Int.reduceNatCast', Int.reduceNeg, Int.reduceAdd, Int.reduceSub, Int.reduceMul, Int.reduceEq, Int.reduceNe, Int.reduceLT, Int.reduceLE, Nat.reduceAdd, Nat.reduceSub, Nat.reduceLT, Nat.reduceLeDiff, Nat.reduceEqDiff, Mi_setI]) | (simp only [o_const, o_null, o_lconst, o_iload, o_aload, o_istore, o_astore, o_iinc, o_iadd, o_isub, o_imul, o_idiv, o_irem, o_ineg, o_i2l, o_lcmp, o_dup, o_dup2, o_goto, o_max, o_min, o_objinit, o_icmplt, o_iflt, o_icmpge, o_ifge, o_icmpgt, o_ifgt, o_icmple, o_ifle, o_icmpeq, o_ifeq, o_icmpne, o_ifne, o_ifnull, o_ifnonnull, o_acmpeq, o_acmpne, o_tsw, tsw, o_getI, o_getR, o_putI, o_putZ, o_putR, o_iald, o_bald, o_lald, o_aald, o_iast, o_bast, o_last, o_aast, o_alen, o_new, o_newa, o_iret, o_zret, o_aret, o_vret, o_throw, o_call, o_callV, o_aft_v, o_aft_n, o_aft_x, o_up_e, lget, lset, all1, dr_some, List.take_succ_cons, List.take_zero, List.drop_succ_cons, List.drop_zero, List.reverse_cons, List.reverse_nil, List.nil_append, List.cons_append, List.length_cons, List.length_nil, List.take_nil, List.drop_nil, true_and, and_true, false_and, and_false, true_implies, implies_true, false_implies, ne_eq, not_true_eq_false, not_false_eq_true, reduceCtorEq, Option.some.injEq, if_true, if_false, ite_true, ite_false, Nat.zero_add, eq_self, okn_some, okn_none, forall_const, true_or, or_true, false_or, or_false, Option.map_some, Option.map_none, Kd_setI, Ln_setI, Mr_setI, Kd_setR, Ln_setR, Mi_setR, Int.reduceNatCast', Int.reduceNeg, Int.reduceAdd, Int.reduceSub, Int.reduceMul, Int.reduceEq, Int.reduceNe, Int.reduceLT, Int.reduceLE, Nat.reduceAdd, Nat.reduceSub, Nat.reduceLT, Nat.reduceLeDiff, Nat.reduceEqDiff, Mi_setI]) | (unfold rng; omega) | omega)
    all_goals first | exact K | done
  have js := jq_spec (f := f) a42
  have KQ : ∀ c9 s9, Ru kFa_release d none P 12 [some (pR (some 16)), some (pR (some N)), some (pI (A 42 0 0 - 1))] [] h1 c9 s9 := fun c9 s9 => by
    rcases js with ⟨j1, j2⟩ | ⟨j0, j1, j2⟩
    · refine l_rel_none (q := fun i => fN A (A 43 i 0)) QS1.1 QS1.2.1 QS1.2.2.1 QS1.2.2.2.1 k11 (KM h1 c9 s9 (by rw [eh1]; rfl) (by rw [eh1]; rfl) (fun n _ => by rw [eh1]; rfl) (fun n _ q2 => by rw [eh1]; funext i; rw [Mi_setI, if_neg (fun q => q2 q.1)]) (fun k _ => by rw [eh1, Mi_setI, if_neg (by omega)]) (by rw [eh1, Mi_setI, if_neg (by omega), rls_42, if_neg (fun q => q j1)]; exact y2.2.1) (fun i i0 i1 => ?_) (fun k hk => by rw [eh1, Mi_setI, if_neg (fun q => hk q.2)]) (by rw [eh1, Mi_setI, if_pos ⟨rfl, rfl⟩])) (A 42 0 0).toNat (A 42 0 0 - 1) (by omega) (by omega) (fun k k0 k1 => ⟨(QS1.2.2.2.2.2 k k0 (by omega)).1, fun q => j2 k k0 (by omega) ((inj _ (aQ k k0 (by omega)).1).1 q), (QS1.2.2.2.2.2 k k0 (by omega)).2⟩)
      rw [rls_42, if_neg (fun q => q j1)] at i1
      rw [rls_43, if_neg (fun q => q.1 j1), eh1, Mr_setI]
      exact y4 i i0 i1
    · have hj : jq A f ≠ -1 := by omega
      refine l_rel_find (by omega) QS1 a42' j0 j1 k11 (by show fN A (A 43 (jq A f) 0) = N; rw [j2, efN]) (fun i i0 i1 hi q => ?_) (fun h' f1 f2 f3 f4 f5 f6 f7 => KM h' c9 s9 (by rw [f1, eh1]; rfl) (by rw [f2, eh1]; rfl) (fun n hn => by rw [f3 n hn, eh1]; rfl) (fun n q1 q2 => by rw [f5 n q1, eh1]; funext i; rw [Mi_setI, if_neg (fun q => q2 q.1)]) (fun k hk => by rw [f6 k hk, eh1, Mi_setI, if_neg (by omega)]) (by rw [f7, rls_42, if_pos hj]) (fun i i0 i1 => ?_) (fun k hk => by rw [f5 N (by omega), eh1, Mi_setI, if_neg (fun q => hk q.2)]) (by rw [f5 N (by omega), eh1, Mi_setI, if_pos ⟨rfl, rfl⟩])) (A 42 0 0 - 1 - jq A f).toNat (A 42 0 0 - 1) (by omega) (by omega)
      · have q2 := (inj _ (aQ i i0 i1).1).1 q
        rw [← j2] at q2
        rcases Int.lt_trichotomy i (jq A f) with w | w | w
        · exact aD i _ i0 w j1 q2
        · exact hi w
        · exact aD _ i j0 w i1 q2.symm
      · rw [rls_42, if_pos hj] at i1
        rw [f4 i i0 i1, rls_43, eh1]
        by_cases w : i < jq A f
        · rw [if_pos w, if_neg (by omega), Mr_setI]; exact y4 i i0 (by omega)
        · rw [if_neg w, if_pos ⟨hj, by omega⟩, Mr_setI]; exact y4 (i + 1) (by omega) (by omega)
  have v1 : Kd h 16 = 5 := y1.1
  have v3 : Mi h 16 3 = A 42 0 0 := y2.2.1
  have v3' : Mi h1 16 3 = A 42 0 0 := QS1.2.2.2.2.1
  have eh : setI h N 4 0 = h1 := eh1.symm
  have v1' : Kd h1 16 = 5 := QS1.1
  have f1 : (16 = N) = False := eq_false (by omega)
  clear H KM aQ aD aM y1 y2 y3 y4 y5 QS QS1 eh1 R T I J G
  refine eFa_release ?_
  repeat' (first | (with_reducible refine And.intro ?_ ?_) | (with_reducible intro _) | (exact Nat.le_of_ble_eq_true rfl) | (refine bFa_release_0 _ _ _ _ _ ?_; simp only [o_const, o_null, o_lconst, o_iload, o_aload, o_istore, o_astore, o_iinc, o_iadd, o_isub, o_imul, o_idiv, o_irem, o_ineg, o_i2l, o_lcmp, o_dup, o_dup2, o_goto, o_max, o_min, o_objinit, o_icmplt, o_iflt, o_icmpge, o_ifge, o_icmpgt, o_ifgt, o_icmple, o_ifle, o_icmpeq, o_ifeq, o_icmpne, o_ifne, o_ifnull, o_ifnonnull, o_acmpeq, o_acmpne, o_tsw, tsw, o_getI, o_getR, o_putI, o_putZ, o_putR, o_iald, o_bald, o_lald, o_aald, o_iast, o_bast, o_last, o_aast, o_alen, o_new, o_newa, o_iret, o_zret, o_aret, o_vret, o_throw, o_call, o_callV, o_aft_v, o_aft_n, o_aft_x, o_up_e, lget, lset, all1, dr_some, List.take_succ_cons, List.take_zero, List.drop_succ_cons, List.drop_zero, List.reverse_cons, List.reverse_nil, List.nil_append, List.cons_append, List.length_cons, List.length_nil, List.take_nil, List.drop_nil, true_and, and_true, false_and, and_false, true_implies, implies_true, false_implies, ne_eq, not_true_eq_false, not_false_eq_true, reduceCtorEq, Option.some.injEq, if_true, if_false, ite_true, ite_false, Nat.zero_add, eq_self, okn_some, okn_none, forall_const, true_or, or_true, false_or, or_false, Option.map_some, Option.map_none, Kd_setI, Ln_setI, Mr_setI, Kd_setR, Ln_setR, Mi_setR, Int.reduceNatCast', Int.reduceNeg, Int.reduceAdd, Int.reduceSub, Int.reduceMul, Int.reduceEq, Int.reduceNe, Int.reduceLT, Int.reduceLE, Nat.reduceAdd, Nat.reduceSub, Nat.reduceLT, Nat.reduceLeDiff, Nat.reduceEqDiff, Mi_setI, k1, eh, v1, v3, v3', v1', f1]) | (refine bFa_release_31 _ _ _ _ _ ?_; simp only [o_const, o_null, o_lconst, o_iload, o_aload, o_istore, o_astore, o_iinc, o_iadd, o_isub, o_imul, o_idiv, o_irem, o_ineg, o_i2l, o_lcmp, o_dup, o_dup2, o_goto, o_max, o_min, o_objinit, o_icmplt, o_iflt, o_icmpge, o_ifge, o_icmpgt, o_ifgt, o_icmple, o_ifle, o_icmpeq, o_ifeq, o_icmpne, o_ifne, o_ifnull, o_ifnonnull, o_acmpeq, o_acmpne, o_tsw, tsw, o_getI, o_getR, o_putI, o_putZ, o_putR, o_iald, o_bald, o_lald, o_aald, o_iast, o_bast, o_last, o_aast, o_alen, o_new, o_newa, o_iret, o_zret, o_aret, o_vret, o_throw, o_call, o_callV, o_aft_v, o_aft_n, o_aft_x, o_up_e, lget, lset, all1, dr_some, List.take_succ_cons, List.take_zero, List.drop_succ_cons, List.drop_zero, List.reverse_cons, List.reverse_nil, List.nil_append, List.cons_append, List.length_cons, List.length_nil, List.take_nil, List.drop_nil, true_and, and_true, false_and, and_false, true_implies, implies_true, false_implies, ne_eq, not_true_eq_false, not_false_eq_true, reduceCtorEq, Option.some.injEq, if_true, if_false, ite_true, ite_false, Nat.zero_add, eq_self, okn_some, okn_none, forall_const, true_or, or_true, false_or, or_false, Option.map_some, Option.map_none, Kd_setI, Ln_setI, Mr_setI, Kd_setR, Ln_setR, Mi_setR, Int.reduceNatCast', Int.reduceNeg, Int.reduceAdd, Int.reduceSub, Int.reduceMul, Int.reduceEq, Int.reduceNe, Int.reduceLT, Int.reduceLE, Nat.reduceAdd, Nat.reduceSub, Nat.reduceLT, Nat.reduceLeDiff, Nat.reduceEqDiff, Mi_setI, k1, eh, v1, v3, v3', v1', f1]) | (refine bFa_release_69 _ _ _ _ _ ?_; simp only [o_const, o_null, o_lconst, o_iload, o_aload, o_istore, o_astore, o_iinc, o_iadd, o_isub, o_imul, o_idiv, o_irem, o_ineg, o_i2l, o_lcmp, o_dup, o_dup2, o_goto, o_max, o_min, o_objinit, o_icmplt, o_iflt, o_icmpge, o_ifge, o_icmpgt, o_ifgt, o_icmple, o_ifle, o_icmpeq, o_ifeq, o_icmpne, o_ifne, o_ifnull, o_ifnonnull, o_acmpeq, o_acmpne, o_tsw, tsw, o_getI, o_getR, o_putI, o_putZ, o_putR, o_iald, o_bald, o_lald, o_aald, o_iast, o_bast, o_last, o_aast, o_alen, o_new, o_newa, o_iret, o_zret, o_aret, o_vret, o_throw, o_call, o_callV, o_aft_v, o_aft_n, o_aft_x, o_up_e, lget, lset, all1, dr_some, List.take_succ_cons, List.take_zero, List.drop_succ_cons, List.drop_zero, List.reverse_cons, List.reverse_nil, List.nil_append, List.cons_append, List.length_cons, List.length_nil, List.take_nil, List.drop_nil, true_and, and_true, false_and, and_false, true_implies, implies_true, false_implies, ne_eq, not_true_eq_false, not_false_eq_true, reduceCtorEq, Option.some.injEq, if_true, if_false, ite_true, ite_false, Nat.zero_add, eq_self, okn_some, okn_none, forall_const, true_or, or_true, false_or, or_false, Option.map_some, Option.map_none, Kd_setI, Ln_setI, Mr_setI, Kd_setR, Ln_setR, Mi_setR, Int.reduceNatCast', Int.reduceNeg, Int.reduceAdd, Int.reduceSub, Int.reduceMul, Int.reduceEq, Int.reduceNe, Int.reduceLT, Int.reduceLE, Nat.reduceAdd, Nat.reduceSub, Nat.reduceLT, Nat.reduceLeDiff, Nat.reduceEqDiff, Mi_setI, k1, eh, v1, v3, v3', v1', f1]) | (refine bFa_release_75 _ _ _ _ _ ?_; simp only [o_const, o_null, o_lconst, o_iload, o_aload, o_istore, o_astore, o_iinc, o_iadd, o_isub, o_imul, o_idiv, o_irem, o_ineg, o_i2l, o_lcmp, o_dup, o_dup2, o_goto, o_max, o_min, o_objinit, o_icmplt, o_iflt, o_icmpge, o_ifge, o_icmpgt, o_ifgt, o_icmple, o_ifle, o_icmpeq, o_ifeq, o_icmpne, o_ifne, o_ifnull, o_ifnonnull, o_acmpeq, o_acmpne, o_tsw, tsw, o_getI, o_getR, o_putI, o_putZ, o_putR, o_iald, o_bald, o_lald, o_aald, o_iast, o_bast, o_last, o_aast, o_alen, o_new, o_newa, o_iret, o_zret, o_aret, o_vret, o_throw, o_call, o_callV, o_aft_v, o_aft_n, o_aft_x, o_up_e, lget, lset, all1, dr_some, List.take_succ_cons, List.take_zero, List.drop_succ_cons, List.drop_zero, List.reverse_cons, List.reverse_nil, List.nil_append, List.cons_append, List.length_cons, List.length_nil, List.take_nil, List.drop_nil, true_and, and_true, false_and, and_false, true_implies, implies_true, false_implies, ne_eq, not_true_eq_false, not_false_eq_true, reduceCtorEq, Option.some.injEq, if_true, if_false, ite_true, ite_false, Nat.zero_add, eq_self, okn_some, okn_none, forall_const, true_or, or_true, false_or, or_false, Option.map_some, Option.map_none, Kd_setI, Ln_setI, Mr_setI, Kd_setR, Ln_setR, Mi_setR, Int.reduceNatCast', Int.reduceNeg, Int.reduceAdd, Int.reduceSub, Int.reduceMul, Int.reduceEq, Int.reduceNe, Int.reduceLT, Int.reduceLE, Nat.reduceAdd, Nat.reduceSub, Nat.reduceLT, Nat.reduceLeDiff, Nat.reduceEqDiff, Mi_setI, k1, eh, v1, v3, v3', v1', f1]) | (simp only [o_const, o_null, o_lconst, o_iload, o_aload, o_istore, o_astore, o_iinc, o_iadd, o_isub, o_imul, o_idiv, o_irem, o_ineg, o_i2l, o_lcmp, o_dup, o_dup2, o_goto, o_max, o_min, o_objinit, o_icmplt, o_iflt, o_icmpge, o_ifge, o_icmpgt, o_ifgt, o_icmple, o_ifle, o_icmpeq, o_ifeq, o_icmpne, o_ifne, o_ifnull, o_ifnonnull, o_acmpeq, o_acmpne, o_tsw, tsw, o_getI, o_getR, o_putI, o_putZ, o_putR, o_iald, o_bald, o_lald, o_aald, o_iast, o_bast, o_last, o_aast, o_alen, o_new, o_newa, o_iret, o_zret, o_aret, o_vret, o_throw, o_call, o_callV, o_aft_v, o_aft_n, o_aft_x, o_up_e, lget, lset, all1, dr_some, List.take_succ_cons, List.take_zero, List.drop_succ_cons, List.drop_zero, List.reverse_cons, List.reverse_nil, List.nil_append, List.cons_append, List.length_cons, List.length_nil, List.take_nil, List.drop_nil, true_and, and_true, false_and, and_false, true_implies, implies_true, false_implies, ne_eq, not_true_eq_false, not_false_eq_true, reduceCtorEq, Option.some.injEq, if_true, if_false, ite_true, ite_false, Nat.zero_add, eq_self, okn_some, okn_none, forall_const, true_or, or_true, false_or, or_false, Option.map_some, Option.map_none, Kd_setI, Ln_setI, Mr_setI, Kd_setR, Ln_setR, Mi_setR, Int.reduceNatCast', Int.reduceNeg, Int.reduceAdd, Int.reduceSub, Int.reduceMul, Int.reduceEq, Int.reduceNe, Int.reduceLT, Int.reduceLE, Nat.reduceAdd, Nat.reduceSub, Nat.reduceLT, Nat.reduceLeDiff, Nat.reduceEqDiff, Mi_setI, k1, eh, v1, v3, v3', v1', f1]) | (unfold rng; omega) | omega)
  all_goals first | exact KQ _ _ | (exfalso; omega) | done
