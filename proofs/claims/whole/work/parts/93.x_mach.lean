/-- numbers of the machines and of the farm -/
theorem RC.mach {A B : AS} {h h' : Mh} (R : RC A h) (T : Stx A) (e : ∀ g, g ∉ [40, 41, 45, 46] → B g = A g) (c1 : Kd h' = Kd h) (c2 : Ln h' = Ln h) (c3 : Mr h' = Mr h) (so : ∀ n, n ≠ 16 → (n < 32000 ∨ 32004 ≤ n) → Mi h' n = Mi h n) (m16 : ∀ k : Int, k ≠ 6 → k ≠ 7 → Mi h' 16 k = Mi h 16 k) (m6 : Mi h' 16 6 = B 45 0 0) (m7 : Mi h' 16 7 = B 46 0 0)
    (mm : ∀ m, 0 ≤ m → m < A 36 0 0 → (∀ k : Int, k < 4 → Mi h' (32000 + m.toNat) k = Mi h (32000 + m.toNat) k) ∧ Mi h' (32000 + m.toNat) 4 = B 40 m 0 ∧ Mi h' (32000 + m.toNat) 5 = B 41 m 0) : RC B h' := by
  have T' := T
  obtain ⟨V9, D9, a16, a36, a47, a51, G9⟩ := T'
  have hc : ∀ t k, cN t k = 20010 + 200 * t.toNat + 10 * k.toNat := fun t k => rfl
  have hb : ∀ t, sN t = 20000 + 200 * t.toNat := fun t => rfl
  refine R.mid T (fun g hg => e g (fun q => hg (by revert q; simp only [List.mem_cons, List.not_mem_nil, or_false]; omega))) c1 c2 (fun n q1 q2 q3 => ⟨so n q1 (by omega), by rw [c3]⟩) (fun t t0 t1 n n0 n1 => ⟨so n (by rw [hb] at n0; omega) (by rw [hb] at n1; omega), by rw [c3]⟩) (fun t k t0 t1 k0 k1 => ⟨by rw [c3], by rw [so _ (by rw [hc]; omega) (by rw [hc]; omega)], so _ (by rw [hc]; omega) (by rw [hc]; omega), so _ (by rw [hc]; omega) (by rw [hc]; omega)⟩) ?_ ?_ ?_ ?_
  · exact R.xt.of3 a16 G9 (fun g hg => e g (fun q => by revert hg q; simp only [gT, List.mem_cons, List.not_mem_nil, or_false]; omega)) (fun t k t0 t1 k0 k1 => by rw [so _ (by rw [hc]; omega) (by rw [hc]; omega)]; exact ⟨rfl, rfl⟩)
  · exact R.xi.of3 a16 G9 (fun g hg => e g (fun q => by revert hg q; simp only [gI, List.mem_cons, List.not_mem_nil, or_false]; omega)) (fun t k t0 t1 k0 k1 => ⟨fun i hi => by rw [so _ (by rw [hc]; omega) (by rw [hc]; omega)], by rw [c3], so _ (by rw [hc]; omega) (by rw [hc]; omega)⟩)
  · obtain ⟨y1, y2, y3, y4, y5⟩ := R.xm
    unfold RCm
    rw [c1, c2, c3, m16 1 (by decide) (by decide), m16 3 (by decide) (by decide), m16 4 (by decide) (by decide), m6, m7, e 35 (by decide), e 36 (by decide), e 37 (by decide), e 38 (by decide), e 39 (by decide), e 42 (by decide), e 43 (by decide), fN_of (e 103 (by decide))]
    refine ⟨y1, ⟨y2.1, y2.2.1, y2.2.2.1, rfl, rfl⟩, fun k k0 k1 => ?_, y4, y5⟩
    obtain ⟨x1, x2, x3⟩ := mm k k0 k1
    rw [x1 0 (by decide), x1 1 (by decide), x1 2 (by decide), x2, x3]
    obtain ⟨z1, z2, z3, z4, z5, z6, -, -⟩ := y3 k k0 k1
    exact ⟨z1, z2, z3, z4, z5, z6, rfl, rfl⟩
  · exact R.xu.of (e 32 (by decide)) (e 33 (by decide)) (m16 5 (by decide) (by decide))
theorem RC.m40 {A : AS} {h : Mh} (R : RC A h) (T : Stx A) {m v : Int} (m0 : 0 ≤ m) (m1 : m < A 36 0 0) : RC (up A 40 m 0 v) (setI h (32000 + m.toNat) 4 v) := by
  have a36 := T.2.2.2.1
  obtain ⟨y1, y2, y3, y4, y5⟩ := R.xm
  refine R.mach T (fun g hg => by funext i j; exact up_f (fun q => hg (by rw [q]; decide))) rfl rfl rfl (fun n q1 q2 => by funext i; rw [Mi_setI, if_neg (by omega)]) (fun k q1 q2 => by rw [Mi_setI, if_neg (by omega)]) (by rw [Mi_setI, if_neg (by omega), up_f (by decide)]; exact y2.2.2.2.1) (by rw [Mi_setI, if_neg (by omega), up_f (by decide)]; exact y2.2.2.2.2) (fun k k0 k1 => ⟨fun i hi => by rw [Mi_setI, if_neg (by omega)], ?_, ?_⟩)
  · rw [Mi_setI, up_at]
    by_cases z : k = m
    · rw [if_pos ⟨by rw [z], rfl⟩, if_pos ⟨z, rfl⟩]
    · rw [if_neg (fun q => z (by omega)), if_neg (fun q => z q.1)]; exact (y3 k k0 k1).2.2.2.2.2.2.1
  · rw [Mi_setI, if_neg (by omega), up_f (by decide)]; exact (y3 k k0 k1).2.2.2.2.2.2.2
theorem RC.m41 {A : AS} {h : Mh} (R : RC A h) (T : Stx A) {m v : Int} (m0 : 0 ≤ m) (m1 : m < A 36 0 0) : RC (up A 41 m 0 v) (setI h (32000 + m.toNat) 5 v) := by
  have a36 := T.2.2.2.1
  obtain ⟨y1, y2, y3, y4, y5⟩ := R.xm
  refine R.mach T (fun g hg => by funext i j; exact up_f (fun q => hg (by rw [q]; decide))) rfl rfl rfl (fun n q1 q2 => by funext i; rw [Mi_setI, if_neg (by omega)]) (fun k q1 q2 => by rw [Mi_setI, if_neg (by omega)]) (by rw [Mi_setI, if_neg (by omega), up_f (by decide)]; exact y2.2.2.2.1) (by rw [Mi_setI, if_neg (by omega), up_f (by decide)]; exact y2.2.2.2.2) (fun k k0 k1 => ⟨fun i hi => by rw [Mi_setI, if_neg (by omega)], ?_, ?_⟩)
  · rw [Mi_setI, if_neg (by omega), up_f (by decide)]; exact (y3 k k0 k1).2.2.2.2.2.2.1
  · rw [Mi_setI, up_at]
    by_cases z : k = m
    · rw [if_pos ⟨by rw [z], rfl⟩, if_pos ⟨z, rfl⟩]
    · rw [if_neg (fun q => z (by omega)), if_neg (fun q => z q.1)]; exact (y3 k k0 k1).2.2.2.2.2.2.2
theorem RC.m45 {A : AS} {h : Mh} (R : RC A h) (T : Stx A) {v : Int} : RC (up A 45 0 0 v) (setI h 16 6 v) := by
  have a36 := T.2.2.2.1
  obtain ⟨y1, y2, y3, y4, y5⟩ := R.xm
  refine R.mach T (fun g hg => by funext i j; exact up_f (fun q => hg (by rw [q]; decide))) rfl rfl rfl (fun n q1 q2 => by funext i; rw [Mi_setI, if_neg (by omega)]) (fun k q1 q2 => by rw [Mi_setI, if_neg (by omega)]) (by rw [Mi_setI, if_pos ⟨rfl, rfl⟩, up_s]) (by rw [Mi_setI, if_neg (by omega), up_f (by decide)]; exact y2.2.2.2.2) (fun k k0 k1 => ⟨fun i hi => by rw [Mi_setI, if_neg (by omega)], ?_, ?_⟩)
  · rw [Mi_setI, if_neg (by omega), up_f (by decide)]; exact (y3 k k0 k1).2.2.2.2.2.2.1
  · rw [Mi_setI, if_neg (by omega), up_f (by decide)]; exact (y3 k k0 k1).2.2.2.2.2.2.2
theorem RC.m46 {A : AS} {h : Mh} (R : RC A h) (T : Stx A) {v : Int} : RC (up A 46 0 0 v) (setI h 16 7 v) := by
  have a36 := T.2.2.2.1
  obtain ⟨y1, y2, y3, y4, y5⟩ := R.xm
  refine R.mach T (fun g hg => by funext i j; exact up_f (fun q => hg (by rw [q]; decide))) rfl rfl rfl (fun n q1 q2 => by funext i; rw [Mi_setI, if_neg (by omega)]) (fun k q1 q2 => by rw [Mi_setI, if_neg (by omega)]) (by rw [Mi_setI, if_neg (by omega), up_f (by decide)]; exact y2.2.2.2.1) (by rw [Mi_setI, if_pos ⟨rfl, rfl⟩, up_s]) (fun k k0 k1 => ⟨fun i hi => by rw [Mi_setI, if_neg (by omega)], ?_, ?_⟩)
  · rw [Mi_setI, if_neg (by omega), up_f (by decide)]; exact (y3 k k0 k1).2.2.2.2.2.2.1
  · rw [Mi_setI, if_neg (by omega), up_f (by decide)]; exact (y3 k k0 k1).2.2.2.2.2.2.2
/-- a machine and a frame -/
theorem RC.mfr {c : Int} {A B : AS} {h h' : Mh} (R : RC A h) (T : Stx A) (I : IvS c A) {s p m : Int} (hP : isP A s p) (m0 : 0 ≤ m) (m1 : m < A 36 0 0) (e : ∀ g, g ∉ [39, 40, 41] → B g = A g) (em : ∀ g k, k ≠ m → B g k 0 = A g k 0) (c1 : Kd h' = Kd h) (c2 : Ln h' = Ln h) (r : ∀ n, n ≠ 32000 + m.toNat → Mr h' n = Mr h n) (mi : ∀ n, n ≠ 32000 + m.toNat → n ≠ cN s (A 105 s p) → Mi h' n = Mi h n) (mf : ∀ k : Int, k ≠ 4 → Mi h' (cN s (A 105 s p)) k = Mi h (cN s (A 105 s p)) k) (mm : ∀ k : Int, k < 4 → Mi h' (32000 + m.toNat) k = Mi h (32000 + m.toNat) k)
    (m3 : Mr h' (32000 + m.toNat) 3 = if B 39 m 0 = -1 then none else some (fN A (B 39 m 0))) (m4 : Mi h' (32000 + m.toNat) 4 = B 40 m 0) (m5 : Mi h' (32000 + m.toNat) 5 = B 41 m 0)
    (wo : ∀ f x, f ≠ A 18 s p → 0 ≤ f → Whr A f x → Whr B f x) (wf : Whr B (A 18 s p) (Mi h' (cN s (A 105 s p)) 4)) (h5 : Mi h' (cN s (A 105 s p)) 4 ≠ 0 → Mi h (cN s (A 105 s p)) 5 = A 44 (A 18 s p) 0) : RC B h' := by
  have T' := T
  obtain ⟨V9, D9, a16, a36, a47, a51, G9⟩ := T'
  have hs0 := hP.1
  have hs1 := hP.2.1
  have p0 := hP.2.2.1
  have p1 := hP.2.2.2
  have p16 : p < 16 := by have := (I.2.2.1 s hs0 (by omega)).2.1; omega
  obtain ⟨N, eN⟩ : ∃ N, N = cN s (A 105 s p) := ⟨_, rfl⟩
  have gN := G9.2.2.2.2.2.1 s p hs0 (by omega) p0 p16
  obtain ⟨j9, j0, j1, eN2⟩ : ∃ j : Int, 0 ≤ j ∧ j < 16 ∧ N = 20010 + 200 * s.toNat + 10 * j.toNat := ⟨A 105 s p, gN.1, gN.2, by rw [eN]; rfl⟩
  rw [← eN] at mi mf wf h5
  have hc : ∀ t k, cN t k = 20010 + 200 * t.toNat + 10 * k.toNat := fun t k => rfl
  have hb : ∀ t, sN t = 20000 + 200 * t.toNat := fun t => rfl
  refine R.mid T (fun g hg => e g (fun q => hg (by revert q; simp only [List.mem_cons, List.not_mem_nil, or_false]; omega))) c1 c2 (fun n q1 q2 q3 => ⟨mi n (by omega) (by omega), r n (by omega)⟩) (fun t t0 t1 n n0 n1 => by rw [hb] at n0 n1; exact ⟨mi n (by omega) (by omega), r n (by omega)⟩) (fun t k t0 t1 k0 k1 => ?_) ?_ ?_ ?_ ?_
  · refine ⟨r _ (by rw [hc]; omega), ?_, mi _ (by rw [hc]; omega) (by rw [hc]; omega), mi _ (by rw [hc]; omega) (by rw [hc]; omega)⟩
    by_cases z : cN t k = N
    · rw [z]; exact mf 1 (by decide)
    · rw [mi _ (by rw [hc]; omega) z]
  · intro t q t0 t1 q0 q1
    rw [e 16 (by decide)] at t1
    have y := R.xt t q t0 t1 q0 q1
    unfold FSta at *
    rw [e 17 (by decide), e 18 (by decide), e 105 (by decide), e 44 (by decide)]
    have g := G9.2.2.2.2.2.1 t q t0 (by omega) q0 q1
    by_cases z : t = s ∧ q = p
    · obtain ⟨rfl, rfl⟩ := z
      rw [← eN, mf 5 (by decide)]
      exact ⟨fun _ => ⟨wf, h5⟩, fun w => by omega⟩
    · have hn := cN_ne G9 hs0 (by omega) t0 (by omega) p0 p16 q0 q1 z
      rw [← eN] at hn
      rw [mi _ (by rw [hc]; omega) (by omega)]
      refine ⟨fun w => ⟨wo _ _ (pl_ne I hP ⟨t0, t1, q0, w⟩ z) ?_ (y.1 w).1, (y.1 w).2⟩, y.2⟩
      exact (actv_of I ⟨t0, t1, q0, w⟩).2.2.1
  · refine R.xi.of3 a16 G9 (fun g hg => e g (fun q => by revert hg q; simp only [gI, List.mem_cons, List.not_mem_nil, or_false]; omega)) (fun t k t0 t1 k0 k1 => ⟨fun i hi => ?_, r _ (by rw [hc]; omega), mi _ (by rw [hc]; omega) (by rw [hc]; omega)⟩)
    by_cases z : cN t k = N
    · rw [z]; exact mf i (by omega)
    · rw [mi _ (by rw [hc]; omega) z]
  · obtain ⟨y1, y2, y3, y4, y5⟩ := R.xm
    unfold RCm
    rw [c1, c2, r 16 (by omega), mi 16 (by omega) (by omega), r 21 (by omega), r 22 (by omega), e 35 (by decide), e 36 (by decide), e 37 (by decide), e 38 (by decide), e 42 (by decide), e 43 (by decide), e 45 (by decide), e 46 (by decide), fN_of (e 103 (by decide))]
    refine ⟨y1, y2, fun k k0 k1 => ?_, y4, y5⟩
    obtain ⟨z1, z2, z3, z4, z5, z6, z7, z8⟩ := y3 k k0 k1
    by_cases z : k = m
    · subst z
      rw [mm 0 (by decide), mm 1 (by decide), mm 2 (by decide), m3, m4, m5]
      exact ⟨z1, z2, z3, z4, z5, rfl, rfl, rfl⟩
    · rw [mi _ (by omega) (by omega), r _ (by omega), em 39 k z, em 40 k z, em 41 k z]
      exact ⟨z1, z2, z3, z4, z5, z6, z7, z8⟩
  · exact R.xu.of (e 32 (by decide)) (e 33 (by decide)) (by rw [mi 16 (by omega) (by omega)])
/-- a machine lets go: its frame is nowhere -/
theorem RC.mgo {c c' : Int} {A : AS} {h h' : Mh} (R : RC A h) (T : Stx A) (I : IvS c A) (J : IvM c' A) {s p m : Int} (hP : isP A s p) (m0 : 0 ≤ m) (m1 : m < A 36 0 0) (hm : A 39 m 0 = A 18 s p) (h40 : A 40 m 0 = 0) (e' : h' = setI (setI (setR h (32000 + m.toNat) 3 none) (32000 + m.toNat) 4 0) (cN s (A 105 s p)) 4 0) : RC (up A 39 m 0 (-1)) h' := by
  have ac := actv_of I hP
  have hc : ∀ t k, cN t k = 20010 + 200 * t.toNat + 10 * k.toNat := fun t k => rfl
  have gN := T.2.2.2.2.2.2.2.2.2.2.2.1 s p hP.1 (by have := T.2.2.1; have := hP.2.1; omega) hP.2.2.1 (by have := (I.2.2.1 s hP.1 (by have := T.2.2.1; have := hP.2.1; omega)).2.1; have := hP.2.2.2; omega)
  have s5 : s < 5 := by have := T.2.2.1; have := hP.2.1; omega
  have hs0 := hP.1
  have hN : 20000 ≤ cN s (A 105 s p) ∧ cN s (A 105 s p) < 30000 := by rw [hc]; omega
  have a36 := T.2.2.2.1
  have e : ∀ g, g ≠ 39 → up A 39 m 0 (-1) g = A g := fun g hg => by funext i j; exact up_f hg
  have e39 : ∀ i, up A 39 m 0 (-1) 39 i 0 = if i = m then -1 else A 39 i 0 := fun i => by rw [up_at]; simp
  have y := (R.xm).2.2.1 m m0 m1
  refine R.mfr T I hP m0 m1 (fun g hg => e g (fun q => hg (by rw [q]; decide))) (fun g k hk => by unfold up; rw [if_neg (fun q => hk q.2.1)]) (by rw [e']; rfl) (by rw [e']; rfl) (fun n hn => by rw [e']; funext i; rw [Mr_setI, Mr_setI, Mr_setR, if_neg (fun q => hn q.1)]) (fun n q1 q2 => by rw [e']; funext i; rw [Mi_setI, if_neg (fun q => q2 q.1), Mi_setI, if_neg (fun q => q1 q.1), Mi_setR]) (fun k hk => by rw [e', Mi_setI, if_neg (fun q => hk q.2), Mi_setI, if_neg (by omega), Mi_setR]) (fun k hk => by rw [e', Mi_setI, if_neg (by omega), Mi_setI, if_neg (by omega), Mi_setR]) ?_ ?_ ?_ ?_ ?_ ?_
  · rw [e39, if_pos rfl, if_pos rfl, e', Mr_setI, Mr_setI, Mr_setR, if_pos ⟨rfl, rfl⟩]
  · rw [e', Mi_setI, if_neg (by omega), Mi_setI, if_pos ⟨rfl, rfl⟩, e 40 (by decide), h40]
  · rw [e', Mi_setI, if_neg (by omega), Mi_setI, if_neg (by omega), Mi_setR, e 41 (by decide)]; exact y.2.2.2.2.2.2.2
  · intro f x hf f0 hw
    unfold Whr at *
    rw [e 36 (by decide), e 42 (by decide), e 43 (by decide)]
    rcases hw with ⟨a, b⟩ | ⟨k, k0, k1, k2, k3⟩
    · refine Or.inl ⟨a, fun k k0 k1 => ?_⟩
      rw [e39]; split
      · omega
      · exact b k k0 k1
    · refine Or.inr ⟨k, k0, k1, ?_, k3⟩
      rw [e39, if_neg (fun q => hf (by rw [← k2, q, hm]))]; exact k2
  · rw [e', Mi_setI, if_pos ⟨rfl, rfl⟩]
    unfold Whr
    rw [e 36 (by decide), e 42 (by decide), e 43 (by decide)]
    refine Or.inl ⟨Or.inl ⟨rfl, fun k k0 k1 q => (J.2.2.2.2.2.2.2.2.2.2.2.2.2.2.1 k k0 k1).2.2 m m0 (by omega) (by rw [hm, q])⟩, fun k k0 k1 => ?_⟩
    rw [e39]
    split
    · have := ac.2.2.1; omega
    · next z =>
      intro q
      have j := J.2.2.2.2.2.2.2.2.2.2.2.1
      rcases Int.lt_trichotomy k m with w | w | w
      · have := j k m k0 w (by omega) (by rw [q, hm]); have := ac.2.2.1; omega
      · exact z w
      · have := j m k m0 w (by omega) (by rw [q, hm]); have := ac.2.2.1; omega
  · intro w
    exact absurd (by rw [e', Mi_setI, if_pos ⟨rfl, rfl⟩]) w
/-- a machine takes a frame of the queue, which is still there -/
theorem RC.mtk {c c' : Int} {A : AS} {h h' : Mh} (R : RC A h) (T : Stx A) (I : IvS c A) (J : IvM c' A) {s p m : Int} (hP : isP A s p) (m0 : 0 ≤ m) (m1 : m < A 36 0 0) (hm : A 39 m 0 = -1) (hq : ∃ k, 0 ≤ k ∧ k < A 42 0 0 ∧ A 43 k 0 = A 18 s p) (e' : h' = setI (setR h (32000 + m.toNat) 3 (some (cN s (A 105 s p)))) (cN s (A 105 s p)) 4 (10 + m)) : RC (up A 39 m 0 (A 18 s p)) h' := by
  have ac := actv_of I hP
  have hc : ∀ t k, cN t k = 20010 + 200 * t.toNat + 10 * k.toNat := fun t k => rfl
  have s5 : s < 5 := by have := T.2.2.1; have := hP.2.1; omega
  have p16 : p < 16 := by have := (I.2.2.1 s hP.1 s5).2.1; have := hP.2.2.2; omega
  have gN := T.2.2.2.2.2.2.2.2.2.2.2.1 s p hP.1 s5 hP.2.2.1 p16
  have g8 := T.2.2.2.2.2.2.2.2.2.2.2.2.2 s p hP.1 s5 hP.2.2.1 hP.2.2.2
  have hs0 := hP.1
  have hN : 20000 ≤ cN s (A 105 s p) ∧ cN s (A 105 s p) < 30000 := by rw [hc]; omega
  have a36 := T.2.2.2.1
  have efN : fN A (A 18 s p) = cN s (A 105 s p) := by unfold fN; rw [ac.2.1, g8]; rfl
  have e : ∀ g, g ≠ 39 → up A 39 m 0 (A 18 s p) g = A g := fun g hg => by funext i j; exact up_f hg
  have e39 : ∀ i, up A 39 m 0 (A 18 s p) 39 i 0 = if i = m then A 18 s p else A 39 i 0 := fun i => by rw [up_at]; simp
  have y := (R.xm).2.2.1 m m0 m1
  obtain ⟨yt, yt5⟩ := (R.xt s p hs0 hP.2.1 hP.2.2.1 p16).1 hP.2.2.2
  have w1 : Whr A (A 18 s p) 1 := by
    obtain ⟨k, k0, k1, k2⟩ := hq
    refine Or.inl ⟨Or.inr ⟨rfl, k, k0, k1, k2⟩, fun i i0 i1 q => (J.2.2.2.2.2.2.2.2.2.2.2.2.2.2.1 k k0 k1).2.2 i i0 (by omega) (by rw [q, k2])⟩
  have st := Whr_uniq J ac.2.2.1 yt w1
  refine R.mfr T I hP m0 m1 (fun g hg => e g (fun q => hg (by rw [q]; decide))) (fun g k hk => by unfold up; rw [if_neg (fun q => hk q.2.1)]) (by rw [e']; rfl) (by rw [e']; rfl) (fun n hn => by rw [e']; funext i; rw [Mr_setI, Mr_setR, if_neg (fun q => hn q.1)]) (fun n q1 q2 => by rw [e']; funext i; rw [Mi_setI, if_neg (fun q => q2 q.1), Mi_setR]) (fun k hk => by rw [e', Mi_setI, if_neg (fun q => hk q.2), Mi_setR]) (fun k hk => by rw [e', Mi_setI, if_neg (by omega), Mi_setR]) ?_ ?_ ?_ ?_ ?_ ?_
  · rw [e39, if_pos rfl, if_neg (by have := ac.2.2.1; omega), efN, e', Mr_setI, Mr_setR, if_pos ⟨rfl, rfl⟩]
  · rw [e', Mi_setI, if_neg (by omega), Mi_setR, e 40 (by decide)]; exact y.2.2.2.2.2.2.1
  · rw [e', Mi_setI, if_neg (by omega), Mi_setR, e 41 (by decide)]; exact y.2.2.2.2.2.2.2
  · intro f z hf f0 hw
    unfold Whr at *
    rw [e 36 (by decide), e 42 (by decide), e 43 (by decide)]
    rcases hw with ⟨a, b⟩ | ⟨k, k0, k1, k2, k3⟩
    · refine Or.inl ⟨a, fun k k0 k1 => ?_⟩
      rw [e39]; split
      · exact fun q => hf q.symm
      · exact b k k0 k1
    · refine Or.inr ⟨k, k0, k1, ?_, k3⟩
      rw [e39, if_neg (fun q => by rw [q, hm] at k2; omega)]; exact k2
  · rw [e', Mi_setI, if_pos ⟨rfl, rfl⟩]
    unfold Whr
    exact Or.inr ⟨m, m0, by rw [e 36 (by decide)]; exact m1, by rw [e39, if_pos rfl], rfl⟩
  · intro _
    exact yt5 (by omega)
/-- a frame of a machine leaves the queue -/
theorem RC.unq {c : Int} {A B : AS} {h h' : Mh} (R : RC A h) (T : Stx A) (I : IvS c A) {k : Int} (k0 : 0 ≤ k) (k1 : k < A 42 0 0) (hd : ∀ i j, 0 ≤ i → i < j → j < A 42 0 0 → A 43 i 0 ≠ A 43 j 0) (hm : ∃ m, 0 ≤ m ∧ m < A 36 0 0 ∧ A 39 m 0 = A 43 k 0) (e : ∀ g, g ≠ 42 → g ≠ 43 → B g = A g) (e42 : B 42 0 0 = A 42 0 0 - 1) (e43 : ∀ i, 0 ≤ i → i < A 42 0 0 - 1 → B 43 i 0 = if i < k then A 43 i 0 else A 43 (i + 1) 0)
    (c1 : Kd h' = Kd h) (c2 : Ln h' = Ln h) (r : ∀ n, n ≠ 22 → Mr h' n = Mr h n) (r22 : ∀ i, 0 ≤ i → i < A 42 0 0 - 1 → Mr h' 22 i = if i < k then Mr h 22 i else Mr h 22 (i + 1)) (mi : ∀ n, n ≠ 16 → Mi h' n = Mi h n) (m16 : ∀ i : Int, i ≠ 3 → Mi h' 16 i = Mi h 16 i) (m3 : Mi h' 16 3 = A 42 0 0 - 1) : RC B h' := by
  have T' := T
  obtain ⟨V9, D9, a16, a36, a47, a51, G9⟩ := T'
  have hc : ∀ t k, cN t k = 20010 + 200 * t.toNat + 10 * k.toNat := fun t k => rfl
  have hb : ∀ t, sN t = 20000 + 200 * t.toNat := fun t => rfl
  have ew : ∀ f x, Whr A f x → Whr B f x := fun f x hw => by
    unfold Whr at *
    rw [e 36 (by decide) (by decide), e 39 (by decide) (by decide), e42]
    rcases hw with ⟨⟨a1, a2⟩ | ⟨a1, i, b0, b1, b2⟩, a3⟩ | a3
    · refine Or.inl ⟨Or.inl ⟨a1, fun i i0 i1 => ?_⟩, a3⟩
      rw [e43 i i0 i1]
      split
      · exact a2 i i0 (by omega)
      · exact a2 (i + 1) (by omega) (by omega)
    · refine Or.inl ⟨Or.inr ⟨a1, ?_⟩, a3⟩
      rcases Int.lt_trichotomy i k with z | z | z
      · exact ⟨i, b0, by omega, by rw [e43 i b0 (by omega), if_pos z]; exact b2⟩
      · obtain ⟨m, q0, q1, q2⟩ := hm
        exact absurd (by rw [q2, ← z, b2]) (a3 m q0 q1)
      · exact ⟨i - 1, by omega, by omega, by rw [e43 (i - 1) (by omega) (by omega), if_neg (by omega), show i - 1 + 1 = i by omega]; exact b2⟩
    · exact Or.inr a3
  refine R.mid T (fun g hg => e g (fun q => hg (by rw [q]; decide)) (fun q => hg (by rw [q]; decide))) c1 c2 (fun n q1 q2 q3 => ⟨mi n q1, r n q2⟩) (fun t t0 t1 n n0 n1 => by rw [hb] at n0; exact ⟨mi n (by omega), r n (by omega)⟩) (fun t k t0 t1 k0 k1 => ⟨r _ (by rw [hc]; omega), by rw [mi _ (by rw [hc]; omega)], mi _ (by rw [hc]; omega), mi _ (by rw [hc]; omega)⟩) ?_ ?_ ?_ ?_
  · intro t q t0 t1 q0 q1
    rw [e 16 (by decide) (by decide)] at t1
    have y := R.xt t q t0 t1 q0 q1
    unfold FSta at *
    rw [e 17 (by decide) (by decide), e 18 (by decide) (by decide), e 105 (by decide) (by decide), e 44 (by decide) (by decide), mi _ (by rw [hc]; omega)]
    exact ⟨fun w => ⟨ew _ _ (y.1 w).1, (y.1 w).2⟩, y.2⟩
  · exact R.xi.of3 a16 G9 (fun g hg => e g (fun q => by subst q; revert hg; decide) (fun q => by subst q; revert hg; decide)) (fun t k t0 t1 k0 k1 => ⟨fun i hi => by rw [mi _ (by rw [hc]; omega)], r _ (by rw [hc]; omega), mi _ (by rw [hc]; omega)⟩)
  · obtain ⟨y1, y2, y3, y4, y5⟩ := R.xm
    unfold RCm
    rw [c1, c2, r 16 (by decide), m16 1 (by decide), m3, m16 4 (by decide), m16 6 (by decide), m16 7 (by decide), r 21 (by decide), e 35 (by decide) (by decide), e 36 (by decide) (by decide), e 37 (by decide) (by decide), e 38 (by decide) (by decide), e 39 (by decide) (by decide), e 40 (by decide) (by decide), e 41 (by decide) (by decide), e42, e 45 (by decide) (by decide), e 46 (by decide) (by decide), fN_of (e 103 (by decide) (by decide))]
    refine ⟨y1, ⟨y2.1, rfl, y2.2.2⟩, fun i i0 i1 => ?_, fun i i0 i1 => ?_, y5⟩
    · rw [mi _ (by omega), r _ (by omega)]; exact y3 i i0 i1
    · rw [r22 i i0 i1, e43 i i0 i1]
      split
      · exact y4 i i0 (by omega)
      · exact y4 (i + 1) (by omega) (by omega)
  · exact R.xu.of (e 32 (by decide) (by decide)) (e 33 (by decide) (by decide)) (m16 5 (by decide))
