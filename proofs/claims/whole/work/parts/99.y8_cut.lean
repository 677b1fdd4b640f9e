theorem mvA_act {A : AS} {s pl m to : Int} (p0 : 0 ≤ pl) (m0 : 0 ≤ m) (p1 : pl + m ≤ A 17 s 0) (o0 : 0 ≤ to) (o1 : to + m ≤ A 17 s 0) {f : Int} (h : actv A f) : actv (mvA A s pl m to) f := by
  obtain ⟨f0, f1, p, q0, q1, q2⟩ := h
  refine ⟨f0, f1, ?_⟩
  rw [mvA_f (by decide) (by decide)]
  by_cases z : f / 16 = s
  · rw [z] at q1 q2 ⊢
    have y := mvi_rng (pl := to) (m := m) (to := pl) (N := A 17 s 0) (j := p) o0 m0 o1 p0 p1 q0 q1
    exact ⟨mvi to m pl p, y.1, y.2, by rw [mvA_18, if_pos rfl, mvi_inv m0]; exact q2⟩
  · exact ⟨p, q0, q1, by rw [mvA_18, if_neg z]; exact q2⟩
theorem mvA_M {c : Int} {A : AS} (J : IvM c A) {s pl m to : Int} (p0 : 0 ≤ pl) (m0 : 0 ≤ m) (p1 : pl + m ≤ A 17 s 0) (o0 : 0 ≤ to) (o1 : to + m ≤ A 17 s 0) : IvM c (mvA A s pl m to) := by
  have e : ∀ g, g ≠ 18 → g ≠ 105 → mvA A s pl m to g = A g := fun g q1 q2 => mvA_f q1 q2
  have ea := fun f (h : actv A f) => mvA_act (s := s) (pl := pl) (m := m) (to := to) p0 m0 p1 o0 o1 h
  obtain ⟨a1, a2, a3, a4, a5, a6, a7, a8, a9, a10, a11, a12, a13, a14, a15, a16⟩ := J
  unfold IvM
  rw [e 35 (by decide) (by decide), e 36 (by decide) (by decide), e 37 (by decide) (by decide), e 38 (by decide) (by decide), e 39 (by decide) (by decide), e 40 (by decide) (by decide), e 41 (by decide) (by decide), e 42 (by decide) (by decide), e 43 (by decide) (by decide), e 44 (by decide) (by decide), e 45 (by decide) (by decide), e 46 (by decide) (by decide)]
  exact ⟨a1, a2, a3, a4, a5, a6, a7, a8, fun m m0 m1 => ⟨(a9 m m0 m1).1.imp id (ea _), (a9 m m0 m1).2⟩, a10, a11, a12, a13, a14, fun k k0 k1 => ⟨ea _ (a15 k k0 k1).1, (a15 k k0 k1).2⟩, a16⟩
theorem mvA_F {A : AS} (F : IvF A) {s pl m to : Int} (p0 : 0 ≤ pl) (m0 : 0 ≤ m) (p1 : pl + m ≤ A 17 s 0) (o0 : 0 ≤ to) (o1 : to + m ≤ A 17 s 0) : IvF (mvA A s pl m to) := by
  have e : ∀ g, g ≠ 18 → g ≠ 105 → mvA A s pl m to g = A g := fun g q1 q2 => mvA_f q1 q2
  have ea := fun f (h : actv A f) => mvA_act (s := s) (pl := pl) (m := m) (to := to) p0 m0 p1 o0 o1 h
  intro f f0 f1
  obtain ⟨y1, y2, y3, y4, y5, y6⟩ := F f f0 f1
  unfold exv at *
  rw [e 1 (by decide) (by decide), e 2 (by decide) (by decide), e 32 (by decide) (by decide), e 33 (by decide) (by decide), e 34 (by decide) (by decide), e 44 (by decide) (by decide)]
  exact ⟨y1, y2, y3, y4, fun q => ⟨ea _ (y5 q).1, (y5 q).2⟩, y6⟩
theorem mvA_N {A : AS} (N : IvN A) {s pl m to : Int} (p0 : 0 ≤ pl) (m0 : 0 ≤ m) (p1 : pl + m ≤ A 17 s 0) (o0 : 0 ≤ to) (o1 : to + m ≤ A 17 s 0) : IvN (mvA A s pl m to) := by
  have e : ∀ g, g ≠ 18 → g ≠ 105 → mvA A s pl m to g = A g := fun g q1 q2 => mvA_f q1 q2
  have ea := fun f (h : actv A f) => mvA_act (s := s) (pl := pl) (m := m) (to := to) p0 m0 p1 o0 o1 h
  unfold IvN
  rw [e 47 (by decide) (by decide), e 48 (by decide) (by decide), e 49 (by decide) (by decide), e 50 (by decide) (by decide), e 51 (by decide) (by decide), e 52 (by decide) (by decide)]
  exact ⟨N.1, N.2.1, fun k k0 k1 => ⟨(N.2.2.1 k k0 k1).1, (N.2.2.1 k k0 k1).2.1, (N.2.2.1 k k0 k1).2.2.1, (N.2.2.1 k k0 k1).2.2.2.1.imp id (ea _), (N.2.2.1 k k0 k1).2.2.2.2⟩, N.2.2.2⟩
/-- a frame that has gone is nowhere and has nothing -/
theorem fgs_gone {c c' : Int} {A : AS} (T : Stx A) (I : IvS c A) (F : IvF A) (J : IvM c' A) (N : IvN A) {s pl : Int} (s0 : 0 ≤ s) (s1 : s < 5) (p0 : 0 ≤ pl) : ∀ n : Nat, pl + n ≤ A 17 s 0 → ∀ k, 0 ≤ k → k < (n : Int) → fgs A s pl n 32 (A 18 s (pl + k)) 0 = -1 ∧ (∀ i, 0 ≤ i → i < fgs A s pl n 42 0 0 → fgs A s pl n 43 i 0 ≠ A 18 s (pl + k)) ∧ ∀ m, 0 ≤ m → m < A 36 0 0 → fgs A s pl n 39 m 0 ≠ A 18 s (pl + k)
  | 0, _, k, k0, k1 => by omega
  | n + 1, hn, k, k0, k1 => by
    have ih := fgs_gone T I F J N s0 s1 p0 n (by omega) k k0
    obtain ⟨-, -, -, J1, -⟩ := fgs_all T I F J N s pl n
    have x36 : fgs A s pl n 36 = A 36 := fgs_f (by decide) n
    rw [fgs]
    obtain ⟨X, hX⟩ : ∃ X, X = fgs A s pl n := ⟨_, rfl⟩
    rw [← hX] at ih J1 x36 ⊢
    obtain ⟨f, ef⟩ : ∃ f, f = A 18 s (pl + n) := ⟨_, rfl⟩
    obtain ⟨g, eg⟩ : ∃ g, g = A 18 s (pl + k) := ⟨_, rfl⟩
    rw [← ef, ← eg]
    rw [← eg] at ih
    have hg : 0 ≤ g := by rw [eg]; have := (I.2.2.2.2.2.1 s (pl + k) s0 s1 (by omega) (by omega)).1; omega
    have hk : g = f ∨ (k < (n : Int)) := by
      rcases (by omega : k = n ∨ k < n) with z | z
      · left; rw [eg, ef, z]
      · exact Or.inr z
    obtain ⟨Y, hY⟩ : ∃ Y, Y = up X 32 f 0 (-1) := ⟨_, rfl⟩
    have eY : ∀ k, k ≠ 32 → Y k = X k := fun k hk => by rw [hY]; funext i j; exact up_f hk
    have JY : IvM c' Y := J1.of (fun k hk => eY k (fun q => by subst q; revert hk; decide))
    have e32 : fgt X f 32 g 0 = if g = f then -1 else X 32 g 0 := by
      unfold fgt
      rw [ndo_f (by decide), rls_f (by decide), up_at]; simp
    have e42 : fgt X f 42 0 0 = rls Y f 42 0 0 := by unfold fgt; rw [ndo_f (by decide), ← hY]
    have e43 : ∀ i, fgt X f 43 i 0 = rls Y f 43 i 0 := fun i => by unfold fgt; rw [ndo_f (by decide), ← hY]
    have e39 : ∀ i, fgt X f 39 i 0 = rls Y f 39 i 0 := fun i => by unfold fgt; rw [ndo_f (by decide), ← hY]
    obtain ⟨q1, q2, q3, q4, q5⟩ := rls_q (f := f) JY
    refine ⟨?_, fun i i0 i1 => ?_, fun m m0 m1 => ?_⟩
    · rw [e32]
      split
      · rfl
      · next z => exact (ih (hk.elim (fun q => absurd q z) id)).1
    · rw [e42] at i1
      rw [e43]
      obtain ⟨j, j0, j1, j2, j3⟩ := q1 i i0 i1
      rw [j2]
      rcases hk with z | z
      · rw [z]; exact j3
      · rw [eY 42 (by decide)] at j1
        rw [eY 43 (by decide)]
        exact (ih z).2.1 j j0 j1
    · rw [e39, (rls_39 m0 (by rw [eY 36 (by decide), x36]; exact m1)).1, eY 39 (by decide)]
      split
      · omega
      · next w =>
        rcases hk with z | z
        · rw [z]; exact w
        · exact (ih z).2.2 m m0 m1
theorem kds_gone {M : AS} {s pl : Int} : ∀ n : Nat, ∀ k, 0 ≤ k → k < (n : Int) → ∀ l, 0 ≤ l → l < 16 → kds M s pl n 24 (M 18 s (pl + k)) l = 0
  | 0, k, k0, k1 => by omega
  | n + 1, k, k0, k1 => fun l l0 l1 => by
    rw [kds]
    show (if M 18 s (pl + k) = M 18 s (pl + n) ∧ 0 ≤ l ∧ l < 16 then 0 else kds M s pl n 24 (M 18 s (pl + k)) l) = 0
    rcases (by omega : k = n ∨ k < n) with z | z
    · rw [if_pos ⟨by rw [z], l0, l1⟩]
    · split
      · rfl
      · exact kds_gone n k k0 z l l0 l1
theorem cut_RC {c c' : Int} {A : AS} {h h' : Mh} (T : Stx A) (I : IvS c A) (F : IvF A) (J : IvM c' A) (N : IvN A) (K : IvK A) {s pl m x : Int} (hS : isS A s) (p0 : 0 ≤ pl) (m1 : 1 ≤ m) (p1 : pl + m ≤ A 17 s 0) (m2 : m < A 17 s 0) (hx : x = A 31 s 0 ∨ x = 0) (R : RC (up (kds (mvA (fgs A s pl m.toNat) s pl m (A 17 s 0 - m)) s (A 17 s 0 - m) m.toNat) 31 s 0 x) h) (e' : h' = setI (setI h (sN s) 3 (A 17 s 0 - m)) (sN s) 9 0) : RC (cutr A (gns A s pl m.toNat) s pl m) h' := by
  have hs0 := hS.1
  have hs1 := hS.2
  have a16 := T.2.2.1
  have s5 : s < 5 := by omega
  have i17 := (I.2.2.1 s hs0 s5).2.1
  have hm : (m.toNat : Int) = m := by omega
  obtain ⟨TF, IF, FF, JF, NF⟩ := fgs_all T I F J N s pl m.toNat
  have gone := fgs_gone T I F J N hs0 s5 p0 m.toNat (by omega)
  obtain ⟨fg1, fg2⟩ := fgs_gns I hs0 s5 p0 m.toNat (by omega)
  obtain ⟨Q, hQ⟩ : ∃ Q, Q = fgs A s pl m.toNat := ⟨_, rfl⟩
  have eQ : ∀ g, g ∉ [32, 39, 40, 42, 43, 50] → Q g = A g := fun g hg => by rw [hQ]; exact fgs_f hg _
  obtain ⟨X, hX⟩ : ∃ X, X = gns A s pl m.toNat := ⟨_, rfl⟩
  have eX : ∀ g, g ∉ [23, 24, 32, 39, 40, 42, 43, 48, 50] → X g = A g := fun g hg => by rw [hX]; exact gns_f hg _
  rw [← hQ] at R TF IF FF JF NF gone fg1 fg2
  rw [← hX] at fg1 fg2 ⊢
  have q17 : Q 17 = A 17 := eQ 17 (by decide)
  obtain ⟨M, hM⟩ : ∃ M, M = mvA Q s pl m (A 17 s 0 - m) := ⟨_, rfl⟩
  have eM : ∀ g, g ≠ 18 → g ≠ 105 → M g = Q g := fun g q1 q2 => by rw [hM]; exact mvA_f q1 q2
  have TM : Stx M := by rw [hM]; exact mvA_T TF p0 (by omega) (by rw [q17]; exact p1) (by omega) (by rw [q17]; omega) (by rw [q17]; exact i17)
  have IM : IvS c M := by rw [hM]; exact mvA_S IF p0 (by omega) (by rw [q17]; exact p1) (by omega) (by rw [q17]; omega)
  have JM : IvM c' M := by rw [hM]; exact mvA_M JF p0 (by omega) (by rw [q17]; exact p1) (by omega) (by rw [q17]; omega)
  have KM : IvK M := by unfold IvK ksum; rw [eM 23 (by decide) (by decide), eM 24 (by decide) (by decide), eQ 23 (by decide), eQ 24 (by decide)]; exact K
  have m18 : ∀ t j, M 18 t j = if t = s then A 18 s (mvi pl m (A 17 s 0 - m) j) else A 18 t j := fun t j => by rw [hM, mvA_18, eQ 18 (by decide)]
  have m105 : ∀ t j, M 105 t j = if t = s then A 105 s (mvi pl m (A 17 s 0 - m) j) else A 105 t j := fun t j => by rw [hM, mvA_105, eQ 105 (by decide)]
  have m17 : M 17 = A 17 := by rw [eM 17 (by decide) (by decide), q17]
  rw [← hM] at R
  have mlast : ∀ i, 0 ≤ i → i < m → M 18 s (A 17 s 0 - m + i) = A 18 s (pl + i) := fun i i0 i1 => by
    rw [m18, if_pos rfl]; congr 1; unfold mvi; rw [if_pos (by omega)]; omega
  obtain ⟨kg1, kg2⟩ := kds_gns (M := M) (A := A) (s := s) (pl := pl) (pl' := A 17 s 0 - m) (by rw [eM 23 (by decide) (by decide), eQ 23 (by decide)]) (by rw [eM 24 (by decide) (by decide), eQ 24 (by decide)]) m.toNat (fun i i0 i1 => mlast i i0 (by omega))
  rw [← hX] at kg1 kg2
  have kgone := kds_gone (M := M) (s := s) (pl := A 17 s 0 - m) m.toNat
  obtain ⟨IK, -⟩ := kds_S IM KM (s := s) (pl := A 17 s 0 - m) hs0 s5 (by omega) m.toNat (by rw [m17]; omega)
  obtain ⟨W, hW⟩ : ∃ W, W = kds M s (A 17 s 0 - m) m.toNat := ⟨_, rfl⟩
  have eW : ∀ g, g ≠ 23 → g ≠ 24 → W g = M g := fun g q1 q2 => by rw [hW]; exact kds_f q1 q2 _
  rw [← hW] at R kg1 kg2 kgone IK
  have eK : ∀ g, g ∉ [18, 23, 24, 31, 32, 39, 40, 42, 43, 50, 105] → up W 31 s 0 x g = A g := fun g hg => by
    have hy : ∀ k, k ∈ [18, 23, 24, 31, 32, 39, 40, 42, 43, 50, 105] → g ≠ k := fun k hk q => hg (q ▸ hk)
    funext i j
    rw [up_f (hy 31 (by decide)), eW g (hy 23 (by decide)) (hy 24 (by decide)), eM g (hy 18 (by decide)) (hy 105 (by decide)), eQ g (fun q => hg (by revert q; simp only [List.mem_cons, List.not_mem_nil, or_false]; omega))]
  have eU : ∀ g, g ≠ 31 → up W 31 s 0 x g = W g := fun g hg => by funext i j; exact up_f hg
  have TK : Stx (up W 31 s 0 x) := TM.of (fun g hg => by rw [eU g (fun q => by subst q; revert hg; decide), eW g (fun q => by subst q; revert hg; decide) (fun q => by subst q; revert hg; decide)])
  have JK : IvM c' (up W 31 s 0 x) := JM.of (fun g hg => by rw [eU g (fun q => by subst q; revert hg; decide), eW g (fun q => by subst q; revert hg; decide) (fun q => by subst q; revert hg; decide)])
  have IK' : IvS c (up W 31 s 0 x) := up31_S IK (by rw [eW 31 (by decide) (by decide), eM 31 (by decide) (by decide), eQ 31 (by decide)]; exact hx)
  have k18 : ∀ t j, up W 31 s 0 x 18 t j = if t = s then A 18 s (mvi pl m (A 17 s 0 - m) j) else A 18 t j := fun t j => by rw [up_f (by decide), eW 18 (by decide) (by decide), m18]
  have klast : ∀ p, A 17 s 0 - m ≤ p → p < A 17 s 0 → up W 31 s 0 x 18 s p = A 18 s (pl + (p - (A 17 s 0 - m))) := fun p q0 q1 => by
    rw [k18, if_pos rfl]; congr 1; unfold mvi; rw [if_pos (by omega)]; omega
  have b17 : ∀ t, cutr A X s pl m 17 t 0 = if t = s then A 17 s 0 - m else A 17 t 0 := fun t => by
    show (if t = s ∧ (0 : Int) = 0 then A 17 s 0 - m else A 17 t 0) = _; simp
  refine RC_shr R TK IK' JK (s := s) (m := m) (N := A 17 s 0) ⟨hs0, by rw [eK 16 (by decide)]; exact hs1⟩ (by rw [eK 17 (by decide)]) m1 m2 (fun g hg => ?_) (fun t => ?_) (fun t j j0 j1 => ?_) (fun t => ?_) (fun k k0 k1 => ?_) (fun k k0 k1 => ?_) (fun p q0 q1 => ?_) e'
  · by_cases g105 : g = 105
    · subst g105
      funext i j
      rw [eU 105 (by decide), eW 105 (by decide) (by decide), m105]
      show (if i = s ∧ pl ≤ j ∧ j < A 17 s 0 - m then A 105 s (j + m) else if i = s ∧ A 17 s 0 - m ≤ j ∧ j < A 17 s 0 then A 105 s (pl + j - (A 17 s 0 - m)) else A 105 i j) = _
      by_cases z : i = s
      · rw [if_pos z]
        rcases mvi_cs (pl := pl) (m := m) (to := A 17 s 0 - m) (j := j) (by omega) with ⟨a1, a2, a3⟩ | ⟨a1, a2, a3⟩ | ⟨a1, a2, a3⟩ | ⟨a1, a2, a3⟩ | ⟨a1, a2, a3⟩
        · rw [if_neg (by omega), if_pos ⟨z, by omega, by omega⟩, a3]
        · rw [if_neg (by omega), if_neg (by omega), a3, z]
        · rw [if_pos ⟨z, by omega, by omega⟩, a3]
        · omega
        · rw [if_neg (by omega), if_neg (by omega), a3, z]
      · rw [if_neg z, if_neg (fun q => z q.1), if_neg (fun q => z q.1)]
    · rw [cutr_f (fun q => hg (by revert q; simp only [List.mem_cons, List.not_mem_nil, or_false]; omega)), eU g (fun q => hg (by rw [q]; decide))]
      by_cases g23 : g = 23
      · subst g23; exact kg1.symm
      · by_cases g24 : g = 24
        · subst g24; exact kg2.symm
        · have hy : ∀ k, k ∈ [17, 18, 31, 48, 50] → g ≠ k := fun k hk q => hg (q ▸ hk)
          rw [eW g g23 g24, eM g (hy 18 (by decide)) g105]
          have h48 := hy 48 (by decide)
          have h50 := hy 50 (by decide)
          exact fg1 g (by simp only [List.mem_cons, List.not_mem_nil, or_false]; omega)
  · rw [b17, eK 17 (by decide)]
  · rw [b17] at j1
    rw [k18]
    show (if t = s ∧ pl ≤ j ∧ j < A 17 s 0 - m then A 18 s (j + m) else A 18 t j) = _
    by_cases z : t = s
    · rw [if_pos z] at j1 ⊢
      have hmv : mvi pl m (A 17 s 0 - m) j = if j < pl then j else j + m := by
        unfold mvi; rw [if_neg (by omega), if_pos j1]
      rw [hmv]
      by_cases y : j < pl
      · rw [if_pos y, if_neg (by omega), z]
      · rw [if_neg y, if_pos ⟨z, by omega, j1⟩]
    · rw [if_neg z, if_neg (fun q => z q.1)]
  · rw [up_at]
    show (if t = s ∧ (0 : Int) = 0 then 0 else A 31 t 0) = _
    by_cases z : t = s
    · rw [if_pos ⟨z, rfl⟩, if_pos z]
    · rw [if_neg (fun q => z q.1), if_neg z, if_neg (fun q => z q.1), eW 31 (by decide) (by decide), eM 31 (by decide) (by decide), eQ 31 (by decide)]
  · rw [eK 47 (by decide)] at k1
    rw [cutr_f (by decide), eU 50 (by decide), eW 50 (by decide) (by decide), eM 50 (by decide) (by decide)]
    exact (fg2 k k0 k1).1
  · rw [eK 47 (by decide)] at k1
    rw [cutr_f (by decide), eK 48 (by decide)]
    obtain ⟨-, w2, w3⟩ := fg2 k k0 k1
    refine ⟨fun ⟨p, q0, q1, q2⟩ => w2 ⟨p - (A 17 s 0 - m), by omega, by omega, ?_⟩, fun w => w3 (fun i i0 i1 q => w (A 17 s 0 - m + i) (by omega) (by omega) ?_)⟩
    · rw [q2, klast p q0 q1]
    · rw [q, klast _ (by omega) (by omega)]; congr 1; omega
  · rw [klast p q0 q1]
    obtain ⟨z1, z2, z3⟩ := gone (p - (A 17 s 0 - m)) (by omega) (by omega)
    refine ⟨?_, ?_, fun l l0 l1 => ?_⟩
    · rw [eU 32 (by decide), eW 32 (by decide) (by decide), eM 32 (by decide) (by decide)]; exact z1
    · have e42 : up W 31 s 0 x 42 = Q 42 := by rw [eU 42 (by decide), eW 42 (by decide) (by decide), eM 42 (by decide) (by decide)]
      have e43 : up W 31 s 0 x 43 = Q 43 := by rw [eU 43 (by decide), eW 43 (by decide) (by decide), eM 43 (by decide) (by decide)]
      have e39 : up W 31 s 0 x 39 = Q 39 := by rw [eU 39 (by decide), eW 39 (by decide) (by decide), eM 39 (by decide) (by decide)]
      unfold Whr
      rw [e42, e43, e39, eK 36 (by decide)]
      exact Or.inl ⟨Or.inl ⟨rfl, z2⟩, z3⟩
    · have := kgone (p - (A 17 s 0 - m)) (by omega) (by omega) l l0 l1
      rw [mlast _ (by omega) (by omega)] at this
      rw [eU 24 (by decide)]; exact this
