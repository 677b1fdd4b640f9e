/-- the last frames of a row go: what is kept -/
theorem shr_inv {c : Int} {K B : AS} (V : IvV B) (I : IvS c K) (F : IvF K) (J : IvM c K) (N : IvN K) (G : IvG K) (E : IvE K) {s m L : Int} (hS : isS K s) (hL : L = K 17 s 0) (m1 : 1 ≤ m) (m2 : m < L) (e : ∀ g, g ∉ [17, 18, 31, 48, 50] → B g = K g) (b17 : ∀ t, B 17 t 0 = if t = s then L - m else K 17 t 0) (b18 : ∀ t j, 0 ≤ j → j < B 17 t 0 → B 18 t j = K 18 t j) (b31 : ∀ t, B 31 t 0 = if t = s then 0 else K 31 t 0)
    (b48 : ∀ k, 0 ≤ k → k < K 47 0 0 → ((∃ p, L - m ≤ p ∧ p < L ∧ K 48 k 0 = K 18 s p) → B 48 k 0 = -1 ∧ B 50 k 0 = 0) ∧ ((∀ p, L - m ≤ p → p < L → K 48 k 0 ≠ K 18 s p) → B 48 k 0 = K 48 k 0 ∧ B 50 k 0 = K 50 k 0)) (hz : ∀ p, L - m ≤ p → p < L → K 32 (K 18 s p) 0 = -1 ∧ Whr K (K 18 s p) 0 ∧ ∀ l, 0 ≤ l → l < 16 → K 24 (K 18 s p) l = 0) : IvS c B ∧ IvF B ∧ IvM c B ∧ IvN B ∧ IvG B ∧ IvE B := by
  have hs0 := hS.1
  have hs1 := hS.2
  have s5 : s < 5 := by have := I.2.1; omega
  have i17 := (I.2.2.1 s hs0 s5).2.1
  have cs : ∀ t p, 0 ≤ p → p < B 17 t 0 → p < K 17 t 0 ∧ B 18 t p = K 18 t p := fun t p p0 w => by
    refine ⟨?_, b18 t p p0 w⟩
    rw [b17] at w
    by_cases z : t = s
    · rw [if_pos z] at w; rw [z, ← hL]; omega
    · rw [if_neg z] at w; exact w
  -- a frame is kept or goes
  have ea : ∀ f, actv K f → actv B f ∨ ∃ p, L - m ≤ p ∧ p < L ∧ f = K 18 s p := fun f hf => by
    obtain ⟨f0, f1, p, q0, q1, q2⟩ := hf
    by_cases z : p < B 17 (f / 16) 0
    · exact Or.inl ⟨f0, f1, p, q0, z, by rw [(cs _ p q0 z).2]; exact q2⟩
    · right
      rw [b17] at z
      by_cases y : f / 16 = s
      · rw [if_pos y] at z; rw [y, ← hL] at q1; rw [y] at q2
        exact ⟨p, by omega, q1, q2.symm⟩
      · rw [if_neg y] at z; omega
  have gone : ∀ p, L - m ≤ p → p < L → (∀ k, 0 ≤ k → k < K 42 0 0 → K 43 k 0 ≠ K 18 s p) ∧ ∀ i, 0 ≤ i → i < 4 → K 39 i 0 ≠ K 18 s p := fun p q0 q1 => by
    have hP : isP K s p := ⟨hs0, hs1, by omega, by rw [← hL]; exact q1⟩
    exact whr0 J (actv_of I hP).2.2.1 (hz p q0 q1).2.1
  refine ⟨?_, ?_, ?_, ?_, ?_, E.of (e 32 (by decide)) (e 34 (by decide))⟩
  · obtain ⟨i1, i2, i3, i4, i5, i6, i7, i8, i9, i10⟩ := I
    unfold IvS
    rw [e 16 (by decide), e 20 (by decide), e 21 (by decide), e 22 (by decide), e 23 (by decide), e 24 (by decide), e 25 (by decide), e 27 (by decide), e 28 (by decide), e 29 (by decide), e 30 (by decide)]
    refine ⟨i1, i2, fun t t0 t1 => ?_, fun t t0 t1 => ?_, fun t t0 t1 => ?_, fun t p t0 t1 q0 q1 => ?_, fun t p p' t0 t1 q0 q1 q2 => ?_, fun t k t0 t1 k0 k1 => ?_, i9, fun f l f0 f1 l0 l1 => ?_⟩
    · obtain ⟨a1, a2, b3, b4, b5, b6, b7, b8, b9, b10, b11, b12, b13, b14, b15⟩ := i3 t t0 t1
      have x17 := b17 t
      have x31 := b31 t
      by_cases z : t = s
      · rw [if_pos z] at x17 x31
        rw [x17, x31]
        exact ⟨by omega, by omega, b3, b4, b5, b6, b7, b8, b9, b10, b11, b12, b13, b14, Or.inl rfl⟩
      · rw [if_neg z] at x17 x31
        rw [x17, x31]
        exact ⟨a1, a2, b3, b4, b5, b6, b7, b8, b9, b10, b11, b12, b13, b14, b15⟩
    · rw [b17]
      have := i4 t t0 t1
      by_cases z : t = s
      · rw [if_pos z]; exact ⟨by omega, this.2⟩
      · rw [if_neg z]; exact this
    · rw [b17, b31, if_neg (by omega), if_neg (by omega)]; exact i5 t t0 t1
    · obtain ⟨x1, x2⟩ := cs t p q0 q1
      rw [x2]; exact i6 t p t0 t1 q0 x1
    · obtain ⟨x1, x2⟩ := cs t p q0 (by omega)
      obtain ⟨y1, y2⟩ := cs t p' (by omega) q2
      rw [x2, y2]; exact i7 t p p' t0 t1 q0 q1 y1
    · have := i8 t k t0 t1 k0 k1
      unfold exv at *
      rw [e 1 (by decide), e 2 (by decide)]; exact this
    · obtain ⟨b1, b2⟩ := i10 f l f0 f1 l0 l1
      refine ⟨?_, b2⟩
      rcases b1 with z | ⟨z, y⟩
      · exact Or.inl z
      · rcases ea f y with w | ⟨p, q0, q1, q2⟩
        · exact Or.inr ⟨z, w⟩
        · left; rw [q2]; exact (hz p q0 q1).2.2 l l0 l1
  · intro f f0 f1
    obtain ⟨y1, y2, y3, y4, y5, y6⟩ := F f f0 f1
    unfold exv at *
    rw [e 1 (by decide), e 2 (by decide), e 32 (by decide), e 33 (by decide), e 34 (by decide), e 44 (by decide)]
    refine ⟨y1, y2, y3, y4, fun q => ⟨?_, (y5 q).2⟩, y6⟩
    rcases ea f (y5 q).1 with w | ⟨p, q0, q1, q2⟩
    · exact w
    · rw [q2] at q; exact absurd (hz p q0 q1).1 q
  · obtain ⟨a1, a2, a3, a4, a5, a6, a7, a8, a9, a10, a11, a12, a13, a14, a15, a16⟩ := J
    unfold IvM
    rw [e 35 (by decide), e 36 (by decide), e 37 (by decide), e 38 (by decide), e 39 (by decide), e 40 (by decide), e 41 (by decide), e 42 (by decide), e 43 (by decide), e 44 (by decide), e 45 (by decide), e 46 (by decide)]
    refine ⟨a1, a2, a3, a4, a5, a6, a7, a8, fun k k0 k1 => ⟨?_, (a9 k k0 k1).2⟩, a10, a11, a12, a13, a14, fun k k0 k1 => ⟨?_, (a15 k k0 k1).2⟩, a16⟩
    · rcases (a9 k k0 k1).1 with z | z
      · exact Or.inl z
      · rcases ea _ z with w | ⟨p, q0, q1, q2⟩
        · exact Or.inr w
        · exact absurd q2 ((gone p q0 q1).2 k k0 k1)
    · rcases ea _ (a15 k k0 k1).1 with w | ⟨p, q0, q1, q2⟩
      · exact w
      · exact absurd q2 ((gone p q0 q1).1 k k0 k1)
  · unfold IvN
    rw [e 47 (by decide), e 49 (by decide), e 51 (by decide), e 52 (by decide)]
    refine ⟨N.1, N.2.1, fun k k0 k1 => ?_, N.2.2.2⟩
    obtain ⟨n1, n2, n3, n4, n5⟩ := N.2.2.1 k k0 k1
    obtain ⟨u1, u2⟩ := b48 k k0 k1
    by_cases q : ∃ p, L - m ≤ p ∧ p < L ∧ K 48 k 0 = K 18 s p
    · rw [(u1 q).1, (u1 q).2]
      exact ⟨n1, n2, Or.inl rfl, Or.inl rfl, fun w => by omega⟩
    · have h2 := u2 (fun p p0 p1 w => q ⟨p, p0, p1, w⟩)
      rw [h2.1, h2.2]
      refine ⟨n1, n2, n3, ?_, n5⟩
      rcases n4 with z | z
      · exact Or.inl z
      · rcases ea _ z with w | w
        · exact Or.inr w
        · exact absurd w q
  · obtain ⟨g1, g2, g3, g4, g5, g6, g7, g8⟩ := G
    unfold IvG exv at *
    rw [e 1 (by decide), e 2 (by decide), e 6 (by decide), e 7 (by decide), e 100 (by decide), e 101 (by decide), e 102 (by decide), e 103 (by decide), e 105 (by decide)]
    refine ⟨g1, g2, g3, g4, g5, g6, g7, fun t p t0 t1 q0 q1 => ?_⟩
    obtain ⟨x1, x2⟩ := cs t p q0 q1
    rw [x2]; exact g8 t p t0 t1 q0 x1
/-- the notes of a frame that has gone are closed -/
theorem fgs_50 {A : AS} {s pl : Int} : ∀ n : Nat, ∀ k, 0 ≤ k → k < A 47 0 0 → ((∃ i, 0 ≤ i ∧ i < (n : Int) ∧ A 48 k 0 = A 18 s (pl + i)) → fgs A s pl n 50 k 0 = 0) ∧ ((∀ i, 0 ≤ i → i < (n : Int) → A 48 k 0 ≠ A 18 s (pl + i)) → fgs A s pl n 50 k 0 = A 50 k 0)
  | 0, k, k0, k1 => ⟨fun ⟨i, i0, i1, _⟩ => by omega, fun _ => rfl⟩
  | n + 1, k, k0, k1 => by
    obtain ⟨h1, h2⟩ := fgs_50 n k k0 k1
    have e : fgs A s pl (n + 1) 50 k 0 = if A 48 k 0 = A 18 s (pl + n) then 0 else fgs A s pl n 50 k 0 := by
      rw [fgs]
      unfold fgt
      rw [ndo_50, rls_f (by decide), rls_f (by decide), up_f (by decide), up_f (by decide), fgs_f (g := 47) (by decide), fgs_f (g := 48) (by decide)]
      simp [k0, k1]
    rw [e]
    refine ⟨fun ⟨i, i0, i1, i2⟩ => ?_, fun w => ?_⟩
    · by_cases z : A 48 k 0 = A 18 s (pl + n)
      · rw [if_pos z]
      · rw [if_neg z]
        refine h1 ⟨i, i0, ?_, i2⟩
        have : i ≠ n := fun q => z (by rw [i2, q])
        omega
    · rw [if_neg (w n (by omega) (by omega))]
      exact h2 (fun i i0 i1 => w i i0 (by omega))
theorem fgs_32 {A : AS} {s pl : Int} (f : Int) : ∀ n : Nat, fgs A s pl n 32 f 0 = A 32 f 0 ∨ fgs A s pl n 32 f 0 = -1
  | 0 => Or.inl rfl
  | n + 1 => by
    have ih := fgs_32 (A := A) (s := s) (pl := pl) f n
    rw [fgs]
    unfold fgt
    rw [ndo_f (by decide), rls_f (by decide), ups]
    split
    · exact Or.inr rfl
    · exact ih
theorem inv_cut {c s pl m : Int} {A : AS} (Iv : Inv c A) : Inv c (nx_cut A s pl m) := by
  unfold nx_cut
  split
  · next h =>
    have T := Iv.Stx
    obtain ⟨V, D, I, F, J, N, Cc, G, E, K⟩ := Iv
    have hx : isP A s pl ∧ 1 ≤ m ∧ pl + m ≤ A 17 s 0 ∧ m < A 17 s 0 := by
      unfold th_cut at h
      by_cases y : isP A s pl
      · rw [if_neg (fun q => q y)] at h
        by_cases w : m < 1 ∨ A 17 s 0 - pl < m
        · rw [if_pos w] at h; omega
        · rw [if_neg w] at h
          by_cases v : m = A 17 s 0
          · rw [if_pos v] at h; omega
          · exact ⟨y, by omega, by omega, by have := y.2.2.1; omega⟩
      · rw [if_pos y] at h; omega
    obtain ⟨hP, m1, p1, m2⟩ := hx
    have p0 := hP.2.2.1
    have hs0 := hP.1
    have hs1 := hP.2.1
    have s5 : s < 5 := by have := I.2.1; omega
    have i17 := (I.2.2.1 s hs0 s5).2.1
    obtain ⟨TF, IF, FF, JF, NF⟩ := fgs_all T I F J N s pl m.toNat
    have gone := fgs_gone T I F J N hs0 s5 p0 m.toNat (by omega)
    obtain ⟨fg1, fg2⟩ := fgs_gns I hs0 s5 p0 m.toNat (by omega)
    have f50 := fgs_50 (A := A) (s := s) (pl := pl) m.toNat
    obtain ⟨Q, hQ⟩ : ∃ Q, Q = fgs A s pl m.toNat := ⟨_, rfl⟩
    have eQ : ∀ g, g ∉ [32, 39, 40, 42, 43, 50] → Q g = A g := fun g hg => by rw [hQ]; exact fgs_f hg _
    have q32 : ∀ f, Q 32 f 0 = A 32 f 0 ∨ Q 32 f 0 = -1 := fun f => by
      rw [hQ]; exact fgs_32 f _
    obtain ⟨X, hX⟩ : ∃ X, X = gns A s pl m.toNat := ⟨_, rfl⟩
    have eX : ∀ g, g ∉ [23, 24, 32, 39, 40, 42, 43, 48, 50] → X g = A g := fun g hg => by rw [hX]; exact gns_f hg _
    rw [← hQ] at TF IF FF JF NF gone fg1 fg2 f50
    rw [← hX] at fg1 fg2 ⊢
    have q17 : Q 17 = A 17 := eQ 17 (by decide)
    have EQ : IvE Q := by
      intro f f0 f1 w
      rw [eQ 34 (by decide)]
      rcases q32 f with z | z
      · exact E f f0 f1 (by rw [← z]; exact w)
      · exact absurd z w
    obtain ⟨M, hM⟩ : ∃ M, M = mvA Q s pl m (A 17 s 0 - m) := ⟨_, rfl⟩
    have eM : ∀ g, g ≠ 18 → g ≠ 105 → M g = Q g := fun g q1 q2 => by rw [hM]; exact mvA_f q1 q2
    have IM : IvS c M := by rw [hM]; exact mvA_S IF p0 (by omega) (by rw [q17]; exact p1) (by omega) (by rw [q17]; omega)
    have JM : IvM c M := by rw [hM]; exact mvA_M JF p0 (by omega) (by rw [q17]; exact p1) (by omega) (by rw [q17]; omega)
    have FM : IvF M := by rw [hM]; exact mvA_F FF p0 (by omega) (by rw [q17]; exact p1) (by omega) (by rw [q17]; omega)
    have NM : IvN M := by rw [hM]; exact mvA_N NF p0 (by omega) (by rw [q17]; exact p1) (by omega) (by rw [q17]; omega)
    have GM : IvG M := by rw [hM]; exact mvA_G (G.of2 (fun g hg => eQ g (nin hg (by decide)))) p0 (by omega) (by rw [q17]; exact p1) (by omega) (by rw [q17]; omega) (by rw [q17]; exact i17)
    have EM : IvE M := IvE.of EQ (eM 32 (by decide) (by decide)) (eM 34 (by decide) (by decide))
    have KM : IvK M := IvK.of K (by rw [eM 23 (by decide) (by decide), eQ 23 (by decide)]) (by rw [eM 24 (by decide) (by decide), eQ 24 (by decide)])
    have m18 : ∀ t j, M 18 t j = if t = s then A 18 s (mvi pl m (A 17 s 0 - m) j) else A 18 t j := fun t j => by rw [hM, mvA_18, eQ 18 (by decide)]
    have m105 : ∀ t j, M 105 t j = if t = s then A 105 s (mvi pl m (A 17 s 0 - m) j) else A 105 t j := fun t j => by rw [hM, mvA_105, eQ 105 (by decide)]
    have m17 : M 17 = A 17 := by rw [eM 17 (by decide) (by decide), q17]
    have mlast : ∀ i, 0 ≤ i → i < m → M 18 s (A 17 s 0 - m + i) = A 18 s (pl + i) := fun i i0 i1 => by
      rw [m18, if_pos rfl]; congr 1; unfold mvi; rw [if_pos (by omega)]; omega
    obtain ⟨kg1, kg2⟩ := kds_gns (M := M) (A := A) (s := s) (pl := pl) (pl' := A 17 s 0 - m) (by rw [eM 23 (by decide) (by decide), eQ 23 (by decide)]) (by rw [eM 24 (by decide) (by decide), eQ 24 (by decide)]) m.toNat (fun i i0 i1 => mlast i i0 (by omega))
    rw [← hX] at kg1 kg2
    have kgone := kds_gone (M := M) (s := s) (pl := A 17 s 0 - m) m.toNat
    obtain ⟨IK, KK⟩ := kds_S IM KM (s := s) (pl := A 17 s 0 - m) hs0 s5 (by omega) m.toNat (by rw [m17]; omega)
    obtain ⟨W, hW⟩ : ∃ W, W = kds M s (A 17 s 0 - m) m.toNat := ⟨_, rfl⟩
    have eW : ∀ g, g ≠ 23 → g ≠ 24 → W g = M g := fun g q1 q2 => by rw [hW]; exact kds_f q1 q2 _
    rw [← hW] at kg1 kg2 kgone IK KK
    have wM : ∀ L : List Nat, (∀ k, k ∈ L → k ∉ [23, 24]) → ∀ g, g ∈ L → W g = M g := fun L hL g hg => eW g (fun q => hL g hg (by rw [q]; decide)) (fun q => hL g hg (by rw [q]; decide))
    have JK : IvM c W := JM.of (wM _ (by decide))
    have FK : IvF W := FM.of (wM _ (by decide))
    have NK : IvN W := NM.of (wM _ (by decide))
    have GK : IvG W := GM.of2 (wM _ (by decide))
    have EK : IvE W := IvE.of EM (eW 32 (by decide) (by decide)) (eW 34 (by decide) (by decide))
    have eK : ∀ g, g ∉ [18, 23, 24, 32, 39, 40, 42, 43, 50, 105] → W g = A g := fun g hg => by
      have hy : ∀ k, k ∈ [18, 23, 24, 32, 39, 40, 42, 43, 50, 105] → g ≠ k := fun k hk q => hg (q ▸ hk)
      rw [eW g (hy 23 (by decide)) (hy 24 (by decide)), eM g (hy 18 (by decide)) (hy 105 (by decide)), eQ g (fun q => hg (by revert q; simp only [List.mem_cons, List.not_mem_nil, or_false]; omega))]
    have k18 : ∀ t j, W 18 t j = if t = s then A 18 s (mvi pl m (A 17 s 0 - m) j) else A 18 t j := fun t j => by rw [eW 18 (by decide) (by decide), m18]
    have klast : ∀ p, A 17 s 0 - m ≤ p → p < A 17 s 0 → W 18 s p = A 18 s (pl + (p - (A 17 s 0 - m))) := fun p q0 q1 => by
      rw [k18, if_pos rfl]; congr 1; unfold mvi; rw [if_pos (by omega)]; omega
    have b17 : ∀ t, cutr A X s pl m 17 t 0 = if t = s then A 17 s 0 - m else A 17 t 0 := fun t => by
      show (if t = s ∧ (0 : Int) = 0 then A 17 s 0 - m else A 17 t 0) = _; simp
    have eB : ∀ g, g ∉ [17, 18, 31, 48, 50] → cutr A X s pl m g = W g := fun g hg => by
      by_cases g105 : g = 105
      · subst g105
        funext i j
        rw [eW 105 (by decide) (by decide), m105]
        show (if i = s ∧ pl ≤ j ∧ j < A 17 s 0 - m then A 105 s (j + m) else if i = s ∧ A 17 s 0 - m ≤ j ∧ j < A 17 s 0 then A 105 s (pl + j - (A 17 s 0 - m)) else A 105 i j) = _
        by_cases z : i = s
        · rw [if_pos z]
          rcases mvi_cs (pl := pl) (m := m) (to := A 17 s 0 - m) (j := j) (by omega) with ⟨a1, a2, a3⟩ | ⟨a1, a2, a3⟩ | ⟨a1, a2, a3⟩ | ⟨a1, a2, a3⟩ | ⟨a1, a2, a3⟩
          · rw [if_neg (by omega), if_pos ⟨z, by omega, by omega⟩, a3]
          · rw [if_neg (by omega), if_neg (by omega), a3, z]
          · rw [if_pos ⟨z, by omega, by omega⟩, a3]
          · omega
          · rw [if_neg (by omega), if_neg (by omega), a3, z]
        · rw [if_neg z, if_neg (fun q => z q.1), if_neg (fun q => z q.1)]
      · rw [cutr_f (fun q => hg (by revert q; simp only [List.mem_cons, List.not_mem_nil, or_false]; omega))]
        by_cases g23 : g = 23
        · subst g23; exact kg1.symm
        · by_cases g24 : g = 24
          · subst g24; exact kg2.symm
          · have hy : ∀ k, k ∈ [17, 18, 31, 48, 50] → g ≠ k := fun k hk q => hg (q ▸ hk)
            rw [eW g g23 g24, eM g (hy 18 (by decide)) g105]
            have h48 := hy 48 (by decide)
            have h50 := hy 50 (by decide)
            exact fg1 g (by simp only [List.mem_cons, List.not_mem_nil, or_false]; omega)
    have eV : ∀ g, g ∈ [1, 2, 3, 4, 5, 6, 7, 8, 9, 10, 11, 12, 13, 14, 15, 54, 56, 57, 58] → cutr A X s pl m g = A g := fun g hg => by rw [eB g (nin hg (by decide)), eK g (nin hg (by decide))]
    have V' : IvV (cutr A X s pl m) := V.of (fun g hg => eV g (by simp only [LV, List.mem_cons, List.not_mem_nil, or_false] at hg ⊢; omega))
    obtain ⟨r1, r2, r3, r4, r5, r6⟩ := shr_inv V' IK FK JK NK GK EK (s := s) (m := m) (L := A 17 s 0) ⟨hs0, by rw [eK 16 (by decide)]; exact hs1⟩ (by rw [eK 17 (by decide)]) m1 m2 eB (fun t => by rw [b17, eK 17 (by decide)]) (fun t j j0 j1 => by
      rw [b17] at j1
      rw [k18]
      show (if t = s ∧ pl ≤ j ∧ j < A 17 s 0 - m then A 18 s (j + m) else A 18 t j) = _
      by_cases z : t = s
      · rw [if_pos z] at j1 ⊢
        have hmv : mvi pl m (A 17 s 0 - m) j = if j < pl then j else j + m := by
          unfold mvi; rw [if_neg (by omega), if_pos j1]
        rw [hmv]
        by_cases y : j < pl
        · rw [if_pos y, if_neg (by omega), z]
        · rw [if_neg y, if_pos ⟨z, by omega, j1⟩]
      · rw [if_neg z, if_neg (fun q => z q.1)]) (fun t => by
      rw [eK 31 (by decide)]
      show (if t = s ∧ (0 : Int) = 0 then 0 else A 31 t 0) = _
      simp) (fun k k0 k1 => by
      rw [eK 47 (by decide)] at k1
      obtain ⟨w1, w2, w3⟩ := fg2 k k0 k1
      obtain ⟨v1, v2⟩ := f50 k k0 k1
      rw [cutr_f (by decide), cutr_f (by decide), eK 48 (by decide), w1, eW 50 (by decide) (by decide), eM 50 (by decide) (by decide)]
      refine ⟨fun ⟨p, q0, q1, q2⟩ => ?_, fun w => ⟨w3 (fun i i0 i1 q => w (A 17 s 0 - m + i) (by omega) (by omega) ?_), rfl⟩⟩
      · have : ∃ i, 0 ≤ i ∧ i < (m.toNat : Int) ∧ A 48 k 0 = A 18 s (pl + i) := ⟨p - (A 17 s 0 - m), by omega, by omega, by rw [q2, klast p q0 q1]⟩
        exact ⟨w2 this, v1 this⟩
      · rw [q, klast _ (by omega) (by omega)]; congr 1; omega) (fun p q0 q1 => by
      rw [klast p q0 q1]
      obtain ⟨z1, z2, z3⟩ := gone (p - (A 17 s 0 - m)) (by omega) (by omega)
      refine ⟨?_, ?_, fun l l0 l1 => ?_⟩
      · rw [eW 32 (by decide) (by decide), eM 32 (by decide) (by decide)]; exact z1
      · have e42 : W 42 = Q 42 := by rw [eW 42 (by decide) (by decide), eM 42 (by decide) (by decide)]
        have e43 : W 43 = Q 43 := by rw [eW 43 (by decide) (by decide), eM 43 (by decide) (by decide)]
        have e39 : W 39 = Q 39 := by rw [eW 39 (by decide) (by decide), eM 39 (by decide) (by decide)]
        unfold Whr
        rw [e42, e43, e39, eK 36 (by decide)]
        exact Or.inl ⟨Or.inl ⟨rfl, z2⟩, z3⟩
      · have := kgone (p - (A 17 s 0 - m)) (by omega) (by omega) l l0 l1
        rw [mlast _ (by omega) (by omega)] at this
        exact this)
    exact ⟨V', D.of (fun g hg => eV g (by simp only [LD, List.mem_cons, List.not_mem_nil, or_false] at hg ⊢; omega)), r1, r2, r3, r4, Cc.of (fun g hg => eV g (by simp only [LC, List.mem_cons, List.not_mem_nil, or_false] at hg ⊢; omega)), r5, r6, IvK.of KK (eB 23 (by decide)) (eB 24 (by decide))⟩
  · exact Iv
