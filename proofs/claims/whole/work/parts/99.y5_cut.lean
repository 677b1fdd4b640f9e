def fgs (A : AS) (s pl : Int) : Nat → AS
  | 0 => A
  | n + 1 => fgt (fgs A s pl n) (A 18 s (pl + n))
theorem fgs_f {A : AS} {s pl : Int} {g : Nat} (hg : g ∉ [32, 39, 40, 42, 43, 50]) : ∀ n, fgs A s pl n g = A g
  | 0 => rfl
  | n + 1 => by rw [fgs, fgt_f hg, fgs_f hg n]
theorem fgt_F {A : AS} (F : IvF A) (f : Int) : IvF (fgt A f) := by
  refine (s32_F F f).of (fun g hg => ?_)
  unfold fgt
  rw [ndo_f (fun q => by subst q; revert hg; decide), rls_f (fun q => by revert hg q; simp only [LF, List.mem_cons, List.not_mem_nil, or_false]; omega)]
theorem fgt_M {c : Int} {A : AS} (J : IvM c A) (f : Int) : IvM c (fgt A f) := by
  have J1 : IvM c (up A 32 f 0 (-1)) := J.of (fun g hg => by funext i j; exact up_f (fun q => by subst q; revert hg; decide))
  refine (rls_M J1 f).of (fun g hg => ?_)
  unfold fgt
  rw [ndo_f (fun q => by subst q; revert hg; decide)]
theorem fgt_N {A : AS} (N : IvN A) (f : Int) : IvN (fgt A f) := by
  have e : ∀ g, g ∉ [32, 39, 40, 42, 43, 50] → fgt A f g = A g := fun g hg => fgt_f hg
  have e50 : ∀ k, fgt A f 50 k 0 = A 50 k 0 ∨ fgt A f 50 k 0 = 0 := fun k => by
    unfold fgt
    rw [ndo_50]
    split
    · exact Or.inr rfl
    · left; rw [rls_f (by decide), up_f (by decide)]
  unfold IvN actv at *
  rw [e 17 (by decide), e 18 (by decide), e 47 (by decide), e 48 (by decide), e 49 (by decide), e 51 (by decide), e 52 (by decide)]
  refine ⟨N.1, N.2.1, fun k k0 k1 => ?_, N.2.2.2⟩
  obtain ⟨n1, n2, n3, n4, n5⟩ := N.2.2.1 k k0 k1
  refine ⟨n1, n2, ?_, n4, fun w => n5 ?_⟩
  · rcases e50 k with z | z <;> rw [z]
    · exact n3
    · exact Or.inl rfl
  · rcases e50 k with z | z
    · rw [← z]; exact w
    · omega
theorem fgs_all {c c' : Int} {A : AS} (T : Stx A) (I : IvS c A) (F : IvF A) (J : IvM c' A) (N : IvN A) (s pl : Int) : ∀ n : Nat, Stx (fgs A s pl n) ∧ IvS c (fgs A s pl n) ∧ IvF (fgs A s pl n) ∧ IvM c' (fgs A s pl n) ∧ IvN (fgs A s pl n)
  | 0 => ⟨T, I, F, J, N⟩
  | n + 1 => by
    obtain ⟨-, -, F', J', N'⟩ := fgs_all T I F J N s pl n
    exact ⟨T.of (fun g hg => fgs_f (fun q => by revert hg q; simp only [LStx, List.mem_cons, List.not_mem_nil, or_false]; omega) (n + 1)), I.of (fun g hg => fgs_f (fun q => by revert hg q; simp only [LSh, List.mem_cons, List.not_mem_nil, or_false]; omega) (n + 1)), fgt_F F' _, fgt_M J' _, fgt_N N' _⟩
/-- the class's state and the model's, frame by frame -/
theorem fgs_gns {c : Int} {A : AS} (I : IvS c A) {s pl : Int} (s0 : 0 ≤ s) (s1 : s < 5) (p0 : 0 ≤ pl) : ∀ n : Nat, pl + n ≤ A 17 s 0 → (∀ g, g ∉ [23, 24, 48, 50] → gns A s pl n g = fgs A s pl n g) ∧
    (∀ k, 0 ≤ k → k < A 47 0 0 → gns A s pl n 50 k 0 = fgs A s pl n 50 k 0 ∧ ((∃ i, 0 ≤ i ∧ i < (n : Int) ∧ A 48 k 0 = A 18 s (pl + i)) → gns A s pl n 48 k 0 = -1) ∧ ((∀ i, 0 ≤ i → i < (n : Int) → A 48 k 0 ≠ A 18 s (pl + i)) → gns A s pl n 48 k 0 = A 48 k 0))
  | 0, _ => ⟨fun g hg => rfl, fun k k0 k1 => ⟨rfl, fun ⟨i, i0, i1, _⟩ => by omega, fun _ => rfl⟩⟩
  | n + 1, hn => by
    obtain ⟨e, e2⟩ := fgs_gns I s0 s1 p0 n (by omega)
    obtain ⟨f, ef⟩ : ∃ f, f = A 18 s (pl + n) := ⟨_, rfl⟩
    have hf := I.2.2.2.2.2.1 s (pl + n) s0 s1 (by omega) (by omega)
    rw [← ef] at hf
    have hne : ∀ i, 0 ≤ i → i < (n : Int) → A 18 s (pl + i) ≠ f := fun i i0 i1 => by rw [ef]; exact (I.2.2.2.2.2.2.1 s (pl + i) (pl + n) s0 s1 (by omega) (by omega) (by omega)).1
    rw [gns, fgs, ← ef]
    obtain ⟨X, hX⟩ : ∃ X, X = gns A s pl n := ⟨_, rfl⟩
    obtain ⟨Y, hY⟩ : ∃ Y, Y = fgs A s pl n := ⟨_, rfl⟩
    have y48 : Y 48 = A 48 := by rw [hY]; exact fgs_f (by decide) n
    have x47 : X 47 = A 47 := by rw [hX]; exact gns_f (by decide) n
    have y47 : Y 47 = A 47 := by rw [hY]; exact fgs_f (by decide) n
    rw [← hX, ← hY] at e e2
    rw [← hX, ← hY]
    refine ⟨fun g hg => ?_, fun k k0 k1 => ?_⟩
    · -- the cells that both change alike
      have q39 : X 39 = Y 39 := e 39 (by decide)
      have q40 : X 40 = Y 40 := e 40 (by decide)
      have q42 : X 42 = Y 42 := e 42 (by decide)
      have q43 : X 43 = Y 43 := e 43 (by decide)
      have q36 : X 36 = Y 36 := e 36 (by decide)
      have q32 : X 32 = Y 32 := e 32 (by decide)
      have u : ∀ Z : AS, ∀ g, g ≠ 32 → up Z 32 f 0 (-1) g = Z g := fun Z g hg => by funext i j; exact up_f hg
      have ej : jq (up X 32 f 0 (-1)) f = jq (up Y 32 f 0 (-1)) f := by unfold jq; rw [u X 42 (by decide), u X 43 (by decide), u Y 42 (by decide), u Y 43 (by decide), q42, q43]
      unfold nx_goes gz4 gz3 gz2 gz1 fgt rls
      by_cases z : g ∈ [32, 39, 40, 42, 43]
      · rw [ndl_f (fun q => by subst q; revert z; decide) (fun q => by subst q; revert z; decide), kdl_f (fun q => by subst q; revert z; decide) (fun q => by subst q; revert z; decide), ndo_f (fun q => by subst q; revert z; decide)]
        simp only [List.mem_cons, List.not_mem_nil, or_false] at z
        rcases z with rfl | rfl | rfl | rfl | rfl
        · rw [mdl_f (by decide) (by decide), mdl_f (by decide) (by decide), qdel_f (by decide) (by decide), qdel_f (by decide) (by decide)]
          funext i j; rw [up_at, up_at, q32]
        · funext i j
          show (if j = 0 ∧ 0 ≤ i ∧ i < X 36 0 0 ∧ qdel (up X 32 f 0 (-1)) f 39 i 0 = f then -1 else qdel (up X 32 f 0 (-1)) f 39 i j) = (if j = 0 ∧ 0 ≤ i ∧ i < up Y 32 f 0 (-1) 36 0 0 ∧ qdel (up Y 32 f 0 (-1)) f 39 i 0 = f then -1 else qdel (up Y 32 f 0 (-1)) f 39 i j)
          rw [qdel_f (by decide) (by decide), qdel_f (by decide) (by decide), u X 39 (by decide), u Y 39 (by decide), u Y 36 (by decide), q39, q36]
        · funext i j
          show (if j = 0 ∧ 0 ≤ i ∧ i < X 36 0 0 ∧ qdel (up X 32 f 0 (-1)) f 39 i 0 = f then 0 else qdel (up X 32 f 0 (-1)) f 40 i j) = (if j = 0 ∧ 0 ≤ i ∧ i < up Y 32 f 0 (-1) 36 0 0 ∧ qdel (up Y 32 f 0 (-1)) f 39 i 0 = f then 0 else qdel (up Y 32 f 0 (-1)) f 40 i j)
          rw [qdel_f (by decide) (by decide), qdel_f (by decide) (by decide), qdel_f (by decide) (by decide), qdel_f (by decide) (by decide), u X 39 (by decide), u Y 39 (by decide), u X 40 (by decide), u Y 40 (by decide), u Y 36 (by decide), q39, q40, q36]
        · rw [mdl_f (by decide) (by decide), mdl_f (by decide) (by decide)]
          funext i j
          show (if i = 0 ∧ j = 0 ∧ jq (up X 32 f 0 (-1)) f ≠ -1 then up X 32 f 0 (-1) 42 0 0 - 1 else up X 32 f 0 (-1) 42 i j) = (if i = 0 ∧ j = 0 ∧ jq (up Y 32 f 0 (-1)) f ≠ -1 then up Y 32 f 0 (-1) 42 0 0 - 1 else up Y 32 f 0 (-1) 42 i j)
          rw [ej, u X 42 (by decide), u Y 42 (by decide), q42]
        · rw [mdl_f (by decide) (by decide), mdl_f (by decide) (by decide)]
          funext i j
          show (if j = 0 ∧ jq (up X 32 f 0 (-1)) f ≠ -1 ∧ jq (up X 32 f 0 (-1)) f ≤ i then up X 32 f 0 (-1) 43 (i + 1) 0 else up X 32 f 0 (-1) 43 i j) = (if j = 0 ∧ jq (up Y 32 f 0 (-1)) f ≠ -1 ∧ jq (up Y 32 f 0 (-1)) f ≤ i then up Y 32 f 0 (-1) 43 (i + 1) 0 else up Y 32 f 0 (-1) 43 i j)
          rw [ej, u X 43 (by decide), u Y 43 (by decide), q43]
      · have hz : ∀ k, k ∈ [32, 39, 40, 42, 43] → g ≠ k := fun k hk q => z (q ▸ hk)
        have hy : ∀ k, k ∈ [23, 24, 48, 50] → g ≠ k := fun k hk q => hg (q ▸ hk)
        rw [ndl_f (hy 48 (by decide)) (hy 50 (by decide)), kdl_f (hy 23 (by decide)) (hy 24 (by decide)), ndo_f (hy 50 (by decide)), mdl_f (hz 39 (by decide)) (hz 40 (by decide)), mdl_f (hz 39 (by decide)) (hz 40 (by decide)), qdel_f (hz 42 (by decide)) (hz 43 (by decide)), qdel_f (hz 42 (by decide)) (hz 43 (by decide)), u X g (hz 32 (by decide)), u Y g (hz 32 (by decide))]
        exact e g hg
    · obtain ⟨w1, w2, w3⟩ := e2 k k0 k1
      obtain ⟨v1, v2⟩ := nxg_48 (A := X) (s := s) (f := f) k0 (by rw [x47]; exact k1)
      have yf : fgt Y f 50 k 0 = if A 48 k 0 = f then 0 else Y 50 k 0 := by
        unfold fgt
        rw [ndo_50, rls_f (by decide), rls_f (by decide), up_f (by decide), up_f (by decide), y48, y47]
        simp [k0, k1]
      have iff : X 48 k 0 = f ↔ A 48 k 0 = f := by
        by_cases y : ∃ i, 0 ≤ i ∧ i < (n : Int) ∧ A 48 k 0 = A 18 s (pl + i)
        · rw [w2 y]
          obtain ⟨i, i0, i1, i2⟩ := y
          rw [i2]
          exact ⟨fun q => by omega, fun q => absurd q (hne i i0 i1)⟩
        · rw [w3 (fun i i0 i1 q => y ⟨i, i0, i1, q⟩)]
      refine ⟨?_, fun ⟨i, i0, i1, i2⟩ => ?_, fun w => ?_⟩
      · rw [v2, yf, w1]
        by_cases y : A 48 k 0 = f
        · rw [if_pos y, if_pos (iff.2 y)]
        · rw [if_neg y, if_neg (fun q => y (iff.1 q))]
      · rw [v1]
        by_cases y : X 48 k 0 = f
        · rw [if_pos y]
        · rw [if_neg y]
          refine w2 ⟨i, i0, ?_, i2⟩
          have : i ≠ n := fun q => y (iff.2 (by rw [i2, q, ef]))
          omega
      · rw [v1, if_neg (fun q => w n (by omega) (by omega) (by rw [iff.1 q, ef]))]
        exact w3 (fun i i0 i1 => w i i0 (by omega))
/-- the keys of the frames that go -/
def kds (A : AS) (s pl : Int) : Nat → AS
  | 0 => A
  | n + 1 => kdl (kds A s pl n) s (A 18 s (pl + n))
theorem kds_f {A : AS} {s pl : Int} {g : Nat} (h1 : g ≠ 23) (h2 : g ≠ 24) : ∀ n, kds A s pl n g = A g
  | 0 => rfl
  | n + 1 => by rw [kds, kdl_f h1 h2, kds_f h1 h2 n]
theorem kds_gns {A : AS} {s pl pl' : Int} {M : AS} (e23 : M 23 = A 23) (e24 : M 24 = A 24) : ∀ n : Nat, (∀ i, 0 ≤ i → i < (n : Int) → M 18 s (pl' + i) = A 18 s (pl + i)) → kds M s pl' n 23 = gns A s pl n 23 ∧ kds M s pl' n 24 = gns A s pl n 24
  | 0, _ => ⟨e23, e24⟩
  | n + 1, h => by
    obtain ⟨h1, h2⟩ := kds_gns e23 e24 n (fun i i0 i1 => h i i0 (by omega))
    have hf := h n (by omega) (by omega)
    rw [kds, gns, hf]
    constructor
    · funext i j
      rw [nxg_23]
      show (if i = s ∧ j = 0 then kds M s pl' n 23 s 0 - sm (fun l => kds M s pl' n 24 (A 18 s (pl + n)) l) 16 else kds M s pl' n 23 i j) = _
      rw [h1, h2]
    · funext i j
      rw [nxg_24]
      show (if i = A 18 s (pl + n) ∧ 0 ≤ j ∧ j < 16 then 0 else kds M s pl' n 24 i j) = _
      rw [h2]
theorem kdl_K {A : AS} (K : IvK A) {s f : Int} (f0 : 16 * s ≤ f) (f1 : f < 16 * s + 16) (s0 : 0 ≤ s) (s1 : s < 5) : IvK (kdl A s f) := by
  intro t t0 t1
  have e23 : kdl A s f 23 t 0 = if t = s ∧ (0 : Int) = 0 then A 23 s 0 - sm (fun l => A 24 f l) 16 else A 23 t 0 := rfl
  have e24 : ∀ i j, kdl A s f 24 i j = if i = f ∧ 0 ≤ j ∧ j < 16 then 0 else A 24 i j := fun i j => rfl
  rw [e23]
  unfold ksum
  by_cases z : t = s
  · subst z
    rw [if_pos ⟨rfl, rfl⟩]
    have h1 := sm_set (g := fun i => sm (fun l => A 24 (16 * t + i) l) 16) (g' := fun i => sm (fun l => kdl A t f 24 (16 * t + i) l) 16) (i := f - 16 * t) (by omega) (fun i hi => sm_congr 16 (fun l l0 l1 => by rw [e24, if_neg (by omega)])) 16 (by omega)
    have h2 : sm (fun l => kdl A t f 24 (16 * t + (f - 16 * t)) l) 16 = sm (fun _ => (0 : Int)) 16 := sm_congr 16 (fun l l0 l1 => by rw [e24, if_pos ⟨by omega, l0, by omega⟩])
    have h3 : sm (fun _ => (0 : Int)) 16 = 0 := by decide
    have := K t t0 t1
    unfold ksum at this
    rw [h1, h2, h3, show 16 * t + (f - 16 * t) = f by omega]
    omega
  · rw [if_neg (fun q => z q.1), ← K t t0 t1]
    exact sm_congr 16 (fun i i0 i1 => sm_congr 16 (fun l l0 l1 => by rw [e24, if_neg (by omega)]))
