theorem ksum_up {A B : AS} {s f l v : Int} (s0 : 0 ≤ s) (s1 : s < 5) (f0 : 16 * s ≤ f) (f1 : f < 16 * s + 16) (l0 : 0 ≤ l) (l1 : l < 16) (e : ∀ i j, ¬ (i = f ∧ j = l) → B 24 i j = A 24 i j) (hv : B 24 f l = v) : ksum B s = ksum A s - A 24 f l + v ∧ ∀ t, 0 ≤ t → t < 5 → t ≠ s → ksum B t = ksum A t := by
  constructor
  · have h1 := sm_set (g := fun i => sm (fun l => A 24 (16 * s + i) l) 16) (g' := fun i => sm (fun l => B 24 (16 * s + i) l) 16) (i := f - 16 * s) (by omega) (fun i hi => sm_congr 16 (fun l l0 l1 => by rw [e _ _ (by omega)])) 16 (by omega)
    have h2 := sm_set (g := fun l => A 24 f l) (g' := fun l => B 24 f l) (i := l) l0 (fun i hi => by rw [e _ _ (by omega)]) 16 (by omega)
    rw [show 16 * s + (f - 16 * s) = f by omega] at h1
    unfold ksum
    rw [h1, h2, hv]; omega
  · intro t t0 t1 ht
    exact sm_congr 16 (fun i i0 i1 => sm_congr 16 (fun l l0 l1 => by rw [e _ _ (by omega)]))
/-- keys are set: what a state with shots keeps -/
theorem IvS.keys2 {c : Int} {A B : AS} (I : IvS c A) (e : ∀ g, g ∉ [23, 24, 25, 31] → B g = A g) (h23 : ∀ s, 0 ≤ s → s < 5 → B 23 s 0 = A 23 s 0 ∨ (s < A 16 0 0 ∧ 0 ≤ B 23 s 0 ∧ B 23 s 0 ≤ 20)) (h24 : ∀ f l, 0 ≤ f → f < 80 → 0 ≤ l → l < 16 → B 24 f l = A 24 f l ∨ B 24 f l = 0 ∨ (B 24 f l = 1 ∧ actv A f)) (h25 : ∀ f l, 0 ≤ f → f < 80 → 0 ≤ l → l < 16 → B 25 f l = A 25 f l ∨ (-9999 ≤ B 25 f l ∧ B 25 f l ≤ 9999)) (h31 : ∀ s, 0 ≤ s → s < 5 → B 31 s 0 = A 31 s 0 ∨ B 31 s 0 = 0) : IvS c B := by
  obtain ⟨i1, i2, i3, i4, i5, i6, i7, i8, i9, i10⟩ := I
  have ea : ∀ f, actv B f ↔ actv A f := fun f => by unfold actv; rw [e 17 (by decide), e 18 (by decide)]
  unfold IvS
  simp only [ea]
  unfold exv at *
  rw [e 1 (by decide), e 2 (by decide), e 16 (by decide), e 17 (by decide), e 18 (by decide), e 20 (by decide), e 21 (by decide), e 22 (by decide), e 27 (by decide), e 28 (by decide), e 29 (by decide), e 30 (by decide)]
  refine ⟨i1, i2, fun s s0 s1 => ?_, i4, fun s s0 s1 => ?_, i6, i7, i8, i9, fun f l f0 f1 l0 l1 => ?_⟩
  · obtain ⟨b1, b2, b3, b4, b5, b6, b7, b8, b9, b10, b11, b12, b13, b14, b15⟩ := i3 s s0 s1
    have := h23 s s0 s1
    refine ⟨b1, b2, b3, b4, by omega, by omega, b7, b8, b9, b10, b11, b12, b13, b14, ?_⟩
    rcases h31 s s0 s1 with z | z <;> rw [z]
    · exact b15
    · exact Or.inl rfl
  · obtain ⟨b1, b2, b3, b4, b5, b6, b7⟩ := i5 s s0 s1
    have := h23 s (by omega) s1
    refine ⟨b1, b2, by omega, b4, b5, b6, ?_⟩
    rcases h31 s (by omega) s1 with z | z <;> rw [z]
    exact b7
  · obtain ⟨b1, b2, b3⟩ := i10 f l f0 f1 l0 l1
    refine ⟨?_, ?_⟩
    · rcases h24 f l f0 f1 l0 l1 with z | z | z
      · rw [z]; exact b1
      · exact Or.inl z
      · exact Or.inr z
    · rcases h25 f l f0 f1 l0 l1 with z | z
      · rw [z]; exact ⟨b2, b3⟩
      · exact z
theorem inv_key {c s sl ch p x : Int} {A : AS} (I : Inv c A) : Inv c (nx_key A s sl ch p x) := by
  unfold nx_key
  split
  · next h =>
    obtain ⟨V, D, S, F, M, N, C, G, E, K⟩ := I
    have hx : (isP A s p ∧ 0 ≤ sl ∧ sl ≤ 3 ∧ 0 ≤ ch ∧ ch ≤ 3) ∧ (-9999 ≤ x ∧ x ≤ 9999) ∧ ¬ (A 24 (A 18 s p) (4 * sl + ch) = 0 ∧ A 23 s 0 = 20) := by
      unfold th_key at h
      by_cases y : isP A s p ∧ 0 ≤ sl ∧ sl ≤ 3 ∧ 0 ≤ ch ∧ ch ≤ 3
      · rw [if_neg (fun q => q y)] at h
        by_cases w : -9999 ≤ x ∧ x ≤ 9999
        · rw [if_neg (fun q => q w)] at h
          exact ⟨y, w, fun q => by rw [if_pos q] at h; omega⟩
        · rw [if_pos w] at h; omega
      · rw [if_pos y] at h; omega
    obtain ⟨⟨hP, l0, l1, l2, l3⟩, hw, h20⟩ := hx
    obtain ⟨l, el⟩ : ∃ l, l = 4 * sl + ch := ⟨_, rfl⟩
    obtain ⟨f, ef⟩ : ∃ f, f = A 18 s p := ⟨_, rfl⟩
    have hs0 := hP.1
    have hs5 : s < 5 := by have := hP.2.1; have := S.2.1; omega
    have hf := S.2.2.2.2.2.1 s p hs0 hs5 hP.2.2.1 hP.2.2.2
    have ac := actv_of S hP
    have b23 := S.2.2.1 s hs0 hs5
    have b24 := (S.2.2.2.2.2.2.2.2.2 f l (by rw [ef]; omega) (by rw [ef]; omega) (by omega) (by omega)).1
    have eky : kyn A s sl ch p = if A 24 f l = 0 then A 23 s 0 + 1 else A 23 s 0 := by unfold kyn; rw [← ef, ← el]
    rw [← ef, ← el] at h20
    rw [← ef] at hf ac
    rw [eky, ← ef, ← el]
    obtain ⟨n, en⟩ : ∃ n, n = (if A 24 f l = 0 then A 23 s 0 + 1 else A 23 s 0) := ⟨_, rfl⟩
    have bn : 0 ≤ n ∧ n ≤ 20 := by rw [en]; split <;> omega
    rw [← en]
    obtain ⟨B, hB⟩ : ∃ B, B = up (up (up (up A 23 s 0 n) 24 f l 1) 25 f l x) 31 s 0 0 := ⟨_, rfl⟩
    have e : ∀ g, g ∉ [23, 24, 25, 31] → B g = A g := fun g hg => by rw [hB]; funext i j; rw [up_f (fun q => hg (by rw [q]; decide)), up_f (fun q => hg (by rw [q]; decide)), up_f (fun q => hg (by rw [q]; decide)), up_f (fun q => hg (by rw [q]; decide))]
    have e23 : ∀ t, B 23 t 0 = if t = s then n else A 23 t 0 := fun t => by rw [hB, up_f (by decide), up_f (by decide), up_f (by decide), ups]
    have e24 : ∀ i j, B 24 i j = if i = f ∧ j = l then 1 else A 24 i j := fun i j => by rw [hB, up_f (by decide), up_f (by decide), up_at, up_f (by decide)]
    have e25 : ∀ i j, B 25 i j = if i = f ∧ j = l then x else A 25 i j := fun i j => by rw [hB, up_f (by decide), up_at, up_f (by decide), up_f (by decide)]
    have e31 : ∀ t, B 31 t 0 = if t = s then 0 else A 31 t 0 := fun t => by rw [hB, ups, up_f (by decide), up_f (by decide), up_f (by decide)]
    rw [← hB]
    clear hB
    have e' : ∀ g, g ∉ [23, 24, 25, 31] → B g = A g := e
    have KB : IvK B := by
      obtain ⟨k1, k2⟩ := ksum_up (A := A) (B := B) (s := s) (f := f) (l := l) (v := 1) hs0 hs5 hf.1 hf.2.1 (by omega) (by omega) (fun i j hij => by rw [e24, if_neg hij]) (by rw [e24, if_pos ⟨rfl, rfl⟩])
      intro t t0 t1
      rw [e23]
      by_cases z : t = s
      · rw [if_pos z, z, k1, K s hs0 hs5, en]
        split <;> omega
      · rw [if_neg z, k2 t t0 t1 z]; exact K t t0 t1
    refine ⟨V.of (fun g hg => e g (nin hg (by decide))), D.of (fun g hg => e g (nin hg (by decide))), S.keys2 e (fun t t0 t1 => ?_) (fun i j i0 i1 j0 j1 => ?_) (fun i j i0 i1 j0 j1 => ?_) (fun t t0 t1 => ?_), F.of (fun g hg => e g (nin hg (by decide))), M.of (fun g hg => e g (nin hg (by decide))), N.of (fun g hg => e g (nin hg (by decide))), C.of (fun g hg => e g (nin hg (by decide))), G.of2 (fun g hg => e g (nin hg (by decide))), IvE.of E (e 32 (by decide)) (e 34 (by decide)), KB⟩
    · rw [e23]
      by_cases z : t = s
      · rw [if_pos z]; exact Or.inr ⟨by rw [z]; exact hP.2.1, bn⟩
      · rw [if_neg z]; exact Or.inl rfl
    · rw [e24]
      by_cases z : i = f ∧ j = l
      · rw [if_pos z]; exact Or.inr (Or.inr ⟨rfl, by rw [z.1]; exact ac.1⟩)
      · rw [if_neg z]; exact Or.inl rfl
    · rw [e25]
      by_cases z : i = f ∧ j = l
      · rw [if_pos z]; exact Or.inr hw
      · rw [if_neg z]; exact Or.inl rfl
    · rw [e31]
      by_cases z : t = s
      · rw [if_pos z]; exact Or.inr rfl
      · rw [if_neg z]; exact Or.inl rfl
  · exact I
theorem inv_dropKey {c s sl ch p : Int} {A : AS} (I : Inv c A) : Inv c (nx_dropKey A s sl ch p) := by
  unfold nx_dropKey
  split
  · next h =>
    obtain ⟨V, D, S, F, M, N, C, G, E, K⟩ := I
    have hx : (isP A s p ∧ 0 ≤ sl ∧ sl ≤ 3 ∧ 0 ≤ ch ∧ ch ≤ 3) ∧ A 24 (A 18 s p) (4 * sl + ch) ≠ 0 := by
      unfold th_dropKey at h
      by_cases y : isP A s p ∧ 0 ≤ sl ∧ sl ≤ 3 ∧ 0 ≤ ch ∧ ch ≤ 3
      · rw [if_neg (fun q => q y)] at h
        exact ⟨y, fun q => by rw [if_pos q] at h; omega⟩
      · rw [if_pos y] at h; omega
    obtain ⟨⟨hP, l0, l1, l2, l3⟩, h24⟩ := hx
    obtain ⟨l, el⟩ : ∃ l, l = 4 * sl + ch := ⟨_, rfl⟩
    obtain ⟨f, ef⟩ : ∃ f, f = A 18 s p := ⟨_, rfl⟩
    have hs0 := hP.1
    have hs5 : s < 5 := by have := hP.2.1; have := S.2.1; omega
    have hf := S.2.2.2.2.2.1 s p hs0 hs5 hP.2.2.1 hP.2.2.2
    have b23 := S.2.2.1 s hs0 hs5
    have b24 := (S.2.2.2.2.2.2.2.2.2 f l (by rw [ef]; omega) (by rw [ef]; omega) (by omega) (by omega)).1
    rw [← ef, ← el] at h24
    rw [← ef] at hf
    rw [← ef, ← el]
    have h1 : A 24 f l = 1 := by omega
    have hs := K.one S hs0 hs5 hf.1 hf.2.1
    have nn : ∀ i : Int, 0 ≤ i → i < ((16 : Nat) : Int) → 0 ≤ A 24 f i := fun i i0 i1 => by have := (S.2.2.2.2.2.2.2.2.2 f i (by omega) (by omega) i0 (by omega)).1; omega
    have hone := sm_one (g := fun l => A 24 f l) (k := l) (by omega) 16 (by omega) nn
    simp only [h1] at hone
    obtain ⟨B, hB⟩ : ∃ B, B = up (up (up A 24 f l 0) 23 s 0 (A 23 s 0 - 1)) 31 s 0 0 := ⟨_, rfl⟩
    have e : ∀ g, g ∉ [23, 24, 31] → B g = A g := fun g hg => by rw [hB]; funext i j; rw [up_f (fun q => hg (by rw [q]; decide)), up_f (fun q => hg (by rw [q]; decide)), up_f (fun q => hg (by rw [q]; decide))]
    have e23 : ∀ t, B 23 t 0 = if t = s then A 23 s 0 - 1 else A 23 t 0 := fun t => by rw [hB, up_f (by decide), ups, up_f (by decide)]
    have e24 : ∀ i j, B 24 i j = if i = f ∧ j = l then 0 else A 24 i j := fun i j => by rw [hB, up_f (by decide), up_f (by decide), up_at]
    have e31 : ∀ t, B 31 t 0 = if t = s then 0 else A 31 t 0 := fun t => by rw [hB, ups, up_f (by decide), up_f (by decide)]
    rw [← hB]
    clear hB
    have KB : IvK B := by
      obtain ⟨k1, k2⟩ := ksum_up (A := A) (B := B) (s := s) (f := f) (l := l) (v := 0) hs0 hs5 hf.1 hf.2.1 (by omega) (by omega) (fun i j hij => by rw [e24, if_neg hij]) (by rw [e24, if_pos ⟨rfl, rfl⟩])
      intro t t0 t1
      rw [e23]
      by_cases z : t = s
      · rw [if_pos z, z, k1, K s hs0 hs5]; omega
      · rw [if_neg z, k2 t t0 t1 z]; exact K t t0 t1
    refine ⟨V.of (fun g hg => e g (nin hg (by decide))), D.of (fun g hg => e g (nin hg (by decide))), S.keys e (fun t t0 t1 => ?_) (fun i j i0 i1 j0 j1 => ?_) (fun t t0 t1 => ?_), F.of (fun g hg => e g (nin hg (by decide))), M.of (fun g hg => e g (nin hg (by decide))), N.of (fun g hg => e g (nin hg (by decide))), C.of (fun g hg => e g (nin hg (by decide))), G.of2 (fun g hg => e g (nin hg (by decide))), IvE.of E (e 32 (by decide)) (e 34 (by decide)), KB⟩
    · rw [e23]
      by_cases z : t = s
      · rw [if_pos z, z]; omega
      · rw [if_neg z]; have := (S.2.2.1 t t0 t1).2.2.2.2.1; omega
    · rw [e24]
      by_cases z : i = f ∧ j = l
      · rw [if_pos z]; exact Or.inr rfl
      · rw [if_neg z]; exact Or.inl rfl
    · rw [e31]
      by_cases z : t = s
      · rw [if_pos z]; exact Or.inr rfl
      · rw [if_neg z]; exact Or.inl rfl
  · exact I
theorem inv_move {c s p m to : Int} {A : AS} (I : Inv c A) : Inv c (nx_move A s p m to) := by
  by_cases h : th_move A s p m to = 0
  · rw [nx_move_eq h]
    obtain ⟨V, D, S, F, M, N, C, G, E, K⟩ := I
    have hx : isP A s p ∧ 1 ≤ m ∧ p + m ≤ A 17 s 0 ∧ 0 ≤ to ∧ to + m ≤ A 17 s 0 := by
      unfold th_move at h
      by_cases y : isP A s p
      · rw [if_neg (fun q => q y)] at h
        by_cases w : m < 1 ∨ A 17 s 0 - p < m ∨ ¬ (0 ≤ to ∧ to ≤ A 17 s 0 - m)
        · rw [if_pos w] at h; omega
        · exact ⟨y, by omega, by omega, by omega, by omega⟩
      · rw [if_pos y] at h; omega
    obtain ⟨hP, m1, m2, o0, o1⟩ := hx
    have i17 := (S.2.2.1 s hP.1 (by have := hP.2.1; have := S.2.1; omega)).2.1
    have e : ∀ g, g ∉ [18, 31, 105] → up (mvA A s p m to) 31 s 0 0 g = A g := fun g hg => by
      funext i j
      rw [up_f (fun q => hg (by rw [q]; decide)), mvA_f (fun q => hg (by rw [q]; decide)) (fun q => hg (by rw [q]; decide))]
    have u : ∀ g, g ≠ 31 → up (mvA A s p m to) 31 s 0 0 g = mvA A s p m to g := fun g hg => by funext i j; exact up_f hg
    exact ⟨V.of (fun g hg => e g (nin hg (by decide))), D.of (fun g hg => e g (nin hg (by decide))), up31_S (mvA_S S hP.2.2.1 (by omega) m2 o0 o1) (Or.inr rfl), (mvA_F F hP.2.2.1 (by omega) m2 o0 o1).of (fun g hg => u g (fun q => by subst q; revert hg; decide)), (mvA_M M hP.2.2.1 (by omega) m2 o0 o1).of (fun g hg => u g (fun q => by subst q; revert hg; decide)), (mvA_N N hP.2.2.1 (by omega) m2 o0 o1).of (fun g hg => u g (fun q => by subst q; revert hg; decide)), C.of (fun g hg => e g (nin hg (by decide))), (mvA_G G hP.2.2.1 (by omega) m2 o0 o1 i17).of2 (fun g hg => u g (fun q => by subst q; revert hg; decide)), IvE.of E (e 32 (by decide)) (e 34 (by decide)), IvK.of K (e 23 (by decide)) (e 24 (by decide))⟩
  · unfold nx_move; rw [if_neg h]; exact I
