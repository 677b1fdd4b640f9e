-- THE INVARIANTS are kept
def Inv (c : Int) (A : AS) : Prop := IvV A ∧ IvD A ∧ IvS c A ∧ IvF A ∧ IvM c A ∧ IvN A ∧ IvC c A ∧ IvG A ∧ IvE A ∧ IvK A
theorem nin {L M : List Nat} {g : Nat} (hg : g ∈ M) (h : ∀ k, k ∈ M → k ∉ L) : g ∉ L := h g hg
theorem IvE.of {A B : AS} (E : IvE A) (e32 : B 32 = A 32) (e34 : B 34 = A 34) : IvE B := by unfold IvE; rw [e32, e34]; exact E
theorem IvK.of {A B : AS} (K : IvK A) (e23 : B 23 = A 23) (e24 : B 24 = A 24) : IvK B := by unfold IvK ksum; rw [e23, e24]; exact K
theorem IvS.mono {c c' : Int} {A : AS} (I : IvS c A) (h : c ≤ c') : IvS c' A := by
  obtain ⟨i1, i2, i3, i4⟩ := I
  refine ⟨i1, i2, fun s s0 s1 => ?_, i4⟩
  obtain ⟨b1, b2, b3, b4, b5, b6, b7, b8, b9, b10, b11, b12, b13, b14, b15⟩ := i3 s s0 s1
  exact ⟨b1, b2, b3, by omega, b5, b6, b7, b8, b9, b10, b11, b12, b13, by omega, b15⟩
theorem IvM.mono {c c' : Int} {A : AS} (J : IvM c A) (h : c ≤ c') : IvM c' A := J.cnt (by have := J.2.2.2.2.2.1; omega) (by have := J.2.2.2.2.2.2.2.1; omega)
theorem IvC.mono {c c' : Int} {A : AS} (C : IvC c A) (h : c ≤ c') : IvC c' A := ⟨C.1, C.2.1, by have := C.2.2.1; omega, C.2.2.2.1, by have := C.2.2.2.2; omega⟩
theorem Inv.mono {c c' : Int} {A : AS} (I : Inv c A) (h : c ≤ c') : Inv c' A := by
  obtain ⟨V, D, S, F, M, N, C, G, E, K⟩ := I
  exact ⟨V, D, S.mono h, F, M.mono h, N, C.mono h, G, E, K⟩
theorem Inv.Stx {c : Int} {A : AS} (I : Inv c A) : Stx A := ⟨I.1, I.2.1, I.2.2.1.2.1, I.2.2.2.2.1.2.1, I.2.2.2.2.2.1.2.1, I.2.2.2.2.2.1.2.2.2.2.1, I.2.2.2.2.2.2.2.1⟩
theorem inv_content {c x : Int} {A : AS} (I : Inv c A) : Inv c (nx_content A x) := by
  unfold nx_content
  split
  · next h =>
    have hx : 0 ≤ x ∧ x ≤ 999 := by
      by_cases z : 0 ≤ x ∧ x ≤ 999
      · exact z
      · unfold th_content at h; rw [if_neg z] at h; omega
    obtain ⟨V, D, S, F, M, N, C, G, E, K⟩ := I
    have e : ∀ g, g ∉ [11] → up A 11 0 0 x g = A g := fun g hg => by funext i j; exact up_f (fun q => hg (by rw [q]; decide))
    refine ⟨V.of (fun g hg => e g (nin hg (by decide))), ?_, S.of (fun g hg => e g (nin hg (by decide))), F.of (fun g hg => e g (nin hg (by decide))), M.of (fun g hg => e g (nin hg (by decide))), N.of (fun g hg => e g (nin hg (by decide))), C.of (fun g hg => e g (nin hg (by decide))), ?_, IvE.of E (e 32 (by decide)) (e 34 (by decide)), IvK.of K (e 23 (by decide)) (e 24 (by decide))⟩
    · unfold IvD exv at *
      rw [e 1 (by decide), e 2 (by decide), e 8 (by decide), e 12 (by decide), e 13 (by decide), e 14 (by decide), e 15 (by decide), up_s]
      exact ⟨hx.1, hx.2, D.2.2⟩
    · unfold IvG exv at *
      rw [e 1 (by decide), e 2 (by decide), e 6 (by decide), e 7 (by decide), e 17 (by decide), e 18 (by decide), e 100 (by decide), e 101 (by decide), e 102 (by decide), e 103 (by decide), e 105 (by decide)]
      exact G
  · exact I
theorem IvG.of2 {A B : AS} (G : IvG A) (e : ∀ g, g ∈ [1, 2, 6, 7, 17, 18, 100, 101, 102, 103, 105] → B g = A g) : IvG B := by
  unfold IvG exv at *
  rw [e 1 (by decide), e 2 (by decide), e 6 (by decide), e 7 (by decide), e 17 (by decide), e 18 (by decide), e 100 (by decide), e 101 (by decide), e 102 (by decide), e 103 (by decide), e 105 (by decide)]
  exact G
theorem inv_constrain {c k t s n : Int} {A : AS} (I : Inv c A) : Inv c (nx_constrain A k t s n) := by
  unfold nx_constrain
  split
  · next h =>
    obtain ⟨V, D, S, F, M, N, C, G, E, K⟩ := I
    have hx : (0 ≤ t ∧ t ≤ 3 ∧ 0 ≤ s ∧ s ≤ 3) ∧ (0 ≤ k ∧ k ≤ 3 ∧ (k < 2 → n = 0) ∧ (k = 2 → -8 ≤ n ∧ n ≤ 8) ∧ (k = 3 → 0 ≤ n ∧ n ≤ 999)) ∧ A 12 0 0 ≠ 6 := by
      unfold th_constrain at h
      by_cases z : 0 ≤ t ∧ t ≤ 3 ∧ 0 ≤ s ∧ s ≤ 3
      · rw [if_neg (fun q => q z)] at h
        by_cases y : 0 ≤ k ∧ k ≤ 3 ∧ (k < 2 → n = 0) ∧ (k = 2 → -8 ≤ n ∧ n ≤ 8) ∧ (k = 3 → 0 ≤ n ∧ n ≤ 999)
        · rw [if_neg (fun q => q y)] at h
          exact ⟨z, y, fun q => by rw [if_pos q] at h; omega⟩
        · rw [if_pos y] at h; omega
      · rw [if_pos z] at h; omega
    obtain ⟨hx1, hx2, hx3⟩ := hx
    obtain ⟨B, hB⟩ : ∃ B, B = up (up (up (up (up A 13 (4 * A 12 0 0) 0 k) 13 (4 * A 12 0 0 + 1) 0 t) 13 (4 * A 12 0 0 + 2) 0 s) 13 (4 * A 12 0 0 + 3) 0 n) 12 0 0 (A 12 0 0 + 1) := ⟨_, rfl⟩
    have e : ∀ g, g ∉ [12, 13] → B g = A g := fun g hg => by
      rw [hB]; funext i j
      rw [up_f (fun q => hg (by rw [q]; decide)), up_f (fun q => hg (by rw [q]; decide)), up_f (fun q => hg (by rw [q]; decide)), up_f (fun q => hg (by rw [q]; decide)), up_f (fun q => hg (by rw [q]; decide))]
    have b12 : B 12 0 0 = A 12 0 0 + 1 := by rw [hB, up_s]
    have b13 : ∀ i, B 13 i 0 = if i = 4 * A 12 0 0 + 3 then n else if i = 4 * A 12 0 0 + 2 then s else if i = 4 * A 12 0 0 + 1 then t else if i = 4 * A 12 0 0 then k else A 13 i 0 := fun i => by
      rw [hB, up_f (by decide), up_at, up_at, up_at, up_at]; simp only [and_true]
    rw [← hB]
    clear hB
    refine ⟨V.of (fun g hg => e g (nin hg (by decide))), ?_, S.of (fun g hg => e g (nin hg (by decide))), F.of (fun g hg => e g (nin hg (by decide))), M.of (fun g hg => e g (nin hg (by decide))), N.of (fun g hg => e g (nin hg (by decide))), C.of (fun g hg => e g (nin hg (by decide))), G.of2 (fun g hg => e g (nin hg (by decide))), IvE.of E (e 32 (by decide)) (e 34 (by decide)), IvK.of K (e 23 (by decide)) (e 24 (by decide))⟩
    unfold IvD exv at *
    rw [e 1 (by decide), e 2 (by decide), e 8 (by decide), e 11 (by decide), e 14 (by decide), e 15 (by decide), b12]
    obtain ⟨d1, d2, d3, d4, d5, d6, d7, d8⟩ := D
    refine ⟨d1, d2, by omega, by omega, d5, d6, fun i i0 i1 => ?_, d8⟩
    simp only [b13]
    by_cases z : i = A 12 0 0
    · subst z
      have : conOk k t s n := ⟨hx2.1, hx2.2.1, hx1.1, hx1.2.1, hx1.2.2.1, hx1.2.2.2, hx2.2.2.1, hx2.2.2.2.1, hx2.2.2.2.2⟩
      rw [if_neg (by omega), if_neg (by omega), if_neg (by omega), if_pos rfl, if_neg (by omega), if_neg (by omega), if_pos rfl, if_neg (by omega), if_pos rfl, if_pos rfl]
      exact this
    · have := d7 i i0 (by omega)
      rw [if_neg (by omega), if_neg (by omega), if_neg (by omega), if_neg (by omega), if_neg (by omega), if_neg (by omega), if_neg (by omega), if_neg (by omega), if_neg (by omega), if_neg (by omega), if_neg (by omega), if_neg (by omega), if_neg (by omega), if_neg (by omega), if_neg (by omega), if_neg (by omega)]
      exact this
  · exact I
theorem inv_parent {c a v : Int} {A : AS} (I : Inv c A) : Inv c (nx_parent A a v) := by
  unfold nx_parent
  split
  · next h =>
    obtain ⟨V, D, S, F, M, N, C, G, E, K⟩ := I
    have hx : isV A a v ∧ A 14 0 0 ≠ 3 ∧ A 8 (6 * a + v - 1) 0 ≠ 4 := by
      unfold th_parent at h
      by_cases z : isV A a v
      · rw [if_neg (fun q => q z)] at h
        by_cases y : A 14 0 0 = 3 ∨ A 8 (6 * a + v - 1) 0 = 4
        · rw [if_pos y] at h; omega
        · exact ⟨z, by omega, by omega⟩
      · rw [if_pos z] at h; omega
    obtain ⟨hx1, hx2, hx3⟩ := hx
    obtain ⟨hv, -, -⟩ := exv_of V hx1
    have h8 := (V.2.2.2.2.1 _ hv).2.2.2.2
    obtain ⟨B, hB⟩ : ∃ B, B = up (up A 15 (A 14 0 0) 0 (6 * a + v - 1)) 14 0 0 (A 14 0 0 + 1) := ⟨_, rfl⟩
    have e : ∀ g, g ∉ [14, 15] → B g = A g := fun g hg => by
      rw [hB]; funext i j
      rw [up_f (fun q => hg (by rw [q]; decide)), up_f (fun q => hg (by rw [q]; decide))]
    have b14 : B 14 0 0 = A 14 0 0 + 1 := by rw [hB, up_s]
    have b15 : ∀ i, B 15 i 0 = if i = A 14 0 0 then 6 * a + v - 1 else A 15 i 0 := fun i => by
      rw [hB, up_f (by decide), up_at]; simp only [and_true]
    rw [← hB]
    clear hB
    refine ⟨V.of (fun g hg => e g (nin hg (by decide))), ?_, S.of (fun g hg => e g (nin hg (by decide))), F.of (fun g hg => e g (nin hg (by decide))), M.of (fun g hg => e g (nin hg (by decide))), N.of (fun g hg => e g (nin hg (by decide))), C.of (fun g hg => e g (nin hg (by decide))), G.of2 (fun g hg => e g (nin hg (by decide))), IvE.of E (e 32 (by decide)) (e 34 (by decide)), IvK.of K (e 23 (by decide)) (e 24 (by decide))⟩
    unfold IvD exv at *
    rw [e 1 (by decide), e 2 (by decide), e 8 (by decide), e 11 (by decide), e 12 (by decide), e 13 (by decide), b14]
    obtain ⟨d1, d2, d3, d4, d5, d6, d7, d8⟩ := D
    refine ⟨d1, d2, d3, d4, by omega, by omega, d7, fun i i0 i1 => ?_⟩
    simp only [b15]
    by_cases z : i = A 14 0 0
    · rw [if_pos z]; exact ⟨hv, by omega⟩
    · rw [if_neg z]; exact d8 i i0 (by omega)
  · exact I
theorem inv_approve {c a v : Int} {A : AS} (I : Inv c A) : Inv c (nx_approve A a v) := by
  unfold nx_approve
  by_cases h : th_approve A a v = 0
  · rw [cif_pos h]
    obtain ⟨V, D, S, F, M, N, C, G, E, K⟩ := I
    have hx : isV A a v := by
      unfold th_approve at h
      by_cases z : isV A a v
      · exact z
      · rw [if_pos z] at h; omega
    obtain ⟨hv, -, -⟩ := exv_of V hx
    have e : ∀ g, g ∉ [10] → up A 10 (6 * a + v - 1) 0 1 g = A g := fun g hg => by funext i j; exact up_f (fun q => hg (by rw [q]; decide))
    have b10 : ∀ i, up A 10 (6 * a + v - 1) 0 1 10 i 0 = if i = 6 * a + v - 1 then 1 else A 10 i 0 := fun i => by rw [up_at]; simp
    have C2 : IvC c (up A 10 (6 * a + v - 1) 0 1) := C.of (fun g hg => e g (nin hg (by decide)))
    refine ⟨?_, D.of (fun g hg => e g (nin hg (by decide))), S.of (fun g hg => e g (nin hg (by decide))), F.of (fun g hg => e g (nin hg (by decide))), M.of (fun g hg => e g (nin hg (by decide))), N.of (fun g hg => e g (nin hg (by decide))), C.of (fun g hg => e g (nin hg (by decide))), G.of2 (fun g hg => e g (nin hg (by decide))), IvE.of E (e 32 (by decide)) (e 34 (by decide)), IvK.of K (e 23 (by decide)) (e 24 (by decide))⟩
    unfold IvV exv at *
    rw [e 1 (by decide), e 2 (by decide), e 3 (by decide), e 4 (by decide), e 5 (by decide), e 6 (by decide), e 7 (by decide), e 8 (by decide), e 9 (by decide)]
    obtain ⟨i1, i2, i3, i4, i5, i6, i7, i8, i9, i10⟩ := V
    refine ⟨i1, i2, i3, i4, i5, i6, i7, fun w w0 w1 => ?_, fun w w0 w1 w2 => ?_, i10⟩
    · obtain ⟨t1, t2, t3, t4⟩ := i8 w w0 w1
      rw [b10]
      refine ⟨t1, t2, t3, ?_⟩
      split
      · exact Or.inr rfl
      · exact t4
    · obtain ⟨t1, t2, t3⟩ := i9 w w0 w1 w2
      rw [b10, if_neg (fun q => w2 (by rw [q]; exact hv))]
      exact ⟨t1, t2, t3⟩
  · rw [cif_neg h]; exact I
theorem inv_retract {c a v : Int} {A : AS} (I : Inv c A) : Inv c (nx_retract A a v) := by
  unfold nx_retract
  split
  · next h =>
    obtain ⟨V, D, S, F, M, N, C, G, E, K⟩ := I
    have hx : isV A a v := by
      unfold th_retract at h
      by_cases z : isV A a v
      · exact z
      · rw [if_pos z] at h; omega
    obtain ⟨hv, -, -⟩ := exv_of V hx
    obtain ⟨r, er⟩ : ∃ r, r = 6 * a + v - 1 := ⟨_, rfl⟩
    rw [← er] at hv ⊢
    have e : ∀ g, g ∉ [9, 10, 31] → rt2 A r (A 16 0 0) g = A g := fun g hg => by
      funext i j
      rw [rt2_f (fun q => hg (by rw [q]; decide)), rt1_f (fun q => hg (by rw [q]; decide)) (fun q => hg (by rw [q]; decide))]
    have b9 : ∀ i, rt2 A r (A 16 0 0) 9 i 0 = if i = r then 1 else A 9 i 0 := fun i => by
      rw [rt2_f (by decide)]; unfold rt1; rw [upf_f (by decide), up_at]; simp
    have b10 : ∀ i, rt2 A r (A 16 0 0) 10 i 0 = A 10 i 0 ∨ rt2 A r (A 16 0 0) 10 i 0 = 0 := fun i => by
      rw [rt2_f (by decide)]; unfold rt1; rw [upf_at]
      by_cases z : (0 : Int) = 0 ∧ 0 ≤ i ∧ i < 60 ∧ Dsc A r i
      · rw [cif_pos z]; exact Or.inr rfl
      · rw [cif_neg z]; exact Or.inl rfl
    have b31 : ∀ i, rt2 A r (A 16 0 0) 31 i 0 = A 31 i 0 ∨ rt2 A r (A 16 0 0) 31 i 0 = 0 := fun i => by
      unfold rt2; rw [upf_at]
      by_cases z : (0 : Int) = 0 ∧ 0 ≤ i ∧ i < A 16 0 0 ∧ pinD A r i
      · rw [cif_pos z]; exact Or.inr rfl
      · rw [cif_neg z]; exact Or.inl rfl
    have h23 : rt2 A r (A 16 0 0) 23 = A 23 := e 23 (by decide)
    have h24 : rt2 A r (A 16 0 0) 24 = A 24 := e 24 (by decide)
    refine ⟨?_, D.of (fun g hg => e g (nin hg (by decide))), ?_, F.of (fun g hg => e g (nin hg (by decide))), M.of (fun g hg => e g (nin hg (by decide))), N.of (fun g hg => e g (nin hg (by decide))), C.of (fun g hg => e g (nin hg (by decide))), G.of2 (fun g hg => e g (nin hg (by decide))), IvE.of E (e 32 (by decide)) (e 34 (by decide)), IvK.of K (e 23 (by decide)) (e 24 (by decide))⟩
    · unfold IvV exv at *
      rw [e 1 (by decide), e 2 (by decide), e 3 (by decide), e 4 (by decide), e 5 (by decide), e 6 (by decide), e 7 (by decide), e 8 (by decide)]
      obtain ⟨i1, i2, i3, i4, i5, i6, i7, i8, i9, i10⟩ := V
      refine ⟨i1, i2, i3, i4, i5, i6, i7, fun w w0 w1 => ?_, fun w w0 w1 w2 => ?_, i10⟩
      · obtain ⟨t1, t2, t3, t4⟩ := i8 w w0 w1
        rw [b9]
        refine ⟨t1, t2, ?_, ?_⟩
        · split
          · exact Or.inr rfl
          · exact t3
        · rcases b10 w with z | z <;> rw [z]
          · exact t4
          · exact Or.inl rfl
      · obtain ⟨t1, t2, t3⟩ := i9 w w0 w1 w2
        rw [b9, if_neg (fun q => w2 (by rw [q]; exact hv))]
        refine ⟨t1, t2, ?_⟩
        rcases b10 w with z | z <;> rw [z]
        exact t3
    · have e' : ∀ g, g ∉ [9, 10, 31] → rt2 A r (A 16 0 0) g = A g := e
      have S2 : IvS c (upf (up A 9 0 0 0) 9 (fun i j => A 9 i j)) := S.of (fun g hg => by
        funext i j
        rw [upf_f (fun q => by subst q; revert hg; decide), up_f (fun q => by subst q; revert hg; decide)])
      obtain ⟨i1, i2, i3, i4, i5, i6, i7, i8, i9, i10⟩ := S
      unfold IvS actv exv at *
      rw [e 1 (by decide), e 2 (by decide), e 16 (by decide), e 17 (by decide), e 18 (by decide), e 20 (by decide), e 21 (by decide), e 22 (by decide), e 23 (by decide), e 24 (by decide), e 25 (by decide), e 27 (by decide), e 28 (by decide), e 29 (by decide), e 30 (by decide)]
      refine ⟨i1, i2, fun s s0 s1 => ?_, i4, fun s s0 s1 => ?_, i6, i7, i8, i9, i10⟩
      · obtain ⟨b1, b2, b3, b4, b5, b6, b7, b8, b9, b10, b11, b12, b13, b14, b15⟩ := i3 s s0 s1
        refine ⟨b1, b2, b3, b4, b5, b6, b7, b8, b9, b10, b11, b12, b13, b14, ?_⟩
        rcases b31 s with z | z <;> rw [z]
        · exact b15
        · exact Or.inl rfl
      · obtain ⟨b1, b2, b3, b4, b5, b6, b7⟩ := i5 s s0 s1
        refine ⟨b1, b2, b3, b4, b5, b6, ?_⟩
        rcases b31 s with z | z <;> rw [z]
        exact b7
  · exact I
