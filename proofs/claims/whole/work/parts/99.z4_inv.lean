/-- a shot's own numbers are set -/
theorem IvS.num {c c' : Int} {A B : AS} (I : IvS c A) (hc : c ≤ c') (e : ∀ g, g ∉ [22, 27, 28, 29, 30, 31] → B g = A g) (h22 : ∀ s k, 0 ≤ s → s < 5 → 0 ≤ k → k < 4 → B 22 s k = A 22 s k ∨ (s < A 16 0 0 ∧ (B 22 s k = -1 ∨ exv A (B 22 s k)))) (h : ∀ s, 0 ≤ s → s < 5 → (B 27 s 0 = A 27 s 0 ∨ (s < A 16 0 0 ∧ 0 ≤ B 27 s 0 ∧ B 27 s 0 ≤ 2)) ∧ (B 28 s 0 = A 28 s 0 ∨ (s < A 16 0 0 ∧ 1 ≤ B 28 s 0 ∧ B 28 s 0 ≤ 4)) ∧ (B 29 s 0 = A 29 s 0 ∨ (s < A 16 0 0 ∧ 0 ≤ B 29 s 0 ∧ B 29 s 0 ≤ 999)) ∧ (B 30 s 0 = A 30 s 0 ∨ (s < A 16 0 0 ∧ 0 ≤ B 30 s 0 ∧ B 30 s 0 ≤ 99 * c')) ∧ (B 31 s 0 = A 31 s 0 ∨ (s < A 16 0 0 ∧ (B 31 s 0 = 0 ∨ B 31 s 0 = 1)))) : IvS c' B := by
  obtain ⟨i1, i2, i3, i4, i5, i6, i7, i8, i9, i10⟩ := I
  unfold IvS actv exv at *
  rw [e 1 (by decide), e 2 (by decide), e 16 (by decide), e 17 (by decide), e 18 (by decide), e 20 (by decide), e 21 (by decide), e 23 (by decide), e 24 (by decide), e 25 (by decide)]
  refine ⟨i1, i2, fun s s0 s1 => ?_, fun s s0 s1 => ?_, fun s s0 s1 => ?_, i6, i7, fun s k s0 s1 k0 k1 => ?_, fun s k s0 s1 k0 k1 => ?_, i10⟩
  · obtain ⟨b1, b2, b3, b4, b5, b6, b7, b8, b9, b10, b11, b12, b13, b14, b15⟩ := i3 s s0 s1
    obtain ⟨x27, x28, x29, x30, x31⟩ := h s s0 s1
    refine ⟨b1, b2, b3, by omega, b5, b6, by omega, by omega, by omega, by omega, by omega, by omega, by omega, by omega, by omega⟩
  · have := i4 s s0 s1
    obtain ⟨x27, x28, x29, x30, x31⟩ := h s s0 (by omega)
    exact ⟨this.1, by omega⟩
  · obtain ⟨b1, b2, b3, b4, b5, b6, b7⟩ := i5 s s0 s1
    obtain ⟨x27, x28, x29, x30, x31⟩ := h s (by omega) s1
    exact ⟨b1, b2, b3, by omega, by omega, by omega, by omega⟩
  · rcases h22 s k s0 s1 k0 k1 with z | ⟨-, z⟩
    · rw [z]; exact i8 s k s0 s1 k0 k1
    · exact z
  · rcases h22 s k (by omega) s1 k0 k1 with z | ⟨z, -⟩
    · rw [z]; exact i9 s k s0 s1 k0 k1
    · omega
theorem ups {A : AS} {f : Nat} {i v : Int} {t : Int} : up A f i 0 v f t 0 = if t = i then v else A f t 0 := by rw [up_at]; simp
theorem inv_pin {c s k a v : Int} {A : AS} (I : Inv c A) : Inv c (nx_pin A s k a v) := by
  unfold nx_pin
  split
  · next h =>
    obtain ⟨V, D, S, F, M, N, C, G, E, K⟩ := I
    have hx : isS A s ∧ 0 ≤ k ∧ k ≤ 3 ∧ (a ≠ -1 → isV A a v) := by
      unfold th_pin at h
      by_cases z : isS A s ∧ 0 ≤ k ∧ k ≤ 3 ∧ (a ≠ -1 → isV A a v)
      · exact z
      · rw [if_pos z] at h; omega
    obtain ⟨hS, k0, k1, hv⟩ := hx
    obtain ⟨w, ew⟩ : ∃ w, w = (if a = -1 then -1 else 6 * a + v - 1) := ⟨_, rfl⟩
    have hw : w = -1 ∨ exv A w := by
      rw [ew]
      split
      · exact Or.inl rfl
      · next z => exact Or.inr (exv_of V (hv z)).1
    rw [← ew]
    have e : ∀ g, g ∉ [22, 31] → up (up A 22 s k w) 31 s 0 0 g = A g := fun g hg => by funext i j; rw [up_f (fun q => hg (by rw [q]; decide)), up_f (fun q => hg (by rw [q]; decide))]
    refine ⟨V.of (fun g hg => e g (nin hg (by decide))), D.of (fun g hg => e g (nin hg (by decide))), S.num (by omega) (fun g hg => e g (fun q => hg (by revert q; simp only [List.mem_cons, List.not_mem_nil, or_false]; omega))) (fun t i t0 t1 i0 i1 => ?_) (fun t t0 t1 => ⟨Or.inl (by rw [e 27 (by decide)]), Or.inl (by rw [e 28 (by decide)]), Or.inl (by rw [e 29 (by decide)]), Or.inl (by rw [e 30 (by decide)]), ?_⟩), F.of (fun g hg => e g (nin hg (by decide))), M.of (fun g hg => e g (nin hg (by decide))), N.of (fun g hg => e g (nin hg (by decide))), C.of (fun g hg => e g (nin hg (by decide))), G.of2 (fun g hg => e g (nin hg (by decide))), IvE.of E (e 32 (by decide)) (e 34 (by decide)), IvK.of K (e 23 (by decide)) (e 24 (by decide))⟩
    · rw [up_f (by decide), up_at]
      by_cases z : t = s ∧ i = k
      · rw [if_pos z]; exact Or.inr ⟨by rw [z.1]; exact hS.2, hw⟩
      · rw [if_neg z]; exact Or.inl rfl
    · rw [ups]
      by_cases z : t = s
      · rw [if_pos z]; exact Or.inr ⟨by rw [z]; exact hS.2, Or.inl rfl⟩
      · rw [if_neg z, up_f (by decide)]; exact Or.inl rfl
  · exact I
theorem inv_setLook {c s k z : Int} {A : AS} (I : Inv c A) : Inv c (nx_setLook A s k z) := by
  unfold nx_setLook
  split
  · next h =>
    obtain ⟨V, D, S, F, M, N, C, G, E, K⟩ := I
    have hx : isS A s ∧ 0 ≤ k ∧ k ≤ 2 ∧ 1 ≤ z ∧ z ≤ 4 := by
      unfold th_setLook at h
      by_cases y : isS A s
      · rw [if_neg (fun q => q y)] at h
        by_cases x : 0 ≤ k ∧ k ≤ 2 ∧ 1 ≤ z ∧ z ≤ 4
        · exact ⟨y, x⟩
        · rw [if_pos x] at h; omega
      · rw [if_pos y] at h; omega
    obtain ⟨hS, x1, x2, x3, x4⟩ := hx
    have e : ∀ g, g ∉ [27, 28, 31] → up (up (up A 27 s 0 k) 28 s 0 z) 31 s 0 0 g = A g := fun g hg => by funext i j; rw [up_f (fun q => hg (by rw [q]; decide)), up_f (fun q => hg (by rw [q]; decide)), up_f (fun q => hg (by rw [q]; decide))]
    refine ⟨V.of (fun g hg => e g (nin hg (by decide))), D.of (fun g hg => e g (nin hg (by decide))), S.num (by omega) (fun g hg => e g (fun q => hg (by revert q; simp only [List.mem_cons, List.not_mem_nil, or_false]; omega))) (fun t i t0 t1 i0 i1 => Or.inl (by rw [e 22 (by decide)])) (fun t t0 t1 => ⟨?_, ?_, Or.inl (by rw [e 29 (by decide)]), Or.inl (by rw [e 30 (by decide)]), ?_⟩), F.of (fun g hg => e g (nin hg (by decide))), M.of (fun g hg => e g (nin hg (by decide))), N.of (fun g hg => e g (nin hg (by decide))), C.of (fun g hg => e g (nin hg (by decide))), G.of2 (fun g hg => e g (nin hg (by decide))), IvE.of E (e 32 (by decide)) (e 34 (by decide)), IvK.of K (e 23 (by decide)) (e 24 (by decide))⟩
    · rw [up_f (by decide), up_f (by decide), ups]
      by_cases y : t = s
      · rw [if_pos y]; exact Or.inr ⟨by rw [y]; exact hS.2, x1, x2⟩
      · rw [if_neg y]; exact Or.inl rfl
    · rw [up_f (by decide), ups]
      by_cases y : t = s
      · rw [if_pos y]; exact Or.inr ⟨by rw [y]; exact hS.2, x3, x4⟩
      · rw [if_neg y, up_f (by decide)]; exact Or.inl rfl
    · rw [ups]
      by_cases y : t = s
      · rw [if_pos y]; exact Or.inr ⟨by rw [y]; exact hS.2, Or.inl rfl⟩
      · rw [if_neg y, up_f (by decide), up_f (by decide)]; exact Or.inl rfl
  · exact I
theorem inv_approveShot {c s : Int} {A : AS} (I : Inv c A) : Inv c (nx_approveShot A s) := by
  unfold nx_approveShot
  by_cases h : th_approveShot A s = 0
  · rw [cif_pos h]
    obtain ⟨V, D, S, F, M, N, C, G, E, K⟩ := I
    have hS : isS A s := by
      unfold th_approveShot at h
      by_cases z : isS A s
      · exact z
      · rw [if_pos z] at h; omega
    have e : ∀ g, g ∉ [31] → up A 31 s 0 1 g = A g := fun g hg => by funext i j; exact up_f (fun q => hg (by rw [q]; decide))
    refine ⟨V.of (fun g hg => e g (nin hg (by decide))), D.of (fun g hg => e g (nin hg (by decide))), S.num (by omega) (fun g hg => e g (fun q => hg (by revert q; simp only [List.mem_cons, List.not_mem_nil, or_false]; omega))) (fun t i t0 t1 i0 i1 => Or.inl (by rw [e 22 (by decide)])) (fun t t0 t1 => ⟨Or.inl (by rw [e 27 (by decide)]), Or.inl (by rw [e 28 (by decide)]), Or.inl (by rw [e 29 (by decide)]), Or.inl (by rw [e 30 (by decide)]), ?_⟩), F.of (fun g hg => e g (nin hg (by decide))), M.of (fun g hg => e g (nin hg (by decide))), N.of (fun g hg => e g (nin hg (by decide))), C.of (fun g hg => e g (nin hg (by decide))), G.of2 (fun g hg => e g (nin hg (by decide))), IvE.of E (e 32 (by decide)) (e 34 (by decide)), IvK.of K (e 23 (by decide)) (e 24 (by decide))⟩
    rw [ups]
    by_cases y : t = s
    · rw [if_pos y]; exact Or.inr ⟨by rw [y]; exact hS.2, Or.inr rfl⟩
    · rw [if_neg y]; exact Or.inl rfl
  · rw [cif_neg h]; exact I
theorem inv_work {c s b m : Int} {A : AS} (I : Inv c A) : Inv (c + 1) (nx_work A s b m) := by
  unfold nx_work
  split
  · next h =>
    have I' := I.mono (show c ≤ c + 1 by omega)
    have S0 := I.2.2.1
    obtain ⟨V, D, S, F, M, N, C, G, E, K⟩ := I'
    have hx : isS A s ∧ 0 ≤ b ∧ b ≤ 999 ∧ 0 ≤ m ∧ m ≤ 99 := by
      unfold th_work at h
      by_cases y : isS A s
      · rw [if_neg (fun q => q y)] at h
        by_cases x : 0 ≤ b ∧ b ≤ 999 ∧ 0 ≤ m ∧ m ≤ 99
        · exact ⟨y, x⟩
        · rw [if_pos x] at h; omega
      · rw [if_pos y] at h; omega
    obtain ⟨hS, x1, x2, x3, x4⟩ := hx
    have b30 := (S0.2.2.1 s hS.1 (by have := hS.2; have := S0.2.1; omega))
    have b301 := b30.2.2.2.2.2.2.2.2.2.2.2.2.1
    have b302 := b30.2.2.2.2.2.2.2.2.2.2.2.2.2.1
    have e : ∀ g, g ∉ [29, 30] → up (up A 29 s 0 b) 30 s 0 (A 30 s 0 + m) g = A g := fun g hg => by funext i j; rw [up_f (fun q => hg (by rw [q]; decide)), up_f (fun q => hg (by rw [q]; decide))]
    refine ⟨V.of (fun g hg => e g (nin hg (by decide))), D.of (fun g hg => e g (nin hg (by decide))), S.num (by omega) (fun g hg => e g (fun q => hg (by revert q; simp only [List.mem_cons, List.not_mem_nil, or_false]; omega))) (fun t i t0 t1 i0 i1 => Or.inl (by rw [e 22 (by decide)])) (fun t t0 t1 => ⟨Or.inl (by rw [e 27 (by decide)]), Or.inl (by rw [e 28 (by decide)]), ?_, ?_, Or.inl (by rw [e 31 (by decide)])⟩), F.of (fun g hg => e g (nin hg (by decide))), M.of (fun g hg => e g (nin hg (by decide))), N.of (fun g hg => e g (nin hg (by decide))), C.of (fun g hg => e g (nin hg (by decide))), G.of2 (fun g hg => e g (nin hg (by decide))), IvE.of E (e 32 (by decide)) (e 34 (by decide)), IvK.of K (e 23 (by decide)) (e 24 (by decide))⟩
    · rw [up_f (by decide), ups]
      by_cases y : t = s
      · rw [if_pos y]; exact Or.inr ⟨by rw [y]; exact hS.2, x1, x2⟩
      · rw [if_neg y]; exact Or.inl rfl
    · rw [ups]
      by_cases y : t = s
      · rw [if_pos y]; exact Or.inr ⟨by rw [y]; exact hS.2, by omega, by omega⟩
      · rw [if_neg y, up_f (by decide)]; exact Or.inl rfl
  · exact I.mono (by omega)
theorem inv_setDisk {c x : Int} {A : AS} (I : Inv c A) : Inv c (nx_setDisk A x) := by
  unfold nx_setDisk
  split
  · next h =>
    obtain ⟨V, D, S, F, M, N, C, G, E, K⟩ := I
    have hx : 0 ≤ x ∧ x ≤ 999 := by
      by_cases z : 0 ≤ x ∧ x ≤ 999
      · exact z
      · unfold th_setDisk at h; rw [if_neg z] at h; omega
    have e : ∀ g, g ∉ [35] → up A 35 0 0 x g = A g := fun g hg => by funext i j; exact up_f (fun q => hg (by rw [q]; decide))
    refine ⟨V.of (fun g hg => e g (nin hg (by decide))), D.of (fun g hg => e g (nin hg (by decide))), S.of (fun g hg => e g (nin hg (by decide))), F.of (fun g hg => e g (nin hg (by decide))), ?_, N.of (fun g hg => e g (nin hg (by decide))), C.of (fun g hg => e g (nin hg (by decide))), G.of2 (fun g hg => e g (nin hg (by decide))), IvE.of E (e 32 (by decide)) (e 34 (by decide)), IvK.of K (e 23 (by decide)) (e 24 (by decide))⟩
    unfold IvM actv at *
    rw [e 17 (by decide), e 18 (by decide), e 36 (by decide), e 37 (by decide), e 38 (by decide), e 39 (by decide), e 40 (by decide), e 41 (by decide), e 42 (by decide), e 43 (by decide), e 44 (by decide), e 45 (by decide), e 46 (by decide), up_s]
    exact ⟨M.1, M.2.1, hx.1, hx.2, M.2.2.2.2⟩
  · exact I
theorem inv_addMachine {c f w : Int} {A : AS} (I : Inv c A) : Inv c (nx_addMachine A f w) := by
  unfold nx_addMachine
  split
  · next h =>
    obtain ⟨V, D, S, F, M, N, C, G, E, K⟩ := I
    have hx : (1 ≤ f ∧ f ≤ 3 ∧ 0 ≤ w ∧ w ≤ 6) ∧ A 36 0 0 ≠ 4 := by
      unfold th_addMachine at h
      by_cases z : 1 ≤ f ∧ f ≤ 3 ∧ 0 ≤ w ∧ w ≤ 6
      · rw [if_neg (fun q => q z)] at h
        exact ⟨z, fun q => by rw [if_pos q] at h; omega⟩
      · rw [if_pos z] at h; omega
    obtain ⟨hx, h4⟩ := hx
    obtain ⟨B, hB⟩ : ∃ B, B = up (up (up A 37 (A 36 0 0) 0 f) 38 (A 36 0 0) 0 w) 36 0 0 (A 36 0 0 + 1) := ⟨_, rfl⟩
    have e : ∀ g, g ∉ [36, 37, 38] → B g = A g := fun g hg => by rw [hB]; funext i j; rw [up_f (fun q => hg (by rw [q]; decide)), up_f (fun q => hg (by rw [q]; decide)), up_f (fun q => hg (by rw [q]; decide))]
    have b36 : B 36 0 0 = A 36 0 0 + 1 := by rw [hB, up_s]
    have b37 : ∀ i, B 37 i 0 = if i = A 36 0 0 then f else A 37 i 0 := fun i => by rw [hB, up_f (by decide), up_f (by decide), ups]
    have b38 : ∀ i, B 38 i 0 = if i = A 36 0 0 then w else A 38 i 0 := fun i => by rw [hB, up_f (by decide), ups, up_f (by decide)]
    rw [← hB]
    clear hB
    refine ⟨V.of (fun g hg => e g (nin hg (by decide))), D.of (fun g hg => e g (nin hg (by decide))), S.of (fun g hg => e g (nin hg (by decide))), F.of (fun g hg => e g (nin hg (by decide))), ?_, N.of (fun g hg => e g (nin hg (by decide))), C.of (fun g hg => e g (nin hg (by decide))), G.of2 (fun g hg => e g (nin hg (by decide))), IvE.of E (e 32 (by decide)) (e 34 (by decide)), IvK.of K (e 23 (by decide)) (e 24 (by decide))⟩
    obtain ⟨a1, a2, a3, a4, a5, a6, a7, a8, a9, a10, a11, a12⟩ := M
    unfold IvM actv at *
    rw [e 17 (by decide), e 18 (by decide), e 35 (by decide), e 39 (by decide), e 40 (by decide), e 41 (by decide), e 42 (by decide), e 43 (by decide), e 44 (by decide), e 45 (by decide), e 46 (by decide), b36]
    refine ⟨by omega, by omega, a3, a4, a5, a6, a7, a8, a9, fun m m0 m1 => ?_, fun m m0 m1 => a11 m (by omega) m1, a12⟩
    rw [b37, b38]
    by_cases z : m = A 36 0 0
    · rw [if_pos z, if_pos z]; exact hx
    · rw [if_neg z, if_neg z]; exact a10 m m0 (by omega)
  · exact I
theorem inv_note {c s p w : Int} {A : AS} (I : Inv c A) : Inv c (nx_note A s p w) := by
  unfold nx_note
  split
  · next h =>
    obtain ⟨V, D, S, F, M, N, C, G, E, K⟩ := I
    have hx : isP A s p ∧ (0 ≤ w ∧ w ≤ 2) ∧ A 47 0 0 ≠ 30 := by
      unfold th_note at h
      by_cases y : isP A s p
      · rw [if_neg (fun q => q y)] at h
        by_cases x : 0 ≤ w ∧ w ≤ 2
        · rw [if_neg (fun q => q x)] at h
          exact ⟨y, x, fun q => by rw [if_pos q] at h; omega⟩
        · rw [if_pos x] at h; omega
      · rw [if_pos y] at h; omega
    obtain ⟨hP, hw, h30⟩ := hx
    have ac := actv_of S hP
    obtain ⟨B, hB⟩ : ∃ B, B = up (up (up (up A 48 (A 47 0 0) 0 (A 18 s p)) 49 (A 47 0 0) 0 w) 50 (A 47 0 0) 0 1) 47 0 0 (A 47 0 0 + 1) := ⟨_, rfl⟩
    have e : ∀ g, g ∉ [47, 48, 49, 50] → B g = A g := fun g hg => by rw [hB]; funext i j; rw [up_f (fun q => hg (by rw [q]; decide)), up_f (fun q => hg (by rw [q]; decide)), up_f (fun q => hg (by rw [q]; decide)), up_f (fun q => hg (by rw [q]; decide))]
    have b47 : B 47 0 0 = A 47 0 0 + 1 := by rw [hB, up_s]
    have b48 : ∀ i, B 48 i 0 = if i = A 47 0 0 then A 18 s p else A 48 i 0 := fun i => by rw [hB, up_f (by decide), up_f (by decide), up_f (by decide), ups]
    have b49 : ∀ i, B 49 i 0 = if i = A 47 0 0 then w else A 49 i 0 := fun i => by rw [hB, up_f (by decide), up_f (by decide), ups, up_f (by decide)]
    have b50 : ∀ i, B 50 i 0 = if i = A 47 0 0 then 1 else A 50 i 0 := fun i => by rw [hB, up_f (by decide), ups, up_f (by decide), up_f (by decide)]
    rw [← hB]
    clear hB
    refine ⟨V.of (fun g hg => e g (nin hg (by decide))), D.of (fun g hg => e g (nin hg (by decide))), S.of (fun g hg => e g (nin hg (by decide))), F.of (fun g hg => e g (nin hg (by decide))), M.of (fun g hg => e g (nin hg (by decide))), ?_, C.of (fun g hg => e g (nin hg (by decide))), G.of2 (fun g hg => e g (nin hg (by decide))), IvE.of E (e 32 (by decide)) (e 34 (by decide)), IvK.of K (e 23 (by decide)) (e 24 (by decide))⟩
    obtain ⟨n1, n2, n3, n4⟩ := N
    unfold IvN
    have ea : ∀ f, actv B f ↔ actv A f := fun f => by unfold actv; rw [e 17 (by decide), e 18 (by decide)]
    rw [e 51 (by decide), e 52 (by decide), b47]
    refine ⟨by omega, by omega, fun k k0 k1 => ?_, n4⟩
    rw [b48, b49, b50, ea]
    by_cases z : k = A 47 0 0
    · rw [if_pos z, if_pos z, if_pos z]
      exact ⟨hw.1, hw.2, Or.inr rfl, Or.inr ac.1, fun _ => by have := ac.2.2.1; omega⟩
    · rw [if_neg z, if_neg z, if_neg z]; exact n3 k k0 (by omega)
  · exact I
theorem inv_close {c n : Int} {A : AS} (I : Inv c A) : Inv c (nx_close A n) := by
  unfold nx_close
  split
  · next h =>
    obtain ⟨V, D, S, F, M, N, C, G, E, K⟩ := I
    have e : ∀ g, g ∉ [50] → up A 50 n 0 0 g = A g := fun g hg => by funext i j; exact up_f (fun q => hg (by rw [q]; decide))
    refine ⟨V.of (fun g hg => e g (nin hg (by decide))), D.of (fun g hg => e g (nin hg (by decide))), S.of (fun g hg => e g (nin hg (by decide))), F.of (fun g hg => e g (nin hg (by decide))), M.of (fun g hg => e g (nin hg (by decide))), ?_, C.of (fun g hg => e g (nin hg (by decide))), G.of2 (fun g hg => e g (nin hg (by decide))), IvE.of E (e 32 (by decide)) (e 34 (by decide)), IvK.of K (e 23 (by decide)) (e 24 (by decide))⟩
    obtain ⟨n1, n2, n3, n4⟩ := N
    have ea : ∀ f, actv (up A 50 n 0 0) f ↔ actv A f := fun f => by unfold actv; rw [e 17 (by decide), e 18 (by decide)]
    unfold IvN
    rw [e 47 (by decide), e 48 (by decide), e 49 (by decide), e 51 (by decide), e 52 (by decide)]
    refine ⟨n1, n2, fun k k0 k1 => ?_, n4⟩
    obtain ⟨x1, x2, x3, x4, x5⟩ := n3 k k0 k1
    rw [ups, ea]
    by_cases z : k = n
    · rw [if_pos z]; exact ⟨x1, x2, Or.inl rfl, x4, fun q => by omega⟩
    · rw [if_neg z]; exact ⟨x1, x2, x3, x4, x5⟩
  · exact I
theorem inv_deliver {c s k : Int} {A : AS} (I : Inv c A) : Inv c (nx_deliver A s k) := by
  unfold nx_deliver
  split
  · next h =>
    obtain ⟨V, D, S, F, M, N, C, G, E, K⟩ := I
    have hx : isS A s ∧ A 51 0 0 ≠ 20 := by
      have h := h.1
      unfold th_deliver at h
      by_cases y : isS A s
      · rw [if_neg (fun q => q y)] at h
        refine ⟨y, fun q => ?_⟩
        by_cases x : 0 ≤ k ∧ k ≤ 2
        · rw [if_neg (fun q => q x), if_pos q] at h; omega
        · rw [if_pos x] at h; omega
      · rw [if_pos y] at h; omega
    obtain ⟨hS, h20⟩ := hx
    have b17 := (S.2.2.1 s hS.1 (by have := hS.2; have := S.2.1; omega)).2.1
    have b17' := (S.2.2.2.1 s hS.1 hS.2).1
    have e : ∀ g, g ∉ [51, 52, 53] → dv2 A s g = A g := fun g hg => by
      funext i j; unfold dv2; rw [up_f (fun q => hg (by rw [q]; decide)), dv1_f (fun q => hg (by rw [q]; decide)) (fun q => hg (by rw [q]; decide))]
    have b51 : dv2 A s 51 0 0 = A 51 0 0 + 1 := by unfold dv2; rw [up_s]
    have b52 : ∀ i, dv2 A s 52 i 0 = if i = A 51 0 0 then A 17 s 0 else A 52 i 0 := fun i => by
      unfold dv2 dv1; rw [up_f (by decide), upr_f (by decide), ups]
    refine ⟨V.of (fun g hg => e g (nin hg (by decide))), D.of (fun g hg => e g (nin hg (by decide))), S.of (fun g hg => e g (nin hg (by decide))), F.of (fun g hg => e g (nin hg (by decide))), M.of (fun g hg => e g (nin hg (by decide))), ?_, C.of (fun g hg => e g (nin hg (by decide))), G.of2 (fun g hg => e g (nin hg (by decide))), IvE.of E (e 32 (by decide)) (e 34 (by decide)), IvK.of K (e 23 (by decide)) (e 24 (by decide))⟩
    obtain ⟨n1, n2, n3, n4, n5, n6⟩ := N
    unfold IvN actv at *
    rw [e 17 (by decide), e 18 (by decide), e 47 (by decide), e 48 (by decide), e 49 (by decide), e 50 (by decide), b51]
    refine ⟨n1, n2, n3, by omega, by omega, fun d d0 d1 => ?_⟩
    rw [b52]
    by_cases z : d = A 51 0 0
    · rw [if_pos z]; exact ⟨b17', b17⟩
    · rw [if_neg z]; exact n6 d d0 (by omega)
  · exact I
theorem inv_dropImages {c s : Int} {A : AS} (I : Inv c A) : Inv c (nx_dropImages A s) := by
  unfold nx_dropImages
  split
  · obtain ⟨V, D, S, F, M, N, C, G, E, K⟩ := I
    obtain ⟨n, hn⟩ : ∃ n, n = (A 17 s 0).toNat := ⟨_, rfl⟩
    rw [← hn]
    have e : ∀ g, g ∉ [32] → dpn A s n g = A g := fun g hg => dpn_f (fun q => hg (by rw [q]; decide)) n
    have e32 : ∀ f, dpn A s n 32 f 0 = A 32 f 0 ∨ dpn A s n 32 f 0 = -1 := fun f => by
      clear hn e
      induction n with
      | zero => exact Or.inl rfl
      | succ n ih =>
        rw [dpn, ups]
        split
        · exact Or.inr rfl
        · exact ih
    refine ⟨V.of (fun g hg => e g (nin hg (by decide))), D.of (fun g hg => e g (nin hg (by decide))), S.of (fun g hg => e g (nin hg (by decide))), dpn_F F s n, M.of (fun g hg => e g (nin hg (by decide))), N.of (fun g hg => e g (nin hg (by decide))), C.of (fun g hg => e g (nin hg (by decide))), G.of2 (fun g hg => e g (nin hg (by decide))), ?_, IvK.of K (e 23 (by decide)) (e 24 (by decide))⟩
    intro f f0 f1 h
    rw [e 34 (by decide)]
    rcases e32 f with z | z
    · exact E f f0 f1 (by rw [← z]; exact h)
    · exact absurd z h
  · exact I
theorem inv_render {c s : Int} {A : AS} (I : Inv c A) : Inv c (nx_render A s) := by
  unfold nx_render
  split
  · next h =>
    have hS : isS A s := by
      unfold th_shot at h
      by_cases z : isS A s
      · exact z
      · rw [if_neg z] at h; omega
    obtain ⟨V, D, S, F, M, N, C, G, E, K⟩ := I
    have b17 := (S.2.2.1 s hS.1 (by have := hS.2; have := S.2.1; omega)).1
    have e : ∀ g, g ∉ [42, 43, 44] → rnn A s (A 17 s 0).toNat g = A g := fun g hg => rnn_f (fun q => hg (by rw [q]; decide)) (fun q => hg (by rw [q]; decide)) (fun q => hg (by rw [q]; decide)) _
    exact ⟨V.of (fun g hg => e g (nin hg (by decide))), D.of (fun g hg => e g (nin hg (by decide))), S.of (fun g hg => e g (nin hg (by decide))), rnn_F F s _, rnn_M S M hS _ (by omega), N.of (fun g hg => e g (nin hg (by decide))), C.of (fun g hg => e g (nin hg (by decide))), G.of2 (fun g hg => e g (nin hg (by decide))), IvE.of E (e 32 (by decide)) (e 34 (by decide)), IvK.of K (e 23 (by decide)) (e 24 (by decide))⟩
  · exact I
