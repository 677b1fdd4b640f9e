theorem tsto_E {c k : Int} {A : AS} (T : Tv c k A) {m : Int} (m0 : 0 ≤ m) (m1 : m < A 36 0 0) (hm : A 39 m 0 ≠ -1) (E : IvE A) : IvE (tsto A m) := by
  obtain ⟨hP, hp18⟩ := plc_at T m0 m1 hm
  obtain ⟨V, I, F, J, oc, -⟩ := T
  have hC := ims_cst (q := 1) V I hP oc 4 (by omega)
  obtain ⟨f, ef⟩ : ∃ f, f = A 39 m 0 := ⟨_, rfl⟩
  rw [← ef] at hP hp18 hC
  intro g g0 g1 w
  have e34 : ∀ j, tsto A m 34 g j = if g = f then (if 0 ≤ j ∧ j < 22 then nowv A (f / 16) (plc A f) j else A 34 f j) else A 34 g j := fun j => by
    unfold tsto
    rw [up_f (by decide), up_f (by decide), up_f (by decide), ← ef]
    unfold tst1
    rw [upr_at]
    by_cases z : g = f
    · rw [if_pos z, if_pos z]
    · rw [if_neg z, if_neg z]
      exact congrFun (congrFun (hC.1 34 (by decide) (by decide) (by decide) (by decide)) g) j
  have e32 : tsto A m 32 g 0 = if g = f then imv A (f / 16) (plc A f) else A 32 g 0 := by
    unfold tsto
    rw [up_f (by decide), up_f (by decide), ← ef, ups]
    by_cases z : g = f
    · rw [if_pos z, if_pos z]
    · rw [if_neg z, if_neg z]
      unfold tst1
      rw [upr_f (by decide)]
      exact congrFun (congrFun (hC.1 32 (by decide) (by decide) (by decide) (by decide)) g) 0
  intro i i0 i1 q l l0 l1
  rw [e34] at q ⊢
  rw [e32] at w
  by_cases z : g = f
  · rw [if_pos z, if_pos ⟨i0, by omega⟩, nowv_pin i1] at q
    rw [if_pos z, if_pos ⟨by omega, by omega⟩, nowv_ch i0 i1 l0 l1, if_pos q]
  · rw [if_neg z] at q w ⊢
    exact E g g0 g1 w i i0 i1 q l l0 l1
theorem tstep_E {c k : Int} {A : AS} (T : Tv c k A) (hk : 0 ≤ k ∧ k < 120) {m : Int} (m0 : 0 ≤ m) (m1 : m < A 36 0 0) (E : IvE A) : IvE (tstep A m) := by
  unfold tstep
  by_cases hm : A 39 m 0 = -1
  · rw [if_pos hm]; exact E
  · rw [if_neg hm]
    have ED : IvE (tdec A m) := IvE.of E (tdec_f (by decide)) (tdec_f (by decide))
    by_cases h40 : tdec A m 40 m 0 ≠ 0
    · rw [if_pos h40]; exact ED
    · rw [if_neg h40]
      have TD := tdec_Tv T m0 m1
      have hmD : tdec A m 39 m 0 ≠ -1 := by rw [tdec_f (by decide)]; exact hm
      have m1D : m < tdec A m 36 0 0 := by rw [tdec_f (by decide)]; exact m1
      by_cases hf : A 41 m 0 = 0 ∧ tfl (tdec A m) m
      · rw [cif_pos hf]
        exact IvE.of ED (tfal_f (by decide)) (tfal_f (by decide))
      · rw [cif_neg hf]
        have ET : IvE (ttr2 (tdec A m) m) := IvE.of ED (ttr2_f (by decide) (by decide)) (ttr2_f (by decide) (by decide))
        have TT := ttr2_Tv TD m0 m1D hmD
        by_cases hr : roomy (ttr2 (tdec A m) m) m
        · rw [cif_pos hr]
          exact tsto_E TT m0 (by rw [ttr2_f (by decide) (by decide)]; exact m1D) (by rw [ttr2_f (by decide) (by decide)]; exact hmD) ET
        · rw [cif_neg hr]; exact ET
theorem tk1_E {c k : Int} {A : AS} (T : Tv c k A) (k0 : 0 ≤ k) (E : IvE A) : ∀ n : Nat, (n : Int) ≤ A 36 0 0 → k + n ≤ 120 → IvE (tk1 A n)
  | 0, _, _ => E
  | n + 1, hn, hk => by
    obtain ⟨TB, eB⟩ := tk1_Tv T k0 n (by omega) (by omega)
    rw [tk1]
    exact tstep_E TB (by omega) (by omega) (by rw [eB 36 (by decide)]; omega) (tk1_E T k0 E n (by omega) (by omega))
theorem tick1_E {c k : Int} {A : AS} (T : Tv c k A) (k0 : 0 ≤ k) (hk : k + 4 ≤ 120) (E : IvE A) : IvE (tick1 A) := by
  have b36 := T.2.2.2.1.2.1
  have b360 := T.2.2.2.1.1
  have h1 := tk1_E T k0 E (A 36 0 0).toNat (by omega) (by omega)
  obtain ⟨TB, eB⟩ := tk1_Tv T k0 (A 36 0 0).toNat (by omega) (by omega)
  have h2 := (tk2_Tv TB (A 36 0 0).toNat (by rw [eB 36 (by decide)]; omega)).2
  unfold tick1
  exact IvE.of h1 (h2 32 (by decide)) (h2 34 (by decide))
theorem tckn_E {c : Int} {A : AS} (T : Tv c 0 A) (E : IvE A) : ∀ n : Nat, n ≤ 30 → IvE (tckn A n)
  | 0, _ => E
  | n + 1, hn => by
    obtain ⟨TB, eB⟩ := tckn_Tv T n (by omega)
    rw [tckn]
    exact tick1_E TB (by omega) (by omega) (tckn_E T E n (by omega))
theorem Inv.Tv {c : Int} {A : AS} (I : Inv c A) : Tv c 0 A := by
  have M' := I.2.2.2.2.1
  obtain ⟨V, D, S, F, M, N, C, G, E, K⟩ := I
  exact ⟨V, S, F, M.mono (by omega), C.1, by have := M'.2.2.2.2.2.1; omega, by have := M'.2.2.2.2.2.2.2.1; omega, C.2.1, by have := C.2.2.1; omega, C.2.2.2.1, by have := C.2.2.2.2; omega⟩
theorem inv_tick {c x : Int} {A : AS} (I : Inv c A) : Inv (c + 1) (nx_tick A x) := by
  unfold nx_tick
  split
  · next h =>
    have hx : 1 ≤ x ∧ x ≤ 30 := by
      unfold th_tick at h
      by_cases z : 1 ≤ x ∧ x ≤ 30
      · exact z
      · rw [if_neg z] at h; omega
    have T := I.Tv
    obtain ⟨V, D, S, F, M, N, C, G, E, K⟩ := I
    obtain ⟨TB, e⟩ := tckn_Tv T x.toNat (by omega)
    have EB := tckn_E T E x.toNat (by omega)
    obtain ⟨V', S', F', M', o', t1, t2, t3, t4, t5, t6⟩ := TB
    exact ⟨V', D.of (fun g hg => e g (nin hg (by decide))), S'.mono (by omega), F', M', N.of (fun g hg => e g (nin hg (by decide))), ⟨o', t3, by omega, t5, by omega⟩, G.of2 (fun g hg => e g (nin hg (by decide))), EB, IvK.of K (e 23 (by decide)) (e 24 (by decide))⟩
  · exact I.mono (by omega)
theorem inv_addAsset {c : Int} {A : AS} (I : Inv c A) : Inv c (nx_addAsset A) := by
  unfold nx_addAsset
  split
  · next h =>
    obtain ⟨V, D, S, F, M, N, C, G, E, K⟩ := I
    have h10 : A 1 0 0 ≠ 10 := fun q => by unfold th_addAsset at h; rw [if_pos q] at h; omega
    obtain ⟨B, hB⟩ : ∃ B, B = up A 1 0 0 (A 1 0 0 + 1) := ⟨_, rfl⟩
    have e : ∀ g, g ∉ [1] → B g = A g := fun g hg => by rw [hB]; funext i j; exact up_f (fun q => hg (by rw [q]; decide))
    have b1 : B 1 0 0 = A 1 0 0 + 1 := by rw [hB, up_s]
    rw [← hB]
    clear hB
    have v1 := V.1
    have v2 := V.2.1
    have v4 := V.2.2.2.1
    have ex : ∀ v, exv B v ↔ exv A v := fun v => by
      unfold exv
      rw [e 2 (by decide), b1]
      refine ⟨fun ⟨q1, q2, q3⟩ => ⟨q1, ?_, q3⟩, fun ⟨q1, q2, q3⟩ => ⟨q1, by omega, q3⟩⟩
      by_cases z : v / 6 = A 1 0 0
      · have := v4 (v / 6) (by omega) (by omega); omega
      · omega
    have ea : ∀ f, actv B f ↔ actv A f := fun f => by unfold actv; rw [e 17 (by decide), e 18 (by decide)]
    have V' : IvV B := by
      obtain ⟨i1, i2, i3, i4, i5, i6, i7, i8, i9, i10⟩ := V
      unfold IvV
      simp only [ex]
      rw [e 2 (by decide), e 3 (by decide), e 4 (by decide), e 5 (by decide), e 6 (by decide), e 7 (by decide), e 8 (by decide), e 9 (by decide), e 10 (by decide), b1]
      exact ⟨by omega, by omega, i3, fun a a0 a1 => i4 a (by omega) a1, i5, i6, i7, i8, i9, i10⟩
    have D' : IvD B := by
      unfold IvD
      simp only [ex]
      rw [e 8 (by decide), e 11 (by decide), e 12 (by decide), e 13 (by decide), e 14 (by decide), e 15 (by decide)]
      exact D
    have S' : IvS c B := by
      unfold IvS
      simp only [ex, ea]
      rw [e 16 (by decide), e 17 (by decide), e 18 (by decide), e 20 (by decide), e 21 (by decide), e 22 (by decide), e 23 (by decide), e 24 (by decide), e 25 (by decide), e 27 (by decide), e 28 (by decide), e 29 (by decide), e 30 (by decide), e 31 (by decide)]
      exact S
    have F' : IvF B := by
      unfold IvF
      simp only [ex, ea]
      rw [e 32 (by decide), e 33 (by decide), e 34 (by decide), e 44 (by decide)]
      exact F
    have C' : IvC c B := by
      obtain ⟨o, b⟩ := C
      refine ⟨?_, by rw [e 57 (by decide), e 58 (by decide)]; exact b⟩
      unfold CcOk at *
      simp only [ex, vl_of (e 3 (by decide)) (e 4 (by decide)) (e 5 (by decide)) (e 6 (by decide)) (e 7 (by decide))]
      rw [e 54 (by decide), e 56 (by decide)]
      exact o
    have G' : IvG B := by
      unfold IvG
      simp only [ex]
      rw [e 6 (by decide), e 7 (by decide), e 17 (by decide), e 18 (by decide), e 100 (by decide), e 101 (by decide), e 102 (by decide), e 103 (by decide), e 105 (by decide)]
      exact G
    exact ⟨V', D', S', F', M.of (fun g hg => e g (nin hg (by decide))), N.of (fun g hg => e g (nin hg (by decide))), C', G', IvE.of E (e 32 (by decide)) (e 34 (by decide)), IvK.of K (e 23 (by decide)) (e 24 (by decide))⟩
  · exact I
-- publishing
theorem pub_room {A : AS} (V : IvV A) (G : IvG A) {a : Int} (ha : isA A a) (h6 : A 2 a 0 < 6) : A 102 0 0 < 60 := by
  obtain ⟨g1, g2, g3, g4, -⟩ := G
  have a0 := ha.1
  have a1 := ha.2
  have va := V.2.1
  have v2 := V.2.2.1 a a0 (by omega)
  have hne : ¬ exv A (6 * a + A 2 a 0) := fun q => by
    have q2 := q.2.2
    rw [show (6 * a + A 2 a 0) / 6 = a by omega] at q2
    omega
  have := inj_fn 0 60 (A 102 0 0 + 1).toNat (fun i => if (i : Int) < A 102 0 0 then A 101 i 0 else 6 * a + A 2 a 0) (fun i hi => by
    split
    · next z => have := exv_rng V (g4 i (by omega) z).1; omega
    · omega) (fun i j hij hj => by
    by_cases y : (j : Int) < A 102 0 0
    · rw [if_pos (by omega), if_pos y]
      intro q
      have h1 := (g4 i (by omega) (by omega)).2
      have h2 := (g4 j (by omega) y).2
      rw [q] at h1; omega
    · rw [if_pos (by omega), if_neg y]
      intro q
      exact hne (q ▸ (g4 i (by omega) (by omega)).1))
  omega
theorem pub_G {A : AS} (V : IvV A) (G : IvG A) {a x : Int} (h6 : isA A a → A 2 a 0 < 6 → True) (hne : ¬ exv A (6 * a + A 2 a 0)) : IvG (up A 100 (6 * a + A 2 a 0) 0 x) := by
  obtain ⟨g1, g2, g3, g4, g5, g6, g7, g8⟩ := G
  have e : ∀ g, g ≠ 100 → up A 100 (6 * a + A 2 a 0) 0 x g = A g := fun g hg => by funext i j; exact up_f hg
  have e100 : ∀ v, exv A v → up A 100 (6 * a + A 2 a 0) 0 x 100 v 0 = A 100 v 0 := fun v hv => by rw [ups, if_neg (fun (q : v = 6 * a + A 2 a 0) => hne (q ▸ hv))]
  have ex : ∀ v, exv (up A 100 (6 * a + A 2 a 0) 0 x) v ↔ exv A v := fun v => by unfold exv; rw [e 1 (by decide), e 2 (by decide)]
  unfold IvG
  simp only [ex]
  rw [e 6 (by decide), e 7 (by decide), e 17 (by decide), e 18 (by decide), e 101 (by decide), e 102 (by decide), e 103 (by decide), e 105 (by decide)]
  refine ⟨g1, g2, fun v hv => by rw [e100 v hv]; exact g3 v hv, fun j j0 j1 => ⟨(g4 j j0 j1).1, by rw [e100 _ (g4 j j0 j1).1]; exact (g4 j j0 j1).2⟩, fun v i hv i0 i1 => ?_, g6, g7, g8⟩
  rw [e100 v hv, e100 _ (V.2.2.2.2.2.2.1 v i hv i0 i1).1]
  exact g5 v i hv i0 i1
theorem mxh_ge {A : AS} : ∀ (n : Nat) (i : Int), 0 ≤ i → i < (n : Int) → A 8 (A 15 i 0) 0 ≤ mxh A n
  | 0, i, i0, i1 => by omega
  | n + 1, i, i0, i1 => by
    rw [mxh]
    rcases (by omega : i < n ∨ i = n) with z | z
    · have := mxh_ge (A := A) n i i0 z; omega
    · rw [z]; omega
theorem cns_at {A B : AS} {v : Int} (e : B 5 v = A 5 v) (r : Int → Int) : ∀ n : Nat, cns B v n r = cns A v n r
  | 0 => rfl
  | n + 1 => by rw [cns, cns, cns_at e r n, e]
theorem vlf_at {A B : AS} (V : IvV A) (e : ∀ g v, g ∈ [3, 4, 6] → exv A v → B g v 0 = A g v 0) (e2 : ∀ g v, g ∈ [5, 7] → exv A v → B g v = A g v) : ∀ (n : Nat) (v : Int) (r : Int → Int), exv A v → vlf B n v r = vlf A n v r
  | 0, _, _, _ => rfl
  | n + 1, v, r, hv => by
    rw [vlf, vlf]
    unfold vsm
    rw [cns_at (e2 5 v (by decide) hv), e 3 v (by decide) hv, e 4 v (by decide) hv, e 6 v (by decide) hv, e2 7 v (by decide) hv]
    have h6 := V.2.2.2.2.2.2.2.1 v hv.1 (exv_rng V hv).2
    congr 2
    refine sm_congr _ (fun i i0 i1 => ?_)
    have hi := (V.2.2.2.2.2.2.1 v i hv i0 (by omega)).1
    simp only [vlf_at V e e2 n _ _ hi]
theorem inv_publish {c a : Int} {A : AS} (I : Inv c A) : Inv c (nx_publish A a) := by
  unfold nx_publish
  by_cases h : th_publish A a = 0
  · rw [cif_pos h]
    obtain ⟨V, D, S, F, M, N, C, G, E, K⟩ := I
    have hx : isA A a ∧ canP A a := by
      unfold th_publish at h
      by_cases y : isA A a
      · rw [if_neg (fun q => q y)] at h
        by_cases w : canP A a
        · exact ⟨y, w⟩
        · rw [cif_neg w] at h; omega
      · rw [if_pos y] at h; omega
    obtain ⟨ha, hc⟩ := hx
    have h6 := hc.1
    have h102 := pub_room V G ha h6
    have a0 := ha.1
    have a1 := ha.2
    have va := V.2.1
    have v2 := V.2.2.1 a a0 (by omega)
    obtain ⟨its, eits⟩ : ∃ its, its = 6 * a + A 2 a 0 := ⟨_, rfl⟩
    have hne : ¬ exv A its := fun q => by
      have q2 := q.2.2
      rw [show its / 6 = a by omega] at q2
      omega
    have hr : 0 ≤ its ∧ its < 60 := by omega
    have d14 := D.2.2.2.2.1
    have d14' := D.2.2.2.2.2.1
    have hmx := mxh_rg V D (A 14 0 0).toNat (by omega)
    obtain ⟨B, hB⟩ : ∃ B, B = pb5 A a := ⟨_, rfl⟩
    have e : ∀ g, g ∉ [2, 3, 4, 5, 6, 7, 8, 11, 12, 14, 100, 101, 102] → B g = A g := fun g hg => by
      have hk : ∀ k, k ∈ [2, 3, 4, 5, 6, 7, 8, 11, 12, 14, 100, 101, 102] → g ≠ k := fun k hk q => hg (q ▸ hk)
      have k2 := hk 2 (by decide)
      have k3 := hk 3 (by decide)
      have k4 := hk 4 (by decide)
      have k5 := hk 5 (by decide)
      have k6 := hk 6 (by decide)
      have k7 := hk 7 (by decide)
      have k8 := hk 8 (by decide)
      have k11 := hk 11 (by decide)
      have k12 := hk 12 (by decide)
      have k14 := hk 14 (by decide)
      have k100 := hk 100 (by decide)
      have k101 := hk 101 (by decide)
      have k102 := hk 102 (by decide)
      rw [hB]
      funext i j
      simp [pb5, pb4, pb3, pb2, pb1, upr, up, k2, k3, k4, k5, k6, k7, k8, k11, k12, k14, k100, k101, k102]
    have eo : ∀ g v j, g ∈ [3, 4, 5, 6, 7, 8] → v ≠ its → B g v j = A g v j := fun g v j hg hv => by
      rw [eits] at hv
      rw [hB]
      simp only [List.mem_cons, List.not_mem_nil, or_false] at hg
      rcases hg with rfl | rfl | rfl | rfl | rfl | rfl <;> simp [pb5, pb4, pb3, pb2, pb1, upr, up, hv]
    have b2 : ∀ i, B 2 i 0 = if i = a then A 2 a 0 + 1 else A 2 i 0 := fun i => by rw [hB]; simp [pb5, pb4, pb3, pb2, pb1, upr, up]
    have b3 : B 3 its 0 = A 11 0 0 := by rw [hB, eits]; simp [pb5, pb4, pb3, pb2, pb1, upr, up]
    have b4 : B 4 its 0 = A 12 0 0 := by rw [hB, eits]; simp [pb5, pb4, pb3, pb2, pb1, upr, up]
    have b5 : ∀ j, 0 ≤ j → j < 4 * A 12 0 0 → B 5 its j = A 13 j 0 := fun j j0 j1 => by rw [hB, eits]; simp [pb5, pb4, pb3, pb2, pb1, upr, up, j0, j1]
    have b6 : B 6 its 0 = A 14 0 0 := by rw [hB, eits]; simp [pb5, pb4, pb3, pb2, pb1, upr, up]
    have b7 : ∀ j, B 7 its j = if 0 ≤ j ∧ j < A 14 0 0 then A 15 j 0 else A 7 its j := fun j => by rw [hB, eits]; simp [pb5, pb4, pb3, pb2, pb1, upr, up]
    have b8 : B 8 its 0 = mxh A (A 14 0 0).toNat + 1 := by rw [hB, eits]; simp [pb5, pb4, pb3, pb2, pb1, upr, up]
    have b11 : B 11 0 0 = 0 := by rw [hB]; simp [pb5, pb4, pb3, pb2, pb1, upr, up]
    have b12 : B 12 0 0 = 0 := by rw [hB]; simp [pb5, pb4, pb3, pb2, pb1, upr, up]
    have b14 : B 14 0 0 = 0 := by rw [hB]; simp [pb5, pb4, pb3, pb2, pb1, upr, up]
    have b100 : ∀ v, B 100 v 0 = if v = its then A 102 0 0 else A 100 v 0 := fun v => by rw [hB, eits]; simp [pb5, pb4, pb3, pb2, pb1, upr, up]
    have b101 : ∀ j, B 101 j 0 = if j = A 102 0 0 then its else A 101 j 0 := fun j => by rw [hB, eits]; simp [pb5, pb4, pb3, pb2, pb1, upr, up]
    have b102 : B 102 0 0 = A 102 0 0 + 1 := by rw [hB]; simp [pb5, pb4, pb3, pb2, pb1, upr, up]
    rw [← hB]
    clear hB
    have ex : ∀ v, exv B v ↔ exv A v ∨ v = its := fun v => by
      unfold exv
      rw [e 1 (by decide), b2]
      constructor
      · rintro ⟨q1, q2, q3⟩
        by_cases z : v / 6 = a
        · rw [if_pos z] at q3
          by_cases y : v % 6 = A 2 a 0
          · right; omega
          · left; rw [z]; exact ⟨q1, by omega, by omega⟩
        · rw [if_neg z] at q3; exact Or.inl ⟨q1, q2, q3⟩
      · rintro (⟨q1, q2, q3⟩ | q)
        · refine ⟨q1, q2, ?_⟩
          split
          · next z => rw [z] at q3; omega
          · exact q3
        · refine ⟨by omega, by omega, ?_⟩
          rw [if_pos (by omega)]; omega
    have em : ∀ v, exv A v → exv B v := fun v hv => (ex v).2 (Or.inl hv)
    have ne : ∀ v, exv A v → v ≠ its := fun v hv q => hne (q ▸ hv)
    have ea : ∀ f, actv B f ↔ actv A f := fun f => by unfold actv; rw [e 17 (by decide), e 18 (by decide)]
    have d8 := D.2.2.2.2.2.2.2
    have V' : IvV B := by
      obtain ⟨i1, i2, i3, i4, i5, i6, i7, i8, i9, i10⟩ := V
      unfold IvV
      rw [e 1 (by decide), e 9 (by decide), e 10 (by decide)]
      refine ⟨i1, i2, fun x x0 x1 => ?_, fun x x0 x1 => ?_, fun v hv => ?_, fun v i hv i0 i1' => ?_, fun v i hv i0 i1' => ?_, fun v v0 v1 => ?_, fun v v0 v1 hv => ?_, fun v i v0 v1 i0 i1' => ?_⟩
      · have := i3 x x0 x1
        rw [b2]; split
        · omega
        · exact this
      · rw [b2, if_neg (by omega)]; exact i4 x x0 x1
      · rcases (ex v).1 hv with z | z
        · rw [eo 3 v 0 (by decide) (ne v z), eo 4 v 0 (by decide) (ne v z), eo 8 v 0 (by decide) (ne v z)]; exact i5 v z
        · rw [z, b3, b4, b8]
          exact ⟨D.1, D.2.1, D.2.2.1, D.2.2.2.1, by omega, by omega⟩
      · rcases (ex v).1 hv with z | z
        · rw [eo 4 v 0 (by decide) (ne v z)] at i1'
          rw [eo 5 v _ (by decide) (ne v z), eo 5 v _ (by decide) (ne v z), eo 5 v _ (by decide) (ne v z), eo 5 v _ (by decide) (ne v z)]
          exact i6 v i z i0 i1'
        · rw [z] at i1' ⊢
          rw [b4] at i1'
          rw [b5 _ (by omega) (by omega), b5 _ (by omega) (by omega), b5 _ (by omega) (by omega), b5 _ (by omega) (by omega)]
          exact D.2.2.2.2.2.2.1 i i0 i1'
      · rcases (ex v).1 hv with z | z
        · rw [eo 6 v 0 (by decide) (ne v z)] at i1'
          obtain ⟨w1, w2⟩ := i7 v i z i0 i1'
          rw [eo 7 v _ (by decide) (ne v z), eo 8 v 0 (by decide) (ne v z), eo 8 _ 0 (by decide) (ne _ w1)]
          exact ⟨em _ w1, w2⟩
        · rw [z] at i1' ⊢
          rw [b6] at i1'
          rw [b7, if_pos ⟨i0, i1'⟩, b8]
          obtain ⟨w1, w2⟩ := d8 i i0 i1'
          have := mxh_ge (A := A) (A 14 0 0).toNat i i0 (by omega)
          rw [eo 8 _ 0 (by decide) (ne _ w1)]
          exact ⟨em _ w1, by omega⟩
      · obtain ⟨x1, x2, x3⟩ := i8 v v0 v1
        refine ⟨?_, ?_, x3⟩ <;> (by_cases z : v = its)
        · rw [z, b6]; omega
        · rw [eo 6 v 0 (by decide) z]; exact x1
        · rw [z, b6]; omega
        · rw [eo 6 v 0 (by decide) z]; exact x2
      · have hz : ¬ exv A v ∧ v ≠ its := ⟨fun q => hv (em v q), fun q => hv ((ex v).2 (Or.inr q))⟩
        rw [eo 6 v 0 (by decide) hz.2]
        exact i9 v v0 v1 hz.1
      · by_cases z : v = its
        · rw [z, b7]
          split
          · next w => exact exv_rng ⟨i1, i2, i3, i4, i5, i6, i7, i8, i9, i10⟩ (d8 i w.1 w.2).1
          · rw [← z]; exact i10 v i v0 v1 i0 i1'
        · rw [eo 7 v i (by decide) z]; exact i10 v i v0 v1 i0 i1'
    have D' : IvD B := by
      unfold IvD
      rw [b11, b12, b14]
      exact ⟨by omega, by omega, by omega, by omega, by omega, by omega, fun i i0 i1 => by omega, fun i i0 i1 => by omega⟩
    have S' : IvS c B := by
      obtain ⟨i1, i2, i3, i4, i5, i6, i7, i8, i9, i10⟩ := S
      unfold IvS
      simp only [ea]
      rw [e 16 (by decide), e 17 (by decide), e 18 (by decide), e 20 (by decide), e 21 (by decide), e 22 (by decide), e 23 (by decide), e 24 (by decide), e 25 (by decide), e 27 (by decide), e 28 (by decide), e 29 (by decide), e 30 (by decide), e 31 (by decide)]
      exact ⟨i1, i2, i3, i4, i5, i6, i7, fun s k s0 s1 k0 k1 => (i8 s k s0 s1 k0 k1).imp id (em _), i9, i10⟩
    have F' : IvF B := by
      intro f f0 f1
      obtain ⟨y1, y2, y3, y4, y5, y6⟩ := F f f0 f1
      rw [ea, e 32 (by decide), e 33 (by decide), e 34 (by decide), e 44 (by decide)]
      exact ⟨y1, y2, y3, y4, fun q => ⟨(y5 q).1, (y5 q).2.1, (y5 q).2.2.1, (y5 q).2.2.2.1, (y5 q).2.2.2.2.1, (y5 q).2.2.2.2.2.1, fun k k0 k1 => ⟨((y5 q).2.2.2.2.2.2 k k0 k1).1.imp id (em _), ((y5 q).2.2.2.2.2.2 k k0 k1).2⟩⟩, y6⟩
    have C' : IvC c B := by
      obtain ⟨⟨o1, o2, o3⟩, b⟩ := C
      refine ⟨?_, by rw [e 57 (by decide), e 58 (by decide)]; exact b⟩
      unfold CcOk
      rw [e 54 (by decide), e 56 (by decide)]
      refine ⟨o1, o2, fun k k0 k1 => ?_⟩
      obtain ⟨w1, w2, w3⟩ := o3 k k0 k1
      refine ⟨em _ w1, w2, ?_⟩
      rw [w3]
      exact (vlf_at V (fun g v hg hv => eo g v 0 (by simp only [List.mem_cons, List.not_mem_nil, or_false] at hg ⊢; omega) (ne v hv)) (fun g v hg hv => by funext j; exact eo g v j (by simp only [List.mem_cons, List.not_mem_nil, or_false] at hg ⊢; omega) (ne v hv)) 4 _ _ w1).symm
    have G' : IvG B := by
      obtain ⟨g1, g2, g3, g4, g5, g6, g7, g8⟩ := G
      unfold IvG
      rw [e 17 (by decide), e 18 (by decide), e 103 (by decide), e 105 (by decide), b102]
      refine ⟨by omega, by omega, fun v hv => ?_, fun j j0 j1 => ?_, fun v i hv i0 i1 => ?_, g6, g7, g8⟩
      · rw [b100]
        rcases (ex v).1 hv with z | z
        · have := g3 v z
          rw [if_neg (ne v z), b101, if_neg (by omega)]
          exact ⟨this.1, by omega, this.2.2⟩
        · rw [if_pos z, b101, if_pos rfl]; exact ⟨g1, by omega, z.symm⟩
      · rw [b101]
        by_cases z : j = A 102 0 0
        · rw [if_pos z, b100, if_pos rfl]; exact ⟨(ex its).2 (Or.inr rfl), z.symm⟩
        · obtain ⟨w1, w2⟩ := g4 j j0 (by omega)
          rw [if_neg z, b100, if_neg (ne _ w1)]; exact ⟨em _ w1, w2⟩
      · rcases (ex v).1 hv with z | z
        · rw [eo 6 v 0 (by decide) (ne v z)] at i1
          have w1 := (V.2.2.2.2.2.2.1 v i z i0 i1).1
          rw [eo 7 v i (by decide) (ne v z), b100, b100, if_neg (ne v z), if_neg (ne _ w1)]
          exact g5 v i z i0 i1
        · rw [z] at i1 ⊢
          rw [b6] at i1
          have w1 := (d8 i i0 i1).1
          rw [b7, if_pos ⟨i0, i1⟩, b100, b100, if_neg (ne _ w1), if_pos rfl]
          exact (g3 _ w1).2.1
    exact ⟨V', D', S', F', M.of (fun g hg => e g (nin hg (by decide))), N.of (fun g hg => e g (nin hg (by decide))), C', G', IvE.of E (e 32 (by decide)) (e 34 (by decide)), IvK.of K (e 23 (by decide)) (e 24 (by decide))⟩
  · rw [cif_neg h]; exact I
