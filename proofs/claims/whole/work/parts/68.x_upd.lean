-- one place of the state and its cell
theorem RCo.of2 {A B : AS} {h h' : Mh} (R : RCo A h) (a16 : A 16 0 0 ≤ 5) (e : B 16 = A 16) (s : ∀ n t c, 0 ≤ t → t < 5 → 0 ≤ c → c < 16 → cN t c ≤ n → n < cN t c + 5 → Sam h h' n) : RCo B h' := by
  intro t c t0 t1 c0 c1
  rw [e] at t1
  exact (R t c t0 t1 c0 c1).of (fun n n0 n1 => s n t c t0 (by omega) c0 c1 n0 n1)
theorem RCk.of2 {A B : AS} {h h' : Mh} (R : RCk A h) (a16 : A 16 0 0 ≤ 5) (G : IvG A) (e : ∀ g, g ∈ gK → B g = A g) (s : ∀ n t c, 0 ≤ t → t < 5 → 0 ≤ c → c < 16 → cN t c ≤ n → n < cN t c + 5 → Sam h h' n) : RCk B h' := by
  intro t p t0 t1 p0 p1
  rw [e 16 (by decide)] at t1
  have g := G.2.2.2.2.2.1 t p t0 (by omega) p0 p1
  have sm : ∀ n, cN t (A 105 t p) ≤ n → n < cN t (A 105 t p) + 5 → Sam h h' n := fun n n0 n1 => s n t _ t0 (by omega) g.1 g.2 n0 n1
  unfold FKey FNam
  rw [e 17 (by decide), e 18 (by decide), e 21 (by decide), e 24 (by decide), e 25 (by decide), e 105 (by decide), (sm _ (Nat.le_refl _) (by omega)).2.2.1, (sm (cN t (A 105 t p) + 1) (by omega) (by omega)).2.2.1, (sm (cN t (A 105 t p) + 2) (by omega) (by omega)).2.2.1]
  exact R t p t0 t1 p0 p1
theorem RCt.of2 {A B : AS} {h h' : Mh} (R : RCt A h) (a16 : A 16 0 0 ≤ 5) (G : IvG A) (e : ∀ g, g ∈ gT → B g = A g) (s : ∀ n t c, 0 ≤ t → t < 5 → 0 ≤ c → c < 16 → cN t c ≤ n → n < cN t c + 5 → Sam h h' n) : RCt B h' := by
  intro t p t0 t1 p0 p1
  rw [e 16 (by decide)] at t1
  have g := G.2.2.2.2.2.1 t p t0 (by omega) p0 p1
  have sm : ∀ n, cN t (A 105 t p) ≤ n → n < cN t (A 105 t p) + 5 → Sam h h' n := fun n n0 n1 => s n t _ t0 (by omega) g.1 g.2 n0 n1
  have := R t p t0 t1 p0 p1
  unfold FSta at *
  rw [e 17 (by decide), e 18 (by decide), e 44 (by decide), e 105 (by decide), (sm _ (Nat.le_refl _) (by omega)).2.2.1]
  exact ⟨fun z => ⟨Whr_of (e 36 (by decide)) (e 39 (by decide)) (e 42 (by decide)) (e 43 (by decide)) (this.1 z).1, (this.1 z).2⟩, this.2⟩
theorem RCi.of2 {A B : AS} {h h' : Mh} (R : RCi A h) (a16 : A 16 0 0 ≤ 5) (G : IvG A) (e : ∀ g, g ∈ gI → B g = A g) (s : ∀ n t c, 0 ≤ t → t < 5 → 0 ≤ c → c < 16 → cN t c ≤ n → n < cN t c + 5 → Sam h h' n) : RCi B h' := by
  intro t p t0 t1 p0 p1
  rw [e 16 (by decide)] at t1
  have g := G.2.2.2.2.2.1 t p t0 (by omega) p0 p1
  have sm : ∀ n, cN t (A 105 t p) ≤ n → n < cN t (A 105 t p) + 5 → Sam h h' n := fun n n0 n1 => s n t _ t0 (by omega) g.1 g.2 n0 n1
  unfold FImg
  rw [e 17 (by decide), e 18 (by decide), e 32 (by decide), e 34 (by decide), e 105 (by decide), pN_of (e 100 (by decide)), (sm _ (Nat.le_refl _) (by omega)).2.2.1, (sm (cN t (A 105 t p) + 3) (by omega) (by omega)).2.2.2, (sm (cN t (A 105 t p) + 4) (by omega) (by omega)).2.2.1]
  exact R t p t0 t1 p0 p1
abbrev LStx : List Nat := [1, 2, 3, 4, 5, 6, 7, 8, 9, 10, 11, 12, 13, 14, 15, 16, 17, 18, 36, 47, 51, 100, 101, 102, 103, 105]
theorem IvG.of {A B : AS} (G : IvG A) (e : ∀ g, g ∈ LStx → B g = A g) : IvG B := by
  unfold IvG exv at *
  rw [e 1 (by decide), e 2 (by decide), e 6 (by decide), e 7 (by decide), e 17 (by decide), e 18 (by decide), e 100 (by decide), e 101 (by decide), e 102 (by decide), e 103 (by decide), e 105 (by decide)]
  exact G
theorem Stx.of {A B : AS} (T : Stx A) (e : ∀ g, g ∈ LStx → B g = A g) : Stx B := by
  obtain ⟨V, D, a16, a36, a47, a51, G⟩ := T
  exact ⟨V.of (fun g hg => e g (by simp only [LV, LStx, List.mem_cons, List.not_mem_nil, or_false] at hg ⊢; omega)), D.of (fun g hg => e g (by simp only [LD, LStx, List.mem_cons, List.not_mem_nil, or_false] at hg ⊢; omega)), by rw [e 16 (by decide)]; exact a16, by rw [e 36 (by decide)]; exact a36, by rw [e 47 (by decide)]; exact a47, by rw [e 51 (by decide)]; exact a51, G.of e⟩
theorem SObj.of2 {A B : AS} {h h' : Mh} {s : Int} (R : SObj A h s) (e : ∀ g, g ∈ [17, 20, 23, 27, 28, 29, 30, 31] → B g s 0 = A g s 0) (e105 : B 105 s = A 105 s) (e22 : B 22 s = A 22 s) (e100 : B 100 = A 100) (sm : ∀ n, sN s ≤ n → n < sN s + 4 → Sam h h' n) : SObj B h' s := by
  obtain ⟨k0, l0, i0, r0⟩ := sm (sN s) (by omega) (by omega)
  obtain ⟨k1, l1, i1, r1⟩ := sm (sN s + 1) (by omega) (by omega)
  obtain ⟨k2, l2, i2, r2⟩ := sm (sN s + 2) (by omega) (by omega)
  obtain ⟨k3, l3, i3, r3⟩ := sm (sN s + 3) (by omega) (by omega)
  unfold SObj at *
  rw [k0, i0, r0, k1, l1, r1, k2, l2, k3, l3, r3, e 17 (by decide), e 20 (by decide), e 23 (by decide), e 27 (by decide), e 28 (by decide), e 29 (by decide), e 30 (by decide), e 31 (by decide), e105, e22, pN_of e100]
  exact R
/-- plain numbers of one shot are set -/
theorem RC.shot {A B : AS} {h h' : Mh} (R : RC A h) (T : Stx A) {s : Int} (hS : isS A s) (e : ∀ g, g ∉ [23, 27, 28, 29, 30, 31] → B g = A g) (et : ∀ g t, t ≠ s → B g t 0 = A g t 0) (c1 : Kd h' = Kd h) (c2 : Ln h' = Ln h) (c3 : Mr h' = Mr h) (c4 : ∀ n, n ≠ sN s → Mi h' n = Mi h n) (c5 : ∀ k : Int, k < 6 → Mi h' (sN s) k = Mi h (sN s) k)
    (n6 : Mi h' (sN s) 6 = B 23 s 0) (n7 : Mi h' (sN s) 7 = B 27 s 0) (n8 : Mi h' (sN s) 8 = B 28 s 0) (n9 : Mi h' (sN s) 9 = B 31 s 0) (n10 : Mi h' (sN s) 10 = B 29 s 0) (n11 : Mi h' (sN s) 11 = B 30 s 0) : RC B h' := by
  obtain ⟨V9, D9, a16, a36, a47, a51, G9⟩ := T
  have s9 : ∀ n, n ≠ 20000 + 200 * s.toNat → Sam h h' n := fun n hn => ⟨by rw [c1], by rw [c2], c4 n hn, by rw [c3]⟩
  have E9 : ∀ L : List Nat, (∀ f, f ∈ [23, 27, 28, 29, 30, 31] → f ∉ L) → ∀ g, g ∈ L → B g = A g := fun L hL g hg => e g (fun q => hL g q hg)
  have hs0 := hS.1
  have hs1 := hS.2
  have xs : RCs B h' := by
    refine ⟨fun t t0 t1 => ?_, fun n n0 n1 => ?_⟩
    · rw [e 16 (by decide)] at t1
      by_cases z : t = s
      · subst z
        obtain ⟨r1, r2, r3, r4⟩ := R.xs.1 t t0 t1
        unfold SObj
        rw [c1, c2, c3, c5 0 (by decide), c5 3 (by decide), c5 4 (by decide), n6, n7, n8, n9, n10, n11, e 17 (by decide), e 20 (by decide), e 22 (by decide), e 105 (by decide), pN_of (e 100 (by decide))]
        exact ⟨r1, ⟨r2.1, r2.2.1, rfl, rfl, rfl, rfl, rfl, rfl⟩, r3, r4⟩
      · exact (R.xs.1 t t0 t1).of2 (fun g _ => et g t z) (by rw [e 105 (by decide)]) (by rw [e 22 (by decide)]) (e 100 (by decide)) (fun n n0 n1 => s9 n (by unfold sN at n0 n1; omega))
    · rw [e 16 (by decide)] at n0
      rw [c1]; exact R.xs.2 n n0 n1
  exact ⟨R.1.of (E9 _ (by decide)) (fun n hn => s9 n (by omega)), R.xa.of (E9 _ (by decide)) (fun n n0 n1 => s9 n (by omega)), R.xv.of V9 D9 G9 (E9 _ (by decide)) (fun n n0 n1 => s9 n (by omega)), xs, R.xo.of2 a16 (E9 [16] (by decide) 16 (by decide)) (fun n t c t0 t1 c0 c1 n0 n1 => s9 n (by unfold cN at n0 n1; omega)), R.xk.of2 a16 G9 (E9 _ (by decide)) (fun n t c t0 t1 c0 c1 n0 n1 => s9 n (by unfold cN at n0 n1; omega)), R.xt.of2 a16 G9 (E9 _ (by decide)) (fun n t c t0 t1 c0 c1 n0 n1 => s9 n (by unfold cN at n0 n1; omega)), R.xi.of2 a16 G9 (E9 _ (by decide)) (fun n t c t0 t1 c0 c1 n0 n1 => s9 n (by unfold cN at n0 n1; omega)), R.xm.of a36 (E9 _ (by decide)) (fun n hn => ⟨(s9 n (by omega)).1, (s9 n (by omega)).2.1, fun k _ => congrFun (s9 n (by omega)).2.2.1 k, (s9 n (by omega)).2.2.2⟩), R.xu.of (E9 [32] (by decide) 32 (by decide)) (E9 [33] (by decide) 33 (by decide)) (congrFun (s9 16 (by omega)).2.2.1 5), R.xc.of (E9 _ (by decide)) (fun n hn => s9 n (by omega)) (fun n n0 n1 => ⟨(s9 n (by omega)).1, (s9 n (by omega)).2.1⟩), R.xn.of a47 (E9 _ (by decide)) (fun n n0 n1 => s9 n (by omega)), R.xd.of a51 (E9 _ (by decide)) (fun n n0 n1 => s9 n (by omega))⟩
theorem RC.pin {A : AS} {h : Mh} (R : RC A h) (T : Stx A) {s k w : Int} (hS : isS A s) (k0 : 0 ≤ k) (k1 : k < 4) : RC (up A 22 s k w) (setR h (sN s + 3) k (pN A w)) := by
  obtain ⟨V9, D9, a16, a36, a47, a51, G9⟩ := T
  have hs0 := hS.1
  have hs1 := hS.2
  have s9 : ∀ n, n ≠ 20003 + 200 * s.toNat → Sam h (setR h (sN s + 3) k (pN A w)) n := fun n hn => Sam.rfl'.setR (by unfold sN; omega)
  have e : ∀ g, g ≠ 22 → up A 22 s k w g = A g := fun g hg => by funext i j; exact up_f hg
  have E9 : ∀ L : List Nat, (∀ f, f ∈ [22] → f ∉ L) → ∀ g, g ∈ L → up A 22 s k w g = A g := fun L hL g hg => e g (fun q => hL 22 (by simp) (q ▸ hg))
  have xs : RCs (up A 22 s k w) (setR h (sN s + 3) k (pN A w)) := by
    refine ⟨fun t t0 t1 => ?_, fun n n0 n1 => ?_⟩
    · rw [e 16 (by decide)] at t1
      by_cases z : t = s
      · subst z
        obtain ⟨r1, r2, r3, r4⟩ := R.xs.1 t t0 t1
        unfold SObj
        rw [e 17 (by decide), e 20 (by decide), e 23 (by decide), e 27 (by decide), e 28 (by decide), e 29 (by decide), e 30 (by decide), e 31 (by decide), e 105 (by decide), pN_of (e 100 (by decide))]
        have m : ∀ n, n ≠ sN t + 3 → Mr (setR h (sN t + 3) k (pN A w)) n = Mr h n := fun n hn => by funext i; rw [Mr_setR, if_neg (fun q => hn q.1)]
        rw [m (sN t) (by omega), m (sN t + 1) (by omega)]
        refine ⟨r1, r2, r3, fun i i0 i1 => ?_⟩
        rw [Mr_setR, up_at]
        by_cases y : i = k
        · rw [if_pos ⟨rfl, y⟩, if_pos ⟨rfl, y⟩]
        · rw [if_neg (fun q => y q.2), if_neg (fun q => y q.2)]; exact r4 i i0 i1
      · exact (R.xs.1 t t0 t1).of2 (fun g hg => by rw [e g (fun q => by subst q; revert hg; decide)]) (by rw [e 105 (by decide)]) (by funext i; rw [up_at, if_neg (fun q => z q.1)]) (e 100 (by decide)) (fun n n0 n1 => s9 n (by unfold sN at n0 n1; omega))
    · rw [e 16 (by decide)] at n0
      exact R.xs.2 n n0 n1
  exact ⟨R.1.of (E9 _ (by decide)) (fun n hn => s9 n (by omega)), R.xa.of (E9 _ (by decide)) (fun n n0 n1 => s9 n (by omega)), R.xv.of V9 D9 G9 (E9 _ (by decide)) (fun n n0 n1 => s9 n (by omega)), xs, R.xo.of2 a16 (E9 [16] (by decide) 16 (by decide)) (fun n t c t0 t1 c0 c1 n0 n1 => s9 n (by unfold cN at n0 n1; omega)), R.xk.of2 a16 G9 (E9 _ (by decide)) (fun n t c t0 t1 c0 c1 n0 n1 => s9 n (by unfold cN at n0 n1; omega)), R.xt.of2 a16 G9 (E9 _ (by decide)) (fun n t c t0 t1 c0 c1 n0 n1 => s9 n (by unfold cN at n0 n1; omega)), R.xi.of2 a16 G9 (E9 _ (by decide)) (fun n t c t0 t1 c0 c1 n0 n1 => s9 n (by unfold cN at n0 n1; omega)), R.xm.of a36 (E9 _ (by decide)) (fun n hn => ⟨(s9 n (by omega)).1, (s9 n (by omega)).2.1, fun k _ => congrFun (s9 n (by omega)).2.2.1 k, (s9 n (by omega)).2.2.2⟩), R.xu.of (E9 [32] (by decide) 32 (by decide)) (E9 [33] (by decide) 33 (by decide)) (congrFun (s9 16 (by omega)).2.2.1 5), R.xc.of (E9 _ (by decide)) (fun n hn => s9 n (by omega)) (fun n n0 n1 => ⟨(s9 n (by omega)).1, (s9 n (by omega)).2.1⟩), R.xn.of a47 (E9 _ (by decide)) (fun n n0 n1 => s9 n (by omega)), R.xd.of a51 (E9 _ (by decide)) (fun n n0 n1 => s9 n (by omega))⟩
/-- the object of another version lies elsewhere -/
theorem vN_ne {A : AS} (G : IvG A) {v w : Int} (hv : exv A v) (hw : exv A w) (hne : v ≠ w) : vN A v + 20 ≤ vN A w ∨ vN A w + 20 ≤ vN A v := by
  have h1 : vN A v ≠ vN A w := fun q => hne (vN_inj G hv hw q)
  unfold vN at *
  omega
theorem vN_dr {A : AS} (G : IvG A) {v : Int} (hv : exv A v) : vN A v + 20 ≤ 10000 + 20 * (A 102 0 0).toNat ∧ 10000 ≤ vN A v := by
  have := G.2.2.1 v hv
  unfold vN
  omega
theorem VObj.i {h : Mh} {b : Nat} {ct cc : Int} {con : Int → Int} {pc : Int} {par : Int → Nat} {ht rt ap : Int} (V : VObj h b ct cc con pc par ht rt ap) (c6 : cc ≤ 6) {m : Nat} {k v : Int} (hm : m < b ∨ b + 10 ≤ m) : VObj (setI h m k v) b ct cc con pc par ht rt ap := V.of c6 (fun n n0 n1 => Sam.rfl'.setI (by omega))
/-- a number of the draft -/
theorem RC.dct {A : AS} {h : Mh} (R : RC A h) (T : Stx A) {x : Int} : RC (up A 11 0 0 x) (setI h (10000 + 20 * (A 102 0 0).toNat) 0 x) := by
  obtain ⟨V9, D9, a16, a36, a47, a51, G9⟩ := T
  have g1 := G9.1
  have g2 := G9.2.1
  have s9 : ∀ n, n ≠ 10000 + 20 * (A 102 0 0).toNat → Sam h (setI h (10000 + 20 * (A 102 0 0).toNat) 0 x) n := fun n hn => Sam.rfl'.setI hn
  have e : ∀ g, g ≠ 11 → up A 11 0 0 x g = A g := fun g hg => by funext i j; exact up_f hg
  have E9 : ∀ L : List Nat, (∀ f, f ∈ [11] → f ∉ L) → ∀ g, g ∈ L → up A 11 0 0 x g = A g := fun L hL g hg => e g (fun q => hL 11 (by simp) (q ▸ hg))
  have xv : RCv (up A 11 0 0 x) (setI h (10000 + 20 * (A 102 0 0).toNat) 0 x) := by
    refine ⟨fun v hv => ?_, ?_, fun n n0 n1 => ?_⟩
    · have hv2 : exv A v := by unfold exv at *; rw [e 1 (by decide), e 2 (by decide)] at hv; exact hv
      have hn := vN_dr G9 hv2
      unfold VPub
      rw [vN_of (e 100 (by decide)), e 3 (by decide), e 4 (by decide), e 5 (by decide), e 6 (by decide), e 7 (by decide), e 8 (by decide), e 9 (by decide), e 10 (by decide)]
      exact (R.xv.1 v hv2).i (V9.2.2.2.2.1 v hv2).2.2.2.1 (by omega)
    · have := R.xv.2.1
      unfold VDra VObj at *
      rw [e 102 (by decide), vN_of (e 100 (by decide)), e 12 (by decide), e 13 (by decide), e 14 (by decide), e 15 (by decide), mxh_of (e 8 (by decide)) (e 15 (by decide)), up_s]
      obtain ⟨v1, v2, v3, v4, v5⟩ := this
      refine ⟨v1, ⟨by rw [Mi_setI, if_pos ⟨rfl, rfl⟩], by rw [Mi_setI, if_neg (by omega)]; exact v2.2.1, by rw [Mi_setI, if_neg (by omega)]; exact v2.2.2.1, by rw [Mi_setI, if_neg (by omega)]; exact v2.2.2.2.1, by rw [Mi_setI, if_neg (by omega)]; exact v2.2.2.2.2.1, by rw [Mi_setI, if_neg (by omega)]; exact v2.2.2.2.2.2⟩, fun i i0 i1 => ?_, v4, v5⟩
      rw [Mi_setI, if_neg (by omega), Mi_setI, if_neg (by omega), Mi_setI, if_neg (by omega), Mi_setI, if_neg (by omega)]
      exact v3 i i0 i1
    · rw [e 102 (by decide)] at n0
      exact R.xv.2.2 n n0 n1
  exact ⟨R.1.of (E9 _ (by decide)) (fun n hn => s9 n (by omega)), R.xa.of (E9 _ (by decide)) (fun n n0 n1 => s9 n (by omega)), xv, R.xs.of a16 (E9 _ (by decide)) (fun n n0 n1 => s9 n (by omega)), R.xo.of2 a16 (E9 [16] (by decide) 16 (by decide)) (fun n t c t0 t1 c0 c1 n0 n1 => s9 n (by unfold cN at n0 n1; omega)), R.xk.of2 a16 G9 (E9 _ (by decide)) (fun n t c t0 t1 c0 c1 n0 n1 => s9 n (by unfold cN at n0 n1; omega)), R.xt.of2 a16 G9 (E9 _ (by decide)) (fun n t c t0 t1 c0 c1 n0 n1 => s9 n (by unfold cN at n0 n1; omega)), R.xi.of2 a16 G9 (E9 _ (by decide)) (fun n t c t0 t1 c0 c1 n0 n1 => s9 n (by unfold cN at n0 n1; omega)), R.xm.of a36 (E9 _ (by decide)) (fun n hn => ⟨(s9 n (by omega)).1, (s9 n (by omega)).2.1, fun k _ => congrFun (s9 n (by omega)).2.2.1 k, (s9 n (by omega)).2.2.2⟩), R.xu.of (E9 [32] (by decide) 32 (by decide)) (E9 [33] (by decide) 33 (by decide)) (congrFun (s9 16 (by omega)).2.2.1 5), R.xc.of (E9 _ (by decide)) (fun n hn => s9 n (by omega)) (fun n n0 n1 => ⟨(s9 n (by omega)).1, (s9 n (by omega)).2.1⟩), R.xn.of a47 (E9 _ (by decide)) (fun n n0 n1 => s9 n (by omega)), R.xd.of a51 (E9 _ (by decide)) (fun n n0 n1 => s9 n (by omega))⟩
/-- a flag of a version: 6 retracted, 7 approved -/
theorem RC.vfl {A : AS} {h : Mh} (R : RC A h) (T : Stx A) {v x : Int} {f : Nat} {k : Int} (hv : exv A v) (hf : (f = 9 ∧ k = 6) ∨ (f = 10 ∧ k = 7)) : RC (up A f v 0 x) (setI h (vN A v) k x) := by
  obtain ⟨V9, D9, a16, a36, a47, a51, G9⟩ := T
  have g1 := G9.1
  have g2 := G9.2.1
  have hvn := vN_dr G9 hv
  have s9 : ∀ n, n ≠ vN A v → Sam h (setI h (vN A v) k x) n := fun n hn => Sam.rfl'.setI hn
  have e : ∀ g, g ≠ 9 → g ≠ 10 → up A f v 0 x g = A g := fun g h9 h10 => by funext i j; exact up_f (by omega)
  have E9 : ∀ L : List Nat, (∀ f, f ∈ [9, 10] → f ∉ L) → ∀ g, g ∈ L → up A f v 0 x g = A g := fun L hL g hg => e g (fun q => hL 9 (by simp) (q ▸ hg)) (fun q => hL 10 (by simp) (q ▸ hg))
  have xv : RCv (up A f v 0 x) (setI h (vN A v) k x) := by
    refine ⟨fun w hw => ?_, ?_, fun n n0 n1 => ?_⟩
    · have hw2 : exv A w := by unfold exv at *; rw [e 1 (by decide) (by decide), e 2 (by decide) (by decide)] at hw; exact hw
      by_cases z : w = v
      · subst z
        have := R.xv.1 w hw2
        unfold VPub VObj at *
        rw [vN_of (e 100 (by decide) (by decide)), e 3 (by decide) (by decide), e 4 (by decide) (by decide), e 5 (by decide) (by decide), e 6 (by decide) (by decide), e 7 (by decide) (by decide), e 8 (by decide) (by decide)]
        obtain ⟨v1, v2, v3, v4, v5⟩ := this
        refine ⟨v1, ⟨by rw [Mi_setI, if_neg (by omega)]; exact v2.1, by rw [Mi_setI, if_neg (by omega)]; exact v2.2.1, by rw [Mi_setI, if_neg (by omega)]; exact v2.2.2.1, by rw [Mi_setI, if_neg (by omega)]; exact v2.2.2.2.1, ?_, ?_⟩, fun i i0 i1 => ?_, v4, v5⟩
        · rcases hf with ⟨rfl, rfl⟩ | ⟨rfl, rfl⟩
          · rw [Mi_setI, if_pos ⟨rfl, rfl⟩, up_s]
          · rw [Mi_setI, if_neg (by omega), up_f (by decide)]; exact v2.2.2.2.2.1
        · rcases hf with ⟨rfl, rfl⟩ | ⟨rfl, rfl⟩
          · rw [Mi_setI, if_neg (by omega), up_f (by decide)]; exact v2.2.2.2.2.2
          · rw [Mi_setI, if_pos ⟨rfl, rfl⟩, up_s]
        · rw [Mi_setI, if_neg (by omega), Mi_setI, if_neg (by omega), Mi_setI, if_neg (by omega), Mi_setI, if_neg (by omega)]
          exact v3 i i0 i1
      · have hn := vN_ne G9 hw2 hv z
        unfold VPub
        rw [vN_of (e 100 (by decide) (by decide)), e 3 (by decide) (by decide), e 4 (by decide) (by decide), e 5 (by decide) (by decide), e 6 (by decide) (by decide), e 7 (by decide) (by decide), e 8 (by decide) (by decide)]
        have e9 : up A f v 0 x 9 w 0 = A 9 w 0 := by unfold up; rw [if_neg (fun q => z q.2.1)]
        have e10 : up A f v 0 x 10 w 0 = A 10 w 0 := by unfold up; rw [if_neg (fun q => z q.2.1)]
        rw [e9, e10]
        exact (R.xv.1 w hw2).i (V9.2.2.2.2.1 w hw2).2.2.2.1 (by omega)
    · have := R.xv.2.1
      unfold VDra at *
      rw [e 102 (by decide) (by decide), vN_of (e 100 (by decide) (by decide)), e 11 (by decide) (by decide), e 12 (by decide) (by decide), e 13 (by decide) (by decide), e 14 (by decide) (by decide), e 15 (by decide) (by decide), mxh_of (e 8 (by decide) (by decide)) (e 15 (by decide) (by decide))]
      exact this.i D9.2.2.2.1 (by omega)
    · rw [e 102 (by decide) (by decide)] at n0
      exact R.xv.2.2 n n0 n1
  have hb : vN A v < 20000 := by omega
  exact ⟨R.1.of (E9 _ (by decide)) (fun n hn => s9 n (by omega)), R.xa.of (E9 _ (by decide)) (fun n n0 n1 => s9 n (by omega)), xv, R.xs.of a16 (E9 _ (by decide)) (fun n n0 n1 => s9 n (by omega)), R.xo.of2 a16 (E9 [16] (by decide) 16 (by decide)) (fun n t c t0 t1 c0 c1 n0 n1 => s9 n (by unfold cN at n0 n1; omega)), R.xk.of2 a16 G9 (E9 _ (by decide)) (fun n t c t0 t1 c0 c1 n0 n1 => s9 n (by unfold cN at n0 n1; omega)), R.xt.of2 a16 G9 (E9 _ (by decide)) (fun n t c t0 t1 c0 c1 n0 n1 => s9 n (by unfold cN at n0 n1; omega)), R.xi.of2 a16 G9 (E9 _ (by decide)) (fun n t c t0 t1 c0 c1 n0 n1 => s9 n (by unfold cN at n0 n1; omega)), R.xm.of a36 (E9 _ (by decide)) (fun n hn => ⟨(s9 n (by omega)).1, (s9 n (by omega)).2.1, fun k _ => congrFun (s9 n (by omega)).2.2.1 k, (s9 n (by omega)).2.2.2⟩), R.xu.of (E9 [32] (by decide) 32 (by decide)) (E9 [33] (by decide) 33 (by decide)) (congrFun (s9 16 (by omega)).2.2.1 5), R.xc.of (E9 _ (by decide)) (fun n hn => s9 n (by omega)) (fun n n0 n1 => ⟨(s9 n (by omega)).1, (s9 n (by omega)).2.1⟩), R.xn.of a47 (E9 _ (by decide)) (fun n n0 n1 => s9 n (by omega)), R.xd.of a51 (E9 _ (by decide)) (fun n n0 n1 => s9 n (by omega))⟩
/-- a note is closed -/
theorem RC.ncl {A : AS} {h : Mh} (R : RC A h) (T : Stx A) {n9 : Int} (hn : 0 ≤ n9 ∧ n9 < A 47 0 0) : RC (up A 50 n9 0 0) (setI h (30000 + n9.toNat) 3 0) := by
  obtain ⟨V9, D9, a16, a36, a47, a51, G9⟩ := T
  have s9 : ∀ n, n ≠ 30000 + n9.toNat → Sam h (setI h (30000 + n9.toNat) 3 0) n := fun n hn => Sam.rfl'.setI hn
  have e : ∀ g, g ≠ 50 → up A 50 n9 0 0 g = A g := fun g hg => by funext i j; exact up_f hg
  have E9 : ∀ L : List Nat, (∀ f, f ∈ [50] → f ∉ L) → ∀ g, g ∈ L → up A 50 n9 0 0 g = A g := fun L hL g hg => e g (fun q => hL 50 (by simp) (q ▸ hg))
  have xn : RCn (up A 50 n9 0 0) (setI h (30000 + n9.toNat) 3 0) := by
    unfold RCn
    rw [e 16 (by decide), e 17 (by decide), e 18 (by decide), e 20 (by decide), e 21 (by decide), e 47 (by decide), e 48 (by decide), e 49 (by decide)]
    refine ⟨fun k k0 k1 => ?_, R.xn.2⟩
    obtain ⟨m1, m2, m3, m4, m5⟩ := R.xn.1 k k0 k1
    have q : ∀ i : Int, i ≠ 3 → Mi (setI h (30000 + n9.toNat) 3 0) (30000 + k.toNat) i = Mi h (30000 + k.toNat) i := fun i hi => by rw [Mi_setI, if_neg (fun q => hi q.2)]
    rw [q 2 (by decide), q 1 (by decide)]
    refine ⟨m1, m2, ?_, m4, m5⟩
    rw [Mi_setI, up_at]
    by_cases z : k = n9
    · rw [if_pos ⟨by rw [z], rfl⟩, if_pos ⟨z, rfl⟩]
    · rw [if_neg (fun q => z (by omega)), if_neg (fun q => z q.1)]; exact m3
  have hb : n9 < 30 := by omega
  exact ⟨R.1.of (E9 _ (by decide)) (fun n hn => s9 n (by omega)), R.xa.of (E9 _ (by decide)) (fun n n0 n1 => s9 n (by omega)), R.xv.of V9 D9 G9 (E9 _ (by decide)) (fun n n0 n1 => s9 n (by omega)), R.xs.of a16 (E9 _ (by decide)) (fun n n0 n1 => s9 n (by omega)), R.xo.of2 a16 (E9 [16] (by decide) 16 (by decide)) (fun n t c t0 t1 c0 c1 n0 n1 => s9 n (by unfold cN at n0 n1; omega)), R.xk.of2 a16 G9 (E9 _ (by decide)) (fun n t c t0 t1 c0 c1 n0 n1 => s9 n (by unfold cN at n0 n1; omega)), R.xt.of2 a16 G9 (E9 _ (by decide)) (fun n t c t0 t1 c0 c1 n0 n1 => s9 n (by unfold cN at n0 n1; omega)), R.xi.of2 a16 G9 (E9 _ (by decide)) (fun n t c t0 t1 c0 c1 n0 n1 => s9 n (by unfold cN at n0 n1; omega)), R.xm.of a36 (E9 _ (by decide)) (fun n hn => ⟨(s9 n (by omega)).1, (s9 n (by omega)).2.1, fun k _ => congrFun (s9 n (by omega)).2.2.1 k, (s9 n (by omega)).2.2.2⟩), R.xu.of (E9 [32] (by decide) 32 (by decide)) (E9 [33] (by decide) 33 (by decide)) (congrFun (s9 16 (by omega)).2.2.1 5), R.xc.of (E9 _ (by decide)) (fun n hn => s9 n (by omega)) (fun n n0 n1 => ⟨(s9 n (by omega)).1, (s9 n (by omega)).2.1⟩), xn, R.xd.of a51 (E9 _ (by decide)) (fun n n0 n1 => s9 n (by omega))⟩
theorem RC.dsk {A : AS} {h : Mh} (R : RC A h) (T : Stx A) {x : Int} : RC (up A 35 0 0 x) (setI h 16 4 x) := by
  obtain ⟨V9, D9, a16, a36, a47, a51, G9⟩ := T
  have s9 : ∀ n, n ≠ 16 → Sam h (setI h 16 4 x) n := fun n hn => Sam.rfl'.setI hn
  have e : ∀ g, g ≠ 35 → up A 35 0 0 x g = A g := fun g hg => by funext i j; exact up_f hg
  have E9 : ∀ L : List Nat, (∀ f, f ∈ [35] → f ∉ L) → ∀ g, g ∈ L → up A 35 0 0 x g = A g := fun L hL g hg => e g (fun q => hL 35 (by simp) (q ▸ hg))
  have xm : RCm (up A 35 0 0 x) (setI h 16 4 x) := by
    have q : ∀ i : Int, i ≠ 4 → Mi (setI h 16 4 x) 16 i = Mi h 16 i := fun i hi => by rw [Mi_setI, if_neg (fun q => hi q.2)]
    have q2 : ∀ n, n ≠ 16 → Mi (setI h 16 4 x) n = Mi h n := fun n hn => by funext i; rw [Mi_setI, if_neg (fun q => hn q.1)]
    obtain ⟨r1, r2, r3, r4, r5⟩ := R.xm
    unfold RCm
    rw [e 36 (by decide), e 37 (by decide), e 38 (by decide), e 39 (by decide), e 40 (by decide), e 41 (by decide), e 42 (by decide), e 43 (by decide), e 45 (by decide), e 46 (by decide), fN_of (e 103 (by decide)), q 1 (by decide), q 3 (by decide), q 6 (by decide), q 7 (by decide), up_s]
    refine ⟨r1, ⟨r2.1, r2.2.1, by rw [Mi_setI, if_pos ⟨rfl, rfl⟩], r2.2.2.2⟩, fun m m0 m1 => ?_, r4, r5⟩
    rw [q2 _ (by omega)]; exact r3 m m0 m1
  exact ⟨R.1.of (E9 _ (by decide)) (fun n hn => s9 n (by omega)), R.xa.of (E9 _ (by decide)) (fun n n0 n1 => s9 n (by omega)), R.xv.of V9 D9 G9 (E9 _ (by decide)) (fun n n0 n1 => s9 n (by omega)), R.xs.of a16 (E9 _ (by decide)) (fun n n0 n1 => s9 n (by omega)), R.xo.of2 a16 (E9 [16] (by decide) 16 (by decide)) (fun n t c t0 t1 c0 c1 n0 n1 => s9 n (by unfold cN at n0 n1; omega)), R.xk.of2 a16 G9 (E9 _ (by decide)) (fun n t c t0 t1 c0 c1 n0 n1 => s9 n (by unfold cN at n0 n1; omega)), R.xt.of2 a16 G9 (E9 _ (by decide)) (fun n t c t0 t1 c0 c1 n0 n1 => s9 n (by unfold cN at n0 n1; omega)), R.xi.of2 a16 G9 (E9 _ (by decide)) (fun n t c t0 t1 c0 c1 n0 n1 => s9 n (by unfold cN at n0 n1; omega)), xm, R.xu.of (e 32 (by decide)) (e 33 (by decide)) (by rw [Mi_setI, if_neg (by omega)]), R.xc.of (E9 _ (by decide)) (fun n hn => s9 n (by omega)) (fun n n0 n1 => ⟨(s9 n (by omega)).1, (s9 n (by omega)).2.1⟩), R.xn.of a47 (E9 _ (by decide)) (fun n n0 n1 => s9 n (by omega)), R.xd.of a51 (E9 _ (by decide)) (fun n n0 n1 => s9 n (by omega))⟩
