/-- the place of a version that isn't there may be set -/
theorem RC.g100 {c : Int} {A : AS} {h : Mh} (R : RC A h) (T : Stx A) (I : IvS c A) (F : IvF A) (O : CcOk A A) {v x : Int} (hv : ¬ exv A v) : RC (up A 100 v 0 x) h := by
  obtain ⟨V9, D9, a16, a36, a47, a51, G9⟩ := T
  have W : ∀ w, exv A w → vN (up A 100 v 0 x) w = vN A w := fun w hw => by
    unfold vN; rw [up_at, if_neg (fun (q : w = v ∧ (0 : Int) = 0) => hv (q.1 ▸ hw))]
  have W2 : ∀ w, w = -1 ∨ exv A w → pN (up A 100 v 0 x) w = pN A w := fun w hw => by
    unfold pN
    by_cases z : w = -1
    · rw [if_pos z, if_pos z]
    · rw [if_neg z, if_neg z, W w (by rcases hw with y | y; exact absurd y z; exact y)]
  obtain ⟨B, hB⟩ : ∃ B : AS, B = up A 100 v 0 x := ⟨_, rfl⟩
  rw [← hB] at W W2
  rw [← hB]
  have e : ∀ g, g ≠ 100 → B g = A g := fun g q1 => by rw [hB]; funext i j; rw [up_f q1]
  clear hB
  have s9 : ∀ n : Nat, n ≠ 0 → Sam h h n := fun n _ => Sam.rfl'
  have E9 : ∀ L : List Nat, (∀ f, f ∈ [100] → f ∉ L) → ∀ g, g ∈ L → B g = A g := fun L hL g hg => e g (fun q => hL 100 (by simp) (q ▸ hg))
  have xa : RCa B h := by
    unfold RCa
    rw [e 1 (by decide), e 2 (by decide)]
    refine ⟨fun a a0 a1 => ?_, R.xa.2⟩
    obtain ⟨y1, y2, y3, y4, y5, y6⟩ := R.xa.1 a a0 a1
    refine ⟨y1, y2, y3, y4, y5, fun i i0 i1 => ?_⟩
    have v3 := V9.2.2.1 a a0 (by have := V9.2.1; omega)
    have e1 : (6 * a + i) / 6 = a := by omega
    have e2 : (6 * a + i) % 6 = i := by omega
    rw [W _ ⟨by omega, by rw [e1]; exact a1, by rw [e1, e2]; exact i1⟩]
    exact y6 i i0 i1
  have xv : RCv B h := by
    refine ⟨fun w hw => ?_, ?_, fun n n0 n1 => ?_⟩
    · have hw2 : exv A w := by unfold exv at *; rw [e 1 (by decide), e 2 (by decide)] at hw; exact hw
      have := R.xv.1 w hw2
      unfold VPub VObj at *
      rw [W w hw2, e 3 (by decide), e 4 (by decide), e 5 (by decide), e 6 (by decide), e 7 (by decide), e 8 (by decide), e 9 (by decide), e 10 (by decide)]
      obtain ⟨v1, v2, v3, v4, v5⟩ := this
      refine ⟨v1, v2, v3, fun i i0 i1 => ?_, v5⟩
      rw [v4 i i0 i1]
      simp only []
      rw [W _ (V9.2.2.2.2.2.2.1 w i hw2 i0 i1).1]
    · have := R.xv.2.1
      unfold VDra VObj at *
      rw [e 102 (by decide), e 11 (by decide), e 12 (by decide), e 13 (by decide), e 14 (by decide), e 15 (by decide), mxh_of (e 8 (by decide)) (e 15 (by decide))]
      obtain ⟨v1, v2, v3, v4, v5⟩ := this
      refine ⟨v1, v2, v3, fun i i0 i1 => ?_, v5⟩
      rw [v4 i i0 i1]
      simp only []
      rw [W _ (D9.2.2.2.2.2.2.2 i i0 i1).1]
    · rw [e 102 (by decide)] at n0
      exact R.xv.2.2 n n0 n1
  have xs : RCs B h := by
    refine ⟨fun t t0 t1 => ?_, fun n n0 n1 => ?_⟩
    · rw [e 16 (by decide)] at t1
      have := R.xs.1 t t0 t1
      unfold SObj at *
      rw [e 17 (by decide), e 20 (by decide), e 22 (by decide), e 23 (by decide), e 27 (by decide), e 28 (by decide), e 29 (by decide), e 30 (by decide), e 31 (by decide), e 105 (by decide)]
      refine ⟨this.1, this.2.1, this.2.2.1, fun k k0 k1 => ?_⟩
      rw [W2 _ (I.2.2.2.2.2.2.2.1 t k t0 (by omega) k0 k1)]
      exact this.2.2.2 k k0 k1
    · rw [e 16 (by decide)] at n0
      exact R.xs.2 n n0 n1
  have xi : RCi B h := by
    intro t p t0 t1 p0 p1
    rw [e 16 (by decide)] at t1
    have := R.xi t p t0 t1 p0 p1
    unfold FImg at *
    rw [e 17 (by decide), e 18 (by decide), e 32 (by decide), e 34 (by decide), e 105 (by decide)]
    refine ⟨fun z => ⟨(this.1 z).1, fun y => ?_⟩, this.2⟩
    have hf := I.2.2.2.2.2.1 t p t0 (by omega) p0 z
    obtain ⟨y1, y2, y3, y4, y5⟩ := (this.1 z).2 y
    refine ⟨y1, y2, y3, y4, fun k k0 k1 => ?_⟩
    rw [W2 _ (((F (A 18 t p) (by omega) (by omega)).2.2.2.2.1 y).2.2.2.2.2.2 k k0 k1).1]
    exact y5 k k0 k1
  have xc : RCc B h := by
    have := R.xc
    unfold RCc at *
    rw [e 54 (by decide), e 56 (by decide), e 57 (by decide), e 58 (by decide)]
    refine ⟨this.1, this.2.1, this.2.2.1, this.2.2.2.1, fun k k0 k1 => ?_⟩
    rw [W _ (O.2.2 k k0 k1).1]
    exact this.2.2.2.2 k k0 k1
  exact ⟨R.1.of (E9 _ (by decide)) (fun n hn => s9 n (by omega)), xa, xv, xs, R.xo.of2 a16 (E9 [16] (by decide) 16 (by decide)) (fun n t c t0 t1 c0 c1 n0 n1 => s9 n (by unfold cN at n0 n1; omega)), R.xk.of2 a16 G9 (E9 _ (by decide)) (fun n t c t0 t1 c0 c1 n0 n1 => s9 n (by unfold cN at n0 n1; omega)), R.xt.of2 a16 G9 (E9 _ (by decide)) (fun n t c t0 t1 c0 c1 n0 n1 => s9 n (by unfold cN at n0 n1; omega)), xi, R.xm.of a36 (E9 _ (by decide)) (fun n hn => ⟨(s9 n (by omega)).1, (s9 n (by omega)).2.1, fun k _ => congrFun (s9 n (by omega)).2.2.1 k, (s9 n (by omega)).2.2.2⟩), R.xu.of (E9 [32] (by decide) 32 (by decide)) (E9 [33] (by decide) 33 (by decide)) (congrFun (s9 16 (by omega)).2.2.1 5), xc, R.xn.of a47 (E9 _ (by decide)) (fun n n0 n1 => s9 n (by omega)), R.xd.of a51 (E9 _ (by decide)) (fun n n0 n1 => s9 n (by omega))⟩
