/-- the draft becomes the version its; a new draft lies behind it -/
theorem RC.pub {A B : AS} {h h' : Mh} (R : RC A h) (T : Stx A) {a its N : Int} {D : Nat} (ha : isA A a) (h6 : A 2 a 0 < 6) (eits : its = 6 * a + A 2 a 0) (eN : N = A 102 0 0) (hN : 0 ≤ N ∧ N < 60) (g100 : A 100 its 0 = N) (eD : D = 10000 + 20 * N.toNat)
    (e : ∀ g, g ∉ [2, 3, 4, 5, 6, 7, 8, 11, 12, 14, 101, 102] → B g = A g) (eo : ∀ g v j, g ∈ [3, 4, 5, 6, 7, 8] → v ≠ its → B g v j = A g v j) (b2 : ∀ i, B 2 i 0 = if i = a then A 2 a 0 + 1 else A 2 i 0)
    (b3 : B 3 its 0 = A 11 0 0) (b4 : B 4 its 0 = A 12 0 0) (b5 : ∀ j, 0 ≤ j → j < 4 * A 12 0 0 → B 5 its j = A 13 j 0) (b6 : B 6 its 0 = A 14 0 0) (b7 : ∀ j, 0 ≤ j → j < A 14 0 0 → B 7 its j = A 15 j 0) (b8 : B 8 its 0 = mxh A (A 14 0 0).toNat + 1) (b11 : B 11 0 0 = 0) (b12 : B 12 0 0 = 0) (b14 : B 14 0 0 = 0) (b102 : B 102 0 0 = N + 1)
    (s0 : ∀ m, m ≠ 2 → m ≠ 11 → m ≠ 300 + a.toNat → m ≠ 320 + a.toNat → m ≠ D + 20 → m ≠ D + 21 → m ≠ D + 22 → Sam h h' m) (k2 : Kd h' 2 = Kd h 2) (r2 : ∀ k : Int, k ≠ 4 → Mr h' 2 k = Mr h 2 k) (m2 : ∀ k : Int, k ≠ 3 → Mi h' 2 k = Mi h 2 k) (n3 : Mi h' 2 3 = N + 1) (n4 : Mr h' 2 4 = some (D + 20))
    (k11 : Kd h' 11 = Kd h 11 ∧ Ln h' 11 = Ln h 11) (r11 : ∀ i : Int, Mr h' 11 i = if i = N then some D else Mr h 11 i)
    (kA : Kd h' (300 + a.toNat) = Kd h (300 + a.toNat) ∧ Mr h' (300 + a.toNat) = Mr h (300 + a.toNat) ∧ Mi h' (300 + a.toNat) 1 = A 2 a 0 + 1) (kV : Kd h' (320 + a.toNat) = Kd h (320 + a.toNat) ∧ Ln h' (320 + a.toNat) = Ln h (320 + a.toNat) ∧ ∀ i : Int, Mr h' (320 + a.toNat) i = if i = A 2 a 0 then some D else Mr h (320 + a.toNat) i)
    (kD : Kd h' (D + 20) = 10 ∧ Mr h' (D + 20) 1 = some (D + 20 + 1) ∧ Mr h' (D + 20) 3 = some (D + 20 + 2) ∧ Kd h' (D + 20 + 1) = 32 ∧ Ln h' (D + 20 + 1) = 6 ∧ Kd h' (D + 20 + 2) = 39 ∧ Ln h' (D + 20 + 2) = 3) (mD : ∀ i : Int, Mi h' (D + 20) i = if i = 5 then 1 else 0) : RC B h' := by
  obtain ⟨V9, D9, a16, a36, a47, a51, G9⟩ := T
  have a0 := ha.1
  have a1 := ha.2
  have va := V9.2.1
  have v2 := V9.2.2.1 a a0 (by omega)
  have hN0 := hN.1
  have hN1 := hN.2
  have g1 := G9.1
  have g2 := G9.2.1
  have hne : ¬ exv A its := fun q => by
    have q2 := q.2.2
    rw [show its / 6 = a by omega] at q2
    omega
  have hr : 0 ≤ its ∧ its < 60 := by omega
  have v9 := V9.2.2.2.2.2.2.2.2.1 its hr.1 hr.2 hne
  have hx : ∀ w, exv B w → w ≠ its → exv A w := fun w hw hw2 => by
    unfold exv at *
    rw [e 1 (by decide), b2] at hw
    refine ⟨hw.1, hw.2.1, ?_⟩
    by_cases z : w / 6 = a
    · have := hw.2.2
      rw [if_pos z] at this
      rw [z]
      omega
    · have := hw.2.2
      rw [if_neg z] at this
      exact this
  have s9 : ∀ m, m ≠ 2 ∧ m ≠ 11 ∧ m ≠ 300 + a.toNat ∧ m ≠ 320 + a.toNat ∧ (m < D + 20 ∨ D + 23 ≤ m) → Sam h h' m := fun m hm => s0 m hm.1 hm.2.1 hm.2.2.1 hm.2.2.2.1 (by omega) (by omega) (by omega)
  have E9 : ∀ L : List Nat, (∀ f, f ∈ [2, 3, 4, 5, 6, 7, 8, 11, 12, 14, 101, 102] → f ∉ L) → ∀ g, g ∈ L → B g = A g := fun L hL g hg => e g (fun q => hL g q hg)
  have eV : vN B = vN A := vN_of (e 100 (by decide))
  have eI : vN A its = D := by unfold vN; rw [g100, eD]
  have xx : RCx B h' := by
    refine RCx.upd R k2 r2 (fun n n0 n1 => ?_) ?_ ?_ ?_ ?_ ?_ ?_ (fun a a0 a1 => ?_) (fun j a0 a1 => ?_) (fun a a0 a1 => ?_) (fun a a0 a1 => ?_) (fun a a0 a1 => ?_)
    · by_cases z : n = 11
      · rw [z]; exact k11
      · have := s9 n (by omega); exact ⟨this.1, this.2.1⟩
    · rw [m2 1 (by decide), e 1 (by decide)]; exact rx9 R
    · rw [n3, b102]
    · rw [n4, b102, eD]; congr 1; omega
    · rw [m2 6 (by decide), e 16 (by decide)]; exact rx12 R
    · rw [m2 10 (by decide), e 47 (by decide)]; exact rx13 R
    · rw [m2 12 (by decide), e 51 (by decide)]; exact rx14 R
    · rw [e 1 (by decide)] at a1
      rw [(s9 10 (by omega)).2.2.2]; exact rxA R a0 a1
    · rw [b102] at a1
      rw [r11]
      by_cases z : j = N
      · rw [if_pos z, eD, z]
      · rw [if_neg z]; exact rxP R a0 (by omega)
    · rw [e 16 (by decide)] at a1
      rw [(s9 12 (by omega)).2.2.2]; exact rxS R a0 a1
    · rw [e 47 (by decide)] at a1
      rw [(s9 13 (by omega)).2.2.2]; exact rxN R a0 a1
    · rw [e 51 (by decide)] at a1
      rw [(s9 14 (by omega)).2.2.2]; exact rxD R a0 a1
  have xa : RCa B h' := by
    unfold RCa
    rw [e 1 (by decide), eV]
    refine ⟨fun b b0 b1 => ?_, fun b b0 b1 => ?_⟩
    · rw [b2]
      have o := R.xa.1 b b0 b1
      by_cases z : b = a
      · subst z
        rw [if_pos rfl, kA.1, kA.2.1, kV.1, kV.2.1]
        refine ⟨o.1, o.2.1, kA.2.2, o.2.2.2.1, o.2.2.2.2.1, fun i i0 i1 => ?_⟩
        rw [kV.2.2]
        by_cases y : i = A 2 b 0
        · rw [if_pos y, y, ← eits, eI]
        · rw [if_neg y]; exact o.2.2.2.2.2 i i0 (by omega)
      · have y1 := s9 (300 + b.toNat) (by omega)
        have y2 := s9 (320 + b.toNat) (by omega)
        rw [if_neg z, y1.1, y1.2.2.1, y1.2.2.2, y2.1, y2.2.1, y2.2.2.2]
        exact o
    · have y1 := s9 (300 + b.toNat) (by omega)
      have y2 := s9 (320 + b.toNat) (by omega)
      rw [y1.1, y2.1]
      exact R.xa.2 b b0 b1
  have xv : RCv B h' := by
    refine ⟨fun w hw => ?_, ?_, fun n n0 n1 => ?_⟩
    · by_cases z : w = its
      · subst z
        have d4 := D9.2.2.2.1
        have := R.xv.2.1.of (h' := h') d4 (fun n n0 n1 => s9 n (by omega))
        rw [← eN, ← eD] at this
        unfold VPub VObj at *
        rw [eV, eI, b3, b4, b6, b8, e 9 (by decide), e 10 (by decide), v9.2.1, v9.2.2]
        obtain ⟨y1, y2, y3, y4, y5⟩ := this
        refine ⟨y1, y2, fun i i0 i1 => ?_, fun i i0 i1 => ?_, y5⟩
        · rw [b5 _ (by omega) (by omega), b5 _ (by omega) (by omega), b5 _ (by omega) (by omega), b5 _ (by omega) (by omega)]
          exact y3 i i0 i1
        · simp only []
          rw [b7 i i0 i1]
          exact y4 i i0 i1
      · have hw2 := hx w hw z
        have hn := vN_dr G9 hw2
        have c6 := (V9.2.2.2.2.1 w hw2).2.2.2.1
        have := (R.xv.1 w hw2).of (h' := h') c6 (fun n n0 n1 => s9 n (by omega))
        unfold VPub at *
        rw [eV, e 9 (by decide), e 10 (by decide), eo 3 w 0 (by decide) z, eo 4 w 0 (by decide) z, eo 6 w 0 (by decide) z, eo 8 w 0 (by decide) z, show B 5 w = A 5 w from funext fun j => eo 5 w j (by decide) z, show B 7 w = A 7 w from funext fun j => eo 7 w j (by decide) z]
        exact this
    · unfold VDra VObj
      rw [b102, show 10000 + 20 * (N + 1).toNat = D + 20 by omega, b11, b12, b14]
      refine ⟨kD, ⟨by rw [mD]; rfl, by rw [mD]; rfl, by rw [mD]; rfl, by rw [mD]; rfl, by rw [mD]; rfl, by rw [mD]; rfl⟩, fun i i0 i1 => by omega, fun i i0 i1 => by omega, fun i i0 i1 => ?_⟩
      rw [(s9 (D + 20 + 3 + i.toNat) (by omega)).1]
      exact R.xv.2.2 _ (by omega) (by omega)
    · rw [b102] at n0
      rw [(s9 n (by omega)).1]
      exact R.xv.2.2 n (by omega) n1
  exact ⟨xx, xa, xv, R.xs.of a16 (E9 _ (by decide)) (fun n n0 n1 => s9 n (by omega)), R.xo.of2 a16 (E9 [16] (by decide) 16 (by decide)) (fun n t c t0 t1 c0 c1 n0 n1 => s9 n (by unfold cN at n0 n1; omega)), R.xk.of2 a16 G9 (E9 _ (by decide)) (fun n t c t0 t1 c0 c1 n0 n1 => s9 n (by unfold cN at n0 n1; omega)), R.xt.of2 a16 G9 (E9 _ (by decide)) (fun n t c t0 t1 c0 c1 n0 n1 => s9 n (by unfold cN at n0 n1; omega)), R.xi.of2 a16 G9 (E9 _ (by decide)) (fun n t c t0 t1 c0 c1 n0 n1 => s9 n (by unfold cN at n0 n1; omega)), R.xm.of a36 (E9 _ (by decide)) (fun n hn => ⟨(s9 n (by omega)).1, (s9 n (by omega)).2.1, fun k _ => congrFun (s9 n (by omega)).2.2.1 k, (s9 n (by omega)).2.2.2⟩), R.xu.of (E9 [32] (by decide) 32 (by decide)) (E9 [33] (by decide) 33 (by decide)) (congrFun (s9 16 (by omega)).2.2.1 5), R.xc.of (E9 _ (by decide)) (fun n hn => s9 n (by omega)) (fun n n0 n1 => ⟨(s9 n (by omega)).1, (s9 n (by omega)).2.1⟩), R.xn.of a47 (E9 _ (by decide)) (fun n n0 n1 => s9 n (by omega)), R.xd.of a51 (E9 _ (by decide)) (fun n n0 n1 => s9 n (by omega))⟩
