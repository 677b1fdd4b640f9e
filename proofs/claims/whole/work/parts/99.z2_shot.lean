theorem perm_sur {A : AS} (G : IvG A) {s k : Int} (s0 : 0 ≤ s) (s1 : s < 5) (k0 : 0 ≤ k) (k1 : k < 16) : ∃ p, 0 ≤ p ∧ p < 16 ∧ A 105 s p = k := by
  by_cases q : ∃ p, 0 ≤ p ∧ p < 16 ∧ A 105 s p = k
  · exact q
  · exfalso
    have g6 := G.2.2.2.2.2.1
    have g7 := G.2.2.2.2.2.2.1
    have := inj_fn 0 16 17 (fun i => if i < 16 then A 105 s i else k) (fun i hi => by
      split
      · have := g6 s i s0 s1 (by omega) (by omega); omega
      · omega) (fun i j hij hj => by
      by_cases y : j < 16
      · rw [if_pos (by omega), if_pos y]; exact g7 s i j s0 s1 (by omega) (by omega) (by omega)
      · rw [if_pos (by omega), if_neg y]; exact fun w => q ⟨i, by omega, by omega, w⟩)
    omega
theorem as1_16 {A : AS} : as1 A 16 0 0 = A 16 0 0 + 1 := by unfold as1; rw [up_s]
theorem as1_28 {A : AS} {t : Int} : as1 A 28 t 0 = if t = A 16 0 0 then 1 else A 28 t 0 := by unfold as1; rw [up_f (by decide), up_at]; simp
/-- a shot of no frames is there -/
theorem RC.snew {c : Int} {A : AS} {h h1 h' : Mh} (R : RC A h) (T : Stx A) (I : IvS c A) {M : Int} (eM : M = A 16 0 0) (hM : 0 ≤ M ∧ M < 5) (W : NewS h h1 (sN M) M (fun p => cN M (A 105 M p)) 16) (e' : h' = setI (setR h1 12 M (some (sN M))) 2 6 (M + 1)) : RC (as1 A) h' := by
  obtain ⟨V9, D9, a16, a36, a47, a51, G9⟩ := T
  obtain ⟨w1, w2, w3, w4, w5⟩ := W
  have hM0 := hM.1
  have hM1 := hM.2
  have hb : sN M = 20000 + 200 * M.toNat := rfl
  have hc : ∀ t k, cN t k = 20010 + 200 * t.toNat + 10 * k.toNat := fun t k => rfl
  have g6 := G9.2.2.2.2.2.1
  have i5 := I.2.2.2.2.1 M (by omega) hM1
  have i9 := I.2.2.2.2.2.2.2.2.1
  have e : ∀ g, g ≠ 16 → g ≠ 28 → as1 A g = A g := fun g q1 q2 => as1_f q1 q2
  have b16 : as1 A 16 0 0 = M + 1 := by rw [as1_16, eM]
  have b28 : ∀ t, as1 A 28 t 0 = if t = M then 1 else A 28 t 0 := fun t => by rw [as1_28, eM]
  have u : ∀ m, (m < sN M ∨ sN M + 200 ≤ m) → Sam h h1 m := fun m hm => w1 m (by omega) (fun p q0 q1 => by
    have := g6 M p hM0 hM1 q0 q1
    show m < cN M (A 105 M p) ∨ cN M (A 105 M p) + 5 ≤ m
    rw [hc]; omega)
  have s9 : ∀ m, (m < 20000 + 200 * M.toNat ∨ 20200 + 200 * M.toNat ≤ m) ∧ m ≠ 2 ∧ m ≠ 12 → Sam h h' m := fun m hm => by rw [e']; exact ((u m (by omega)).setR hm.2.2).setI hm.2.1
  have E9 : ∀ L : List Nat, (∀ f, f ∈ [16, 28] → f ∉ L) → ∀ g, g ∈ L → as1 A g = A g := fun L hL g hg => e g (fun q => hL 16 (by simp) (q ▸ hg)) (fun q => hL 28 (by simp) (q ▸ hg))
  have c1 : Kd h' = Kd h1 := by rw [e']; rfl
  have c2 : Ln h' = Ln h1 := by rw [e']; rfl
  have mi : ∀ m, m ≠ 2 → Mi h' m = Mi h1 m := fun m hm => by rw [e']; funext i; rw [Mi_setI, if_neg (fun q => hm q.1), Mi_setR]
  have mr : ∀ m, m ≠ 12 → Mr h' m = Mr h1 m := fun m hm => by rw [e']; funext i; rw [Mr_setI, Mr_setR, if_neg (fun q => hm q.1)]
  have u2 := u 2 (by omega)
  have u12 := u 12 (by omega)
  have m2 : ∀ k : Int, k ≠ 6 → Mi h' 2 k = Mi h 2 k := fun k hk => by rw [e', Mi_setI, if_neg (fun q => hk q.2), Mi_setR, u2.2.2.1]
  have xx : RCx (as1 A) h' := by
    refine RCx.upd R (by rw [c1, u2.1]) (fun k _ => by rw [mr 2 (by decide), u2.2.2.2]) (fun n n0 n1 => ?_) ?_ ?_ ?_ ?_ ?_ ?_ (fun a a0 a1 => ?_) (fun a a0 a1 => ?_) (fun a a0 a1 => ?_) (fun a a0 a1 => ?_) (fun a a0 a1 => ?_)
    · have un := u n (by omega)
      rw [c1, c2]; exact ⟨un.1, un.2.1⟩
    · rw [m2 1 (by decide), e 1 (by decide) (by decide)]; exact rx9 R
    · rw [m2 3 (by decide), e 102 (by decide) (by decide)]; exact rx10 R
    · rw [mr 2 (by decide), u2.2.2.2, e 102 (by decide) (by decide)]; exact rx11 R
    · rw [e', Mi_setI, if_pos ⟨rfl, rfl⟩, b16]
    · rw [m2 10 (by decide), e 47 (by decide) (by decide)]; exact rx13 R
    · rw [m2 12 (by decide), e 51 (by decide) (by decide)]; exact rx14 R
    · rw [e 1 (by decide) (by decide)] at a1
      rw [(s9 10 (by omega)).2.2.2]; exact rxA R a0 a1
    · rw [e 102 (by decide) (by decide)] at a1
      rw [(s9 11 (by omega)).2.2.2]; exact rxP R a0 a1
    · rw [b16] at a1
      rw [e', Mr_setI, Mr_setR]
      by_cases z : a = M
      · rw [if_pos ⟨rfl, z⟩, z]
      · rw [if_neg (fun q => z q.2), u12.2.2.2]; exact rxS R a0 (by omega)
    · rw [e 47 (by decide) (by decide)] at a1
      rw [(s9 13 (by omega)).2.2.2]; exact rxN R a0 a1
    · rw [e 51 (by decide) (by decide)] at a1
      rw [(s9 14 (by omega)).2.2.2]; exact rxD R a0 a1
  have xs : RCs (as1 A) h' := by
    refine ⟨fun t t0 t1 => ?_, fun n n0 n1 => ?_⟩
    · rw [b16] at t1
      by_cases z : t = M
      · subst z
        unfold SObj
        rw [c1, c2, mr (sN t) (by omega), mr (sN t + 1) (by omega), mr (sN t + 3) (by omega), mi (sN t) (by omega), b28, if_pos rfl, e 17 (by decide) (by decide), e 20 (by decide) (by decide), e 22 (by decide) (by decide), e 23 (by decide) (by decide), e 27 (by decide) (by decide), e 29 (by decide) (by decide), e 30 (by decide) (by decide), e 31 (by decide) (by decide), e 105 (by decide) (by decide), pN_of (e 100 (by decide) (by decide))]
        simp only [w3, w4]
        obtain ⟨v1, v2, v3, v4, v5, v6, v7, v8, v9, v10⟩ := w2
        refine ⟨⟨v1, v2, v3, v4, v5, v6, v7, v8, v9, v10, rfl⟩, ⟨?_, ?_, ?_, ?_, rfl, ?_, ?_, ?_⟩, fun p q0 q1 => (w5 p q0 q1).1, fun k k0 k1 => ?_⟩
        · rw [i5.1]; rfl
        · rw [i5.2.1]; rfl
        · rw [i5.2.2.1]; rfl
        · rw [i5.2.2.2.1]; rfl
        · rw [i5.2.2.2.2.2.2]; rfl
        · rw [i5.2.2.2.2.1]; rfl
        · rw [i5.2.2.2.2.2.1]; rfl
        · unfold pN; rw [i9 t k (by omega) hM1 k0 k1, if_pos rfl]
      · exact (R.xs.1 t t0 (by omega)).of2 (fun g hg => by
          by_cases y : g = 28
          · rw [y, b28, if_neg z]
          · rw [e g (fun q => by subst q; revert hg; decide) y]) (by rw [e 105 (by decide) (by decide)]) (by rw [e 22 (by decide) (by decide)]) (e 100 (by decide) (by decide)) (fun n n0 n1 => s9 n (by unfold sN at n0 n1; omega))
    · rw [b16] at n0
      rw [(s9 n (by omega)).1]
      exact R.xs.2 n (by omega) n1
  have nw : ∀ p, 0 ≤ p → p < 16 → Fnew h' (sN M) (cN M (A 105 M p)) := fun p q0 q1 => by
    have gg := g6 M p hM0 hM1 q0 q1
    refine (w5 p q0 q1).2.of (fun m m0 m1 => ?_)
    have m0 : cN M (A 105 M p) ≤ m := m0
    rw [hc] at m0
    exact ⟨by rw [c1], by rw [c2], mi m (by omega), mr m (by omega)⟩
  have xo : RCo (as1 A) h' := by
    intro t k t0 t1 k0 k1
    rw [b16] at t1
    by_cases z : t = M
    · subst z
      obtain ⟨p, q0, q1, q2⟩ := perm_sur G9 t0 hM1 k0 k1
      have := (nw p q0 q1).1
      rw [q2] at this
      exact this
    · exact (R.xo t k t0 (by omega) k0 k1).of (fun n n0 n1 => s9 n (by rw [hc] at n0 n1; omega))
  have xk : RCk (as1 A) h' := by
    intro t p t0 t1 q0 q1
    rw [b16] at t1
    unfold FKey FNam
    rw [e 17 (by decide) (by decide), e 18 (by decide) (by decide), e 21 (by decide) (by decide), e 24 (by decide) (by decide), e 25 (by decide) (by decide), e 105 (by decide) (by decide)]
    have gg := g6 t p t0 (by omega) q0 q1
    by_cases z : t = M
    · subst z
      rw [i5.1]
      exact ⟨fun l l0 l1 => ⟨fun w => by omega, fun _ => (nw p q0 q1).2.2 l⟩, fun w => by omega⟩
    · rw [(s9 (cN t (A 105 t p)) (by rw [hc]; omega)).2.2.1, (s9 (cN t (A 105 t p) + 1) (by rw [hc]; omega)).2.2.1, (s9 (cN t (A 105 t p) + 2) (by rw [hc]; omega)).2.2.1]
      exact R.xk t p t0 (by omega) q0 q1
  have xt : RCt (as1 A) h' := by
    intro t p t0 t1 q0 q1
    rw [b16] at t1
    unfold FSta
    rw [e 17 (by decide) (by decide), e 18 (by decide) (by decide), e 44 (by decide) (by decide), e 105 (by decide) (by decide)]
    have gg := g6 t p t0 (by omega) q0 q1
    by_cases z : t = M
    · subst z
      rw [i5.1]
      exact ⟨fun w => by omega, fun _ => (nw p q0 q1).2.1 4⟩
    · have x := R.xt t p t0 (by omega) q0 q1
      unfold FSta at x
      rw [(s9 (cN t (A 105 t p)) (by rw [hc]; omega)).2.2.1]
      exact ⟨fun w => ⟨Whr_of (e 36 (by decide) (by decide)) (e 39 (by decide) (by decide)) (e 42 (by decide) (by decide)) (e 43 (by decide) (by decide)) (x.1 w).1, (x.1 w).2⟩, x.2⟩
  have xi : RCi (as1 A) h' := by
    intro t p t0 t1 q0 q1
    rw [b16] at t1
    unfold FImg
    rw [e 17 (by decide) (by decide), e 18 (by decide) (by decide), e 32 (by decide) (by decide), e 34 (by decide) (by decide), e 105 (by decide) (by decide), pN_of (e 100 (by decide) (by decide))]
    have gg := g6 t p t0 (by omega) q0 q1
    by_cases z : t = M
    · subst z
      rw [i5.1]
      exact ⟨fun w => by omega, fun _ => (nw p q0 q1).2.1 6⟩
    · rw [(s9 (cN t (A 105 t p)) (by rw [hc]; omega)).2.2.1, (s9 (cN t (A 105 t p) + 3) (by rw [hc]; omega)).2.2.2, (s9 (cN t (A 105 t p) + 4) (by rw [hc]; omega)).2.2.1]
      exact R.xi t p t0 (by omega) q0 q1
  have xn : RCn (as1 A) h' := by
    have y := R.xn
    unfold RCn at *
    rw [e 17 (by decide) (by decide), e 18 (by decide) (by decide), e 20 (by decide) (by decide), e 21 (by decide) (by decide), e 47 (by decide) (by decide), e 48 (by decide) (by decide), e 49 (by decide) (by decide), e 50 (by decide) (by decide), b16]
    refine ⟨fun k k0 k1 => ?_, fun n n0 n1 => ?_⟩
    · have w := s9 (30000 + k.toNat) (by omega)
      rw [w.1, w.2.2.1, w.2.2.2]
      obtain ⟨n1, n2, n3, n4, n5⟩ := y.1 k k0 k1
      refine ⟨n1, n2, n3, n4, fun v => ?_⟩
      obtain ⟨t, x0, x1, x2, x3, x4⟩ := n5 v
      exact ⟨t, x0, by omega, x2, x3, x4⟩
    · rw [(s9 n (by omega)).1]; exact y.2 n n0 n1
  exact ⟨xx, R.xa.of (E9 _ (by decide)) (fun n n0 n1 => s9 n (by omega)), R.xv.of V9 D9 G9 (E9 _ (by decide)) (fun n n0 n1 => s9 n (by omega)), xs, xo, xk, xt, xi, R.xm.of a36 (E9 _ (by decide)) (fun n hn => ⟨(s9 n (by omega)).1, (s9 n (by omega)).2.1, fun k _ => congrFun (s9 n (by omega)).2.2.1 k, (s9 n (by omega)).2.2.2⟩), R.xu.of (E9 [32] (by decide) 32 (by decide)) (E9 [33] (by decide) 33 (by decide)) (congrFun (s9 16 (by omega)).2.2.1 5), R.xc.of (E9 _ (by decide)) (fun n hn => s9 n (by omega)) (fun n n0 n1 => ⟨(s9 n (by omega)).1, (s9 n (by omega)).2.1⟩), xn, R.xd.of a51 (E9 _ (by decide)) (fun n n0 n1 => s9 n (by omega))⟩
theorem Put.lift {h1 h2 : Mh} {S : Nat} {N m pl nn : Int} {c : Int → Nat} (U : Put h1 h2 S N m pl nn c) {M : Int} {x : Nat} (hS : 100 < S) (hc : ∀ p, N ≤ p → p < N + m → 100 < c p) : Put (setI (setR h1 12 M (some x)) 2 6 (M + 1)) (setI (setR h2 12 M (some x)) 2 6 (M + 1)) S N m pl nn c := by
  obtain ⟨u1, u2, u3, u4, u5, u6, u7⟩ := U
  have a1 : ∀ (h : Mh) (n : Nat), 100 < n → ∀ k : Int, Mi (setI (setR h 12 M (some x)) 2 6 (M + 1)) n k = Mi h n k := fun h n hn k => by rw [Mi_setI, if_neg (by omega), Mi_setR]
  refine ⟨by show Kd h2 = Kd h1; exact u1, by show Ln h2 = Ln h1; exact u2, fun n q1 q2 => ?_, fun p q0 q1 => ?_, fun n q1 q2 => ?_, fun k => ?_, fun p q0 q1 k => ?_⟩
  · funext i; rw [Mr_setI, Mr_setI, Mr_setR, Mr_setR, u3 n q1 q2]
  · rw [Mr_setI, Mr_setR, if_neg (by omega)]; exact u4 p q0 q1
  · funext i; rw [Mi_setI, Mi_setI, Mi_setR, Mi_setR, u5 n q1 q2]
  · rw [a1 h2 S hS, a1 h1 S hS]; exact u6 k
  · have := hc p q0 q1
    rw [a1 h2 _ this, a1 h1 _ this]; exact u7 p q0 q1 k
theorem xo_addShot {d : Nat} (hd : 14 ≤ d) {c : Int} {A : AS} {h : Mh} {P : Out → Mh → Prop} {m : Int} (R : RC A h) (T : Stx A) (I : IvS c A) (F : IvF A) (J : IvM c A) (N : IvN A) (H0 : th_addShot A m = 0 → ∀ h', Sx h h' → (∀ g, newF A (A 16 0 0) m g → RC (nx_addShot A m g) h') → P (.inl (some (pI (A 16 0 0)))) h') (H1 : th_addShot A m = 1 → P (.inr eIa) h) (H2 : th_addShot A m = 2 → P (.inr eIs) h) : Ct kX_addShot d [pR (some 2), pI m] h P := by
  have T0 := T
  obtain ⟨V9, D9, a16, a36, a47, a51, G9⟩ := T
  have rx1' := rx1 R
  have rx12' := rx12 R
  have rx4' := rx4 R
  have rx19' := rx19 R
  have rx20' := rx20 R
  refine eX_addShot ?_
  by_cases hm : 1 ≤ m ∧ m ≤ 16
  · by_cases h5 : A 16 0 0 = 5
    · have K9 := H2 (by unfold th_addShot; rw [if_neg (fun q => q hm), if_pos h5])
      clear H0 H1 H2
      repeat' (first | (with_reducible refine And.intro ?_ ?_) | (with_reducible intro _) | (exact Nat.le_of_ble_eq_true rfl) | (refine bX_addShot_0 _ _ _ _ _ ?_; simp only [o_const, o_null, o_lconst, o_iload, o_aload, o_istore, o_astore, o_iinc, o_iadd, o_isub, o_imul, o_idiv, o_irem, o_ineg, o_i2l, o_lcmp, o_dup, o_dup2, o_goto, o_max, o_min, o_objinit, o_icmplt, o_iflt, o_icmpge, o_ifge, o_icmpgt, o_ifgt, o_icmple, o_ifle, o_icmpeq, o_ifeq, o_icmpne, o_ifne, o_ifnull, o_ifnonnull, o_acmpeq, o_acmpne, o_tsw, tsw, o_getI, o_getR, o_putI, o_putZ, o_putR, o_iald, o_bald, o_lald, o_aald, o_iast, o_bast, o_last, o_aast, o_alen, o_new, o_newa, o_iret, o_zret, o_aret, o_vret, o_throw, o_call, o_callV, o_aft_v, o_aft_n, o_aft_x, o_up_e, lget, lset, all1, dr_some, List.take_succ_cons, List.take_zero, List.drop_succ_cons, List.drop_zero, List.reverse_cons, List.reverse_nil, List.nil_append, List.cons_append, List.length_cons, List.length_nil, List.take_nil, List.drop_nil, true_and, and_true, false_and, and_false, true_implies, implies_true, false_implies, ne_eq, not_true_eq_false, not_false_eq_true, reduceCtorEq, Option.some.injEq, if_true, if_false, ite_true, ite_false, Nat.zero_add, eq_self, okn_some, okn_none, forall_const, true_or, or_true, false_or, or_false, Option.map_some, Option.map_none, Kd_setI, Ln_setI, Mr_setI, Kd_setR, Ln_setR, Mi_setR, Int.reduceNatCast', Int.reduceNeg, Int.reduceAdd, Int.reduceSub, Int.reduceMul, Int.reduceEq, Int.reduceNe, Int.reduceLT, Int.reduceLE, Nat.reduceAdd, Nat.reduceSub, Nat.reduceLT, Nat.reduceLeDiff, Nat.reduceEqDiff, Mi_setI, rx1', rx12']) | (refine bX_addShot_19 _ _ _ _ _ ?_; simp only [o_const, o_null, o_lconst, o_iload, o_aload, o_istore, o_astore, o_iinc, o_iadd, o_isub, o_imul, o_idiv, o_irem, o_ineg, o_i2l, o_lcmp, o_dup, o_dup2, o_goto, o_max, o_min, o_objinit, o_icmplt, o_iflt, o_icmpge, o_ifge, o_icmpgt, o_ifgt, o_icmple, o_ifle, o_icmpeq, o_ifeq, o_icmpne, o_ifne, o_ifnull, o_ifnonnull, o_acmpeq, o_acmpne, o_tsw, tsw, o_getI, o_getR, o_putI, o_putZ, o_putR, o_iald, o_bald, o_lald, o_aald, o_iast, o_bast, o_last, o_aast, o_alen, o_new, o_newa, o_iret, o_zret, o_aret, o_vret, o_throw, o_call, o_callV, o_aft_v, o_aft_n, o_aft_x, o_up_e, lget, lset, all1, dr_some, List.take_succ_cons, List.take_zero, List.drop_succ_cons, List.drop_zero, List.reverse_cons, List.reverse_nil, List.nil_append, List.cons_append, List.length_cons, List.length_nil, List.take_nil, List.drop_nil, true_and, and_true, false_and, and_false, true_implies, implies_true, false_implies, ne_eq, not_true_eq_false, not_false_eq_true, reduceCtorEq, Option.some.injEq, if_true, if_false, ite_true, ite_false, Nat.zero_add, eq_self, okn_some, okn_none, forall_const, true_or, or_true, false_or, or_false, Option.map_some, Option.map_none, Kd_setI, Ln_setI, Mr_setI, Kd_setR, Ln_setR, Mi_setR, Int.reduceNatCast', Int.reduceNeg, Int.reduceAdd, Int.reduceSub, Int.reduceMul, Int.reduceEq, Int.reduceNe, Int.reduceLT, Int.reduceLE, Nat.reduceAdd, Nat.reduceSub, Nat.reduceLT, Nat.reduceLeDiff, Nat.reduceEqDiff, Mi_setI, rx1', rx12']) | (refine bX_addShot_20 _ _ _ _ _ ?_; simp only [o_const, o_null, o_lconst, o_iload, o_aload, o_istore, o_astore, o_iinc, o_iadd, o_isub, o_imul, o_idiv, o_irem, o_ineg, o_i2l, o_lcmp, o_dup, o_dup2, o_goto, o_max, o_min, o_objinit, o_icmplt, o_iflt, o_icmpge, o_ifge, o_icmpgt, o_ifgt, o_icmple, o_ifle, o_icmpeq, o_ifeq, o_icmpne, o_ifne, o_ifnull, o_ifnonnull, o_acmpeq, o_acmpne, o_tsw, tsw, o_getI, o_getR, o_putI, o_putZ, o_putR, o_iald, o_bald, o_lald, o_aald, o_iast, o_bast, o_last, o_aast, o_alen, o_new, o_newa, o_iret, o_zret, o_aret, o_vret, o_throw, o_call, o_callV, o_aft_v, o_aft_n, o_aft_x, o_up_e, lget, lset, all1, dr_some, List.take_succ_cons, List.take_zero, List.drop_succ_cons, List.drop_zero, List.reverse_cons, List.reverse_nil, List.nil_append, List.cons_append, List.length_cons, List.length_nil, List.take_nil, List.drop_nil, true_and, and_true, false_and, and_false, true_implies, implies_true, false_implies, ne_eq, not_true_eq_false, not_false_eq_true, reduceCtorEq, Option.some.injEq, if_true, if_false, ite_true, ite_false, Nat.zero_add, eq_self, okn_some, okn_none, forall_const, true_or, or_true, false_or, or_false, Option.map_some, Option.map_none, Kd_setI, Ln_setI, Mr_setI, Kd_setR, Ln_setR, Mi_setR, Int.reduceNatCast', Int.reduceNeg, Int.reduceAdd, Int.reduceSub, Int.reduceMul, Int.reduceEq, Int.reduceNe, Int.reduceLT, Int.reduceLE, Nat.reduceAdd, Nat.reduceSub, Nat.reduceLT, Nat.reduceLeDiff, Nat.reduceEqDiff, Mi_setI, rx1', rx12']) | (refine c_X_requireRange (by omega) (fun z9 => ?_) (fun z9 => absurd hm z9)) | (refine c_X_requireState (by omega) (fun z9 => absurd rfl z9) (fun z9 => ?_)) | (simp only [o_const, o_null, o_lconst, o_iload, o_aload, o_istore, o_astore, o_iinc, o_iadd, o_isub, o_imul, o_idiv, o_irem, o_ineg, o_i2l, o_lcmp, o_dup, o_dup2, o_goto, o_max, o_min, o_objinit, o_icmplt, o_iflt, o_icmpge, o_ifge, o_icmpgt, o_ifgt, o_icmple, o_ifle, o_icmpeq, o_ifeq, o_icmpne, o_ifne, o_ifnull, o_ifnonnull, o_acmpeq, o_acmpne, o_tsw, tsw, o_getI, o_getR, o_putI, o_putZ, o_putR, o_iald, o_bald, o_lald, o_aald, o_iast, o_bast, o_last, o_aast, o_alen, o_new, o_newa, o_iret, o_zret, o_aret, o_vret, o_throw, o_call, o_callV, o_aft_v, o_aft_n, o_aft_x, o_up_e, lget, lset, all1, dr_some, List.take_succ_cons, List.take_zero, List.drop_succ_cons, List.drop_zero, List.reverse_cons, List.reverse_nil, List.nil_append, List.cons_append, List.length_cons, List.length_nil, List.take_nil, List.drop_nil, true_and, and_true, false_and, and_false, true_implies, implies_true, false_implies, ne_eq, not_true_eq_false, not_false_eq_true, reduceCtorEq, Option.some.injEq, if_true, if_false, ite_true, ite_false, Nat.zero_add, eq_self, okn_some, okn_none, forall_const, true_or, or_true, false_or, or_false, Option.map_some, Option.map_none, Kd_setI, Ln_setI, Mr_setI, Kd_setR, Ln_setR, Mi_setR, Int.reduceNatCast', Int.reduceNeg, Int.reduceAdd, Int.reduceSub, Int.reduceMul, Int.reduceEq, Int.reduceNe, Int.reduceLT, Int.reduceLE, Nat.reduceAdd, Nat.reduceSub, Nat.reduceLT, Nat.reduceLeDiff, Nat.reduceEqDiff, Mi_setI, rx1', rx12']) | (unfold rng; omega) | omega)
      all_goals first | exact K9 | (exfalso; omega) | done
    · have e : th_addShot A m = 0 := by unfold th_addShot; rw [if_neg (fun q => q hm), if_neg h5]
      obtain ⟨M, eM⟩ : ∃ M, M = A 16 0 0 := ⟨_, rfl⟩
      have i1 := I.1
      have hM : 0 ≤ M ∧ M < 5 := by omega
      have i5 := I.2.2.2.2.1 M (by omega) hM.2
      have hb : sN M = 20000 + 200 * M.toNat := rfl
      have hcn : ∀ k, cN M k = 20010 + 200 * M.toNat + 10 * k.toNat := fun k => rfl
      have g6 := G9.2.2.2.2.2.1
      have hz : ∀ n, sN M ≤ n → n < sN M + 200 → Kd h n = 0 := fun n n0 n1 => R.xs.2 n (by omega) (by omega)
      have KF : ∀ h1 h', NewS h h1 (sN M) M (fun p => cN M (A 105 M p)) 16 → Put h1 h' (sN M) 0 m 0 0 (fun p => cN M (A 105 M p)) → P (.inl (some (pI M))) (setI (setR h' 12 M (some (sN M))) 2 6 (M + 1)) ∧ Kd h' 2 = 11 ∧ Mi h' 2 6 = M ∧ Kd h' 12 = 38 ∧ Ln h' 12 = 5 ∧ Kd h' (sN M) = 9 := fun h1 h' W U => by
        have R1 := R.snew T0 I eM hM W rfl
        have U1 := U.lift (M := M) (x := sN M) (by omega) (fun p q0 q1 => by show 100 < cN M (A 105 M p); rw [hcn]; omega)
        have T1 : Stx (as1 A) := ⟨V9.of (fun g hg => as1_f (fun q => by subst q; revert hg; decide) (fun q => by subst q; revert hg; decide)), D9.of (fun g hg => as1_f (fun q => by subst q; revert hg; decide) (fun q => by subst q; revert hg; decide)), by rw [as1_16, ← eM]; omega, by rw [as1_f (by decide) (by decide)]; exact a36, by rw [as1_f (by decide) (by decide)]; exact a47, by rw [as1_f (by decide) (by decide)]; exact a51, by
          unfold IvG exv at *
          rw [as1_f (f := 1) (by decide) (by decide), as1_f (f := 2) (by decide) (by decide), as1_f (f := 6) (by decide) (by decide), as1_f (f := 7) (by decide) (by decide), as1_f (f := 17) (by decide) (by decide), as1_f (f := 18) (by decide) (by decide), as1_f (f := 100) (by decide) (by decide), as1_f (f := 101) (by decide) (by decide), as1_f (f := 102) (by decide) (by decide), as1_f (f := 103) (by decide) (by decide), as1_f (f := 105) (by decide) (by decide)]
          exact G9⟩
        have Y1 : Cmy (as1 A) := by
          have := Cmy_of I
          unfold Cmy actv at *
          rw [as1_f (f := 17) (by decide) (by decide), as1_f (f := 18) (by decide) (by decide), as1_f (f := 24) (by decide) (by decide)]
          exact this
        have F1 : IvF (as1 A) := F.of (fun g hg => as1_f (fun q => by subst q; revert hg; decide) (fun q => by subst q; revert hg; decide))
        have J1 : IvM c (as1 A) := J.of (fun g hg => as1_f (fun q => by subst q; revert hg; decide) (fun q => by subst q; revert hg; decide))
        have N1 : IvN (as1 A) := N.of (fun g hg => as1_f (fun q => by subst q; revert hg; decide) (fun q => by subst q; revert hg; decide))
        have e17 : as1 A 17 M 0 = 0 := by rw [as1_f (by decide) (by decide)]; exact i5.1
        have e20 : as1 A 20 M 0 = 0 := by rw [as1_f (by decide) (by decide)]; exact i5.2.1
        have e105 : as1 A 105 = A 105 := as1_f (by decide) (by decide)
        have hsx : ∀ n, n ≠ 2 → n < 10 ∨ (1000 ≤ n ∧ n < 10000) → Sam h h' n := fun n n2 nr => by
          have y1 := W.1 n (by omega) (fun p q0 q1 => by show n < cN M (A 105 M p) ∨ _; rw [hcn]; omega)
          have y2 := (Put.sx (A := A) U) n n2 nr
          exact y1.trans y2
        have y2 := W.1 2 (by omega) (fun p q0 q1 => by show 2 < cN M (A 105 M p) ∨ _; rw [hcn]; omega)
        have y12 := W.1 12 (by omega) (fun p q0 q1 => by show 12 < cN M (A 105 M p) ∨ _; rw [hcn]; omega)
        refine ⟨?_, by rw [U.1, y2.1]; exact rx1', ?_, by rw [U.1, y12.1]; exact rx19', by rw [U.2.1, y12.2.1]; exact rx20', by rw [U.1]; exact W.2.1.1⟩
        · rw [eM]
          refine H0 e _ (fun n n2 nr => (((hsx n n2 nr)).setR (by omega)).setI n2) (fun g nf => ?_)
          unfold nx_addShot
          rw [if_pos e, ← eM]
          have := R1.comes T1 Y1 F1 J1 N1 (s := M) (pl := 0) (m := m) (g := g) ⟨hM.1, by rw [as1_16, ← eM]; omega⟩ (by rw [eM]; exact nf.of (as1_f (by decide) (by decide)) (as1_f (by decide) (by decide))) (by omega) (by rw [e17]; omega) hm.1 (by rw [e17]; omega) (by rw [e17, e20, e105]; exact U1)
          rw [up_same (by rw [nx_comes_f (by decide), as1_f (by decide) (by decide)]; exact i5.2.2.2.2.2.2)] at this
          exact this
        · rw [U.2.2.2.2.1 2 (by omega) (fun p q0 q1 => by show 2 ≠ cN M (A 105 M p); rw [hcn]; omega), y2.2.2.1, eM]; exact rx12'
      have KW := fun (Q : Out → Mh → Prop) (HH) => c_Sh_withFrames (d := d - 1) (by omega) (h := h) (P := Q) (S := sN M) (x := M) (m := m) (c := fun p => cN M (A 105 M p)) (by omega) (fun i hi => hz _ (by omega) (by omega)) (fun p q0 q1 => by show sN M + 4 ≤ cN M (A 105 M p); rw [hcn]; omega) (fun p q a b c' d' ne => by
        have := cN_ne G9 (s := M) (t := M) (p := q) (q := p) hM.1 hM.2 hM.1 hM.2 c' d' a b (fun w => ne w.2)
        show cN M (A 105 M p) + 5 ≤ cN M (A 105 M q) ∨ cN M (A 105 M q) + 5 ≤ cN M (A 105 M p)
        omega) (fun p q0 q1 i hi => by
        have := g6 M p hM.1 hM.2 q0 q1
        refine hz _ ?_ ?_
        · show sN M ≤ cN M (A 105 M p) + i; rw [hcn]; omega
        · show cN M (A 105 M p) + i < sN M + 200; rw [hcn]; omega) hm.1 hm.2 HH
      rw [← eM] at rx12' h5
      obtain ⟨hM0, hM1⟩ := hM
      clear H0 H1 H2 hz g6
      repeat' (first | (with_reducible refine And.intro ?_ ?_) | (with_reducible intro _) | (exact Nat.le_of_ble_eq_true rfl) | (refine bX_addShot_0 _ _ _ _ _ ?_; simp only [o_const, o_null, o_lconst, o_iload, o_aload, o_istore, o_astore, o_iinc, o_iadd, o_isub, o_imul, o_idiv, o_irem, o_ineg, o_i2l, o_lcmp, o_dup, o_dup2, o_goto, o_max, o_min, o_objinit, o_icmplt, o_iflt, o_icmpge, o_ifge, o_icmpgt, o_ifgt, o_icmple, o_ifle, o_icmpeq, o_ifeq, o_icmpne, o_ifne, o_ifnull, o_ifnonnull, o_acmpeq, o_acmpne, o_tsw, tsw, o_getI, o_getR, o_putI, o_putZ, o_putR, o_iald, o_bald, o_lald, o_aald, o_iast, o_bast, o_last, o_aast, o_alen, o_new, o_newa, o_iret, o_zret, o_aret, o_vret, o_throw, o_call, o_callV, o_aft_v, o_aft_n, o_aft_x, o_up_e, lget, lset, all1, dr_some, List.take_succ_cons, List.take_zero, List.drop_succ_cons, List.drop_zero, List.reverse_cons, List.reverse_nil, List.nil_append, List.cons_append, List.length_cons, List.length_nil, List.take_nil, List.drop_nil, true_and, and_true, false_and, and_false, true_implies, implies_true, false_implies, ne_eq, not_true_eq_false, not_false_eq_true, reduceCtorEq, Option.some.injEq, if_true, if_false, ite_true, ite_false, Nat.zero_add, eq_self, okn_some, okn_none, forall_const, true_or, or_true, false_or, or_false, Option.map_some, Option.map_none, Kd_setI, Ln_setI, Mr_setI, Kd_setR, Ln_setR, Mi_setR, Int.reduceNatCast', Int.reduceNeg, Int.reduceAdd, Int.reduceSub, Int.reduceMul, Int.reduceEq, Int.reduceNe, Int.reduceLT, Int.reduceLE, Nat.reduceAdd, Nat.reduceSub, Nat.reduceLT, Nat.reduceLeDiff, Nat.reduceEqDiff, Mi_setI, rx1', rx12', rx4', rx19', rx20']) | (refine bX_addShot_19 _ _ _ _ _ ?_; simp only [o_const, o_null, o_lconst, o_iload, o_aload, o_istore, o_astore, o_iinc, o_iadd, o_isub, o_imul, o_idiv, o_irem, o_ineg, o_i2l, o_lcmp, o_dup, o_dup2, o_goto, o_max, o_min, o_objinit, o_icmplt, o_iflt, o_icmpge, o_ifge, o_icmpgt, o_ifgt, o_icmple, o_ifle, o_icmpeq, o_ifeq, o_icmpne, o_ifne, o_ifnull, o_ifnonnull, o_acmpeq, o_acmpne, o_tsw, tsw, o_getI, o_getR, o_putI, o_putZ, o_putR, o_iald, o_bald, o_lald, o_aald, o_iast, o_bast, o_last, o_aast, o_alen, o_new, o_newa, o_iret, o_zret, o_aret, o_vret, o_throw, o_call, o_callV, o_aft_v, o_aft_n, o_aft_x, o_up_e, lget, lset, all1, dr_some, List.take_succ_cons, List.take_zero, List.drop_succ_cons, List.drop_zero, List.reverse_cons, List.reverse_nil, List.nil_append, List.cons_append, List.length_cons, List.length_nil, List.take_nil, List.drop_nil, true_and, and_true, false_and, and_false, true_implies, implies_true, false_implies, ne_eq, not_true_eq_false, not_false_eq_true, reduceCtorEq, Option.some.injEq, if_true, if_false, ite_true, ite_false, Nat.zero_add, eq_self, okn_some, okn_none, forall_const, true_or, or_true, false_or, or_false, Option.map_some, Option.map_none, Kd_setI, Ln_setI, Mr_setI, Kd_setR, Ln_setR, Mi_setR, Int.reduceNatCast', Int.reduceNeg, Int.reduceAdd, Int.reduceSub, Int.reduceMul, Int.reduceEq, Int.reduceNe, Int.reduceLT, Int.reduceLE, Nat.reduceAdd, Nat.reduceSub, Nat.reduceLT, Nat.reduceLeDiff, Nat.reduceEqDiff, Mi_setI, rx1', rx12', rx4', rx19', rx20']) | (refine bX_addShot_20 _ _ _ _ _ ?_; simp only [o_const, o_null, o_lconst, o_iload, o_aload, o_istore, o_astore, o_iinc, o_iadd, o_isub, o_imul, o_idiv, o_irem, o_ineg, o_i2l, o_lcmp, o_dup, o_dup2, o_goto, o_max, o_min, o_objinit, o_icmplt, o_iflt, o_icmpge, o_ifge, o_icmpgt, o_ifgt, o_icmple, o_ifle, o_icmpeq, o_ifeq, o_icmpne, o_ifne, o_ifnull, o_ifnonnull, o_acmpeq, o_acmpne, o_tsw, tsw, o_getI, o_getR, o_putI, o_putZ, o_putR, o_iald, o_bald, o_lald, o_aald, o_iast, o_bast, o_last, o_aast, o_alen, o_new, o_newa, o_iret, o_zret, o_aret, o_vret, o_throw, o_call, o_callV, o_aft_v, o_aft_n, o_aft_x, o_up_e, lget, lset, all1, dr_some, List.take_succ_cons, List.take_zero, List.drop_succ_cons, List.drop_zero, List.reverse_cons, List.reverse_nil, List.nil_append, List.cons_append, List.length_cons, List.length_nil, List.take_nil, List.drop_nil, true_and, and_true, false_and, and_false, true_implies, implies_true, false_implies, ne_eq, not_true_eq_false, not_false_eq_true, reduceCtorEq, Option.some.injEq, if_true, if_false, ite_true, ite_false, Nat.zero_add, eq_self, okn_some, okn_none, forall_const, true_or, or_true, false_or, or_false, Option.map_some, Option.map_none, Kd_setI, Ln_setI, Mr_setI, Kd_setR, Ln_setR, Mi_setR, Int.reduceNatCast', Int.reduceNeg, Int.reduceAdd, Int.reduceSub, Int.reduceMul, Int.reduceEq, Int.reduceNe, Int.reduceLT, Int.reduceLE, Nat.reduceAdd, Nat.reduceSub, Nat.reduceLT, Nat.reduceLeDiff, Nat.reduceEqDiff, Mi_setI, rx1', rx12', rx4', rx19', rx20']) | (refine c_X_requireRange (by omega) (fun z9 => ?_) (fun z9 => absurd hm z9)) | (refine c_X_requireState (by omega) (fun z9 => ?_) (fun z9 => absurd z9 (by decide))) | (refine KW _ (fun h1 h' W U => ?_)) | (simp only [o_const, o_null, o_lconst, o_iload, o_aload, o_istore, o_astore, o_iinc, o_iadd, o_isub, o_imul, o_idiv, o_irem, o_ineg, o_i2l, o_lcmp, o_dup, o_dup2, o_goto, o_max, o_min, o_objinit, o_icmplt, o_iflt, o_icmpge, o_ifge, o_icmpgt, o_ifgt, o_icmple, o_ifle, o_icmpeq, o_ifeq, o_icmpne, o_ifne, o_ifnull, o_ifnonnull, o_acmpeq, o_acmpne, o_tsw, tsw, o_getI, o_getR, o_putI, o_putZ, o_putR, o_iald, o_bald, o_lald, o_aald, o_iast, o_bast, o_last, o_aast, o_alen, o_new, o_newa, o_iret, o_zret, o_aret, o_vret, o_throw, o_call, o_callV, o_aft_v, o_aft_n, o_aft_x, o_up_e, lget, lset, all1, dr_some, List.take_succ_cons, List.take_zero, List.drop_succ_cons, List.drop_zero, List.reverse_cons, List.reverse_nil, List.nil_append, List.cons_append, List.length_cons, List.length_nil, List.take_nil, List.drop_nil, true_and, and_true, false_and, and_false, true_implies, implies_true, false_implies, ne_eq, not_true_eq_false, not_false_eq_true, reduceCtorEq, Option.some.injEq, if_true, if_false, ite_true, ite_false, Nat.zero_add, eq_self, okn_some, okn_none, forall_const, true_or, or_true, false_or, or_false, Option.map_some, Option.map_none, Kd_setI, Ln_setI, Mr_setI, Kd_setR, Ln_setR, Mi_setR, Int.reduceNatCast', Int.reduceNeg, Int.reduceAdd, Int.reduceSub, Int.reduceMul, Int.reduceEq, Int.reduceNe, Int.reduceLT, Int.reduceLE, Nat.reduceAdd, Nat.reduceSub, Nat.reduceLT, Nat.reduceLeDiff, Nat.reduceEqDiff, Mi_setI, rx1', rx12', rx4', rx19', rx20']) | (unfold rng; omega) | omega)
      all_goals try (
        have xx := KF h1 h' W U
        obtain ⟨v0, v1, v2, v3, v4, v5⟩ := xx
        have v6 : M + 1 - 1 = M := by omega)
      all_goals try repeat' (first | (with_reducible refine And.intro ?_ ?_) | (with_reducible intro _) | (exact Nat.le_of_ble_eq_true rfl) | (refine bX_addShot_0 _ _ _ _ _ ?_; simp only [o_const, o_null, o_lconst, o_iload, o_aload, o_istore, o_astore, o_iinc, o_iadd, o_isub, o_imul, o_idiv, o_irem, o_ineg, o_i2l, o_lcmp, o_dup, o_dup2, o_goto, o_max, o_min, o_objinit, o_icmplt, o_iflt, o_icmpge, o_ifge, o_icmpgt, o_ifgt, o_icmple, o_ifle, o_icmpeq, o_ifeq, o_icmpne, o_ifne, o_ifnull, o_ifnonnull, o_acmpeq, o_acmpne, o_tsw, tsw, o_getI, o_getR, o_putI, o_putZ, o_putR, o_iald, o_bald, o_lald, o_aald, o_iast, o_bast, o_last, o_aast, o_alen, o_new, o_newa, o_iret, o_zret, o_aret, o_vret, o_throw, o_call, o_callV, o_aft_v, o_aft_n, o_aft_x, o_up_e, lget, lset, all1, dr_some, List.take_succ_cons, List.take_zero, List.drop_succ_cons, List.drop_zero, List.reverse_cons, List.reverse_nil, List.nil_append, List.cons_append, List.length_cons, List.length_nil, List.take_nil, List.drop_nil, true_and, and_true, false_and, and_false, true_implies, implies_true, false_implies, ne_eq, not_true_eq_false, not_false_eq_true, reduceCtorEq, Option.some.injEq, if_true, if_false, ite_true, ite_false, Nat.zero_add, eq_self, okn_some, okn_none, forall_const, true_or, or_true, false_or, or_false, Option.map_some, Option.map_none, Kd_setI, Ln_setI, Mr_setI, Kd_setR, Ln_setR, Mi_setR, Int.reduceNatCast', Int.reduceNeg, Int.reduceAdd, Int.reduceSub, Int.reduceMul, Int.reduceEq, Int.reduceNe, Int.reduceLT, Int.reduceLE, Nat.reduceAdd, Nat.reduceSub, Nat.reduceLT, Nat.reduceLeDiff, Nat.reduceEqDiff, Mi_setI, v1, v2, v3, v4, v5, v6]) | (refine bX_addShot_19 _ _ _ _ _ ?_; simp only [o_const, o_null, o_lconst, o_iload, o_aload, o_istore, o_astore, o_iinc, o_iadd, o_isub, o_imul, o_idiv, o_irem, o_ineg, o_i2l, o_lcmp, o_dup, o_dup2, o_goto, o_max, o_min, o_objinit, o_icmplt, o_iflt, o_icmpge, o_ifge, o_icmpgt, o_ifgt, o_icmple, o_ifle, o_icmpeq, o_ifeq, o_icmpne, o_ifne, o_ifnull, o_ifnonnull, o_acmpeq, o_acmpne, o_tsw, tsw, o_getI, o_getR, o_putI, o_putZ, o_putR, o_iald, o_bald, o_lald, o_aald, o_iast, o_bast, o_last, o_aast, o_alen, o_new, o_newa, o_iret, o_zret, o_aret, o_vret, o_throw, o_call, o_callV, o_aft_v, o_aft_n, o_aft_x, o_up_e, lget, lset, all1, dr_some, List.take_succ_cons, List.take_zero, List.drop_succ_cons, List.drop_zero, List.reverse_cons, List.reverse_nil, List.nil_append, List.cons_append, List.length_cons, List.length_nil, List.take_nil, List.drop_nil, true_and, and_true, false_and, and_false, true_implies, implies_true, false_implies, ne_eq, not_true_eq_false, not_false_eq_true, reduceCtorEq, Option.some.injEq, if_true, if_false, ite_true, ite_false, Nat.zero_add, eq_self, okn_some, okn_none, forall_const, true_or, or_true, false_or, or_false, Option.map_some, Option.map_none, Kd_setI, Ln_setI, Mr_setI, Kd_setR, Ln_setR, Mi_setR, Int.reduceNatCast', Int.reduceNeg, Int.reduceAdd, Int.reduceSub, Int.reduceMul, Int.reduceEq, Int.reduceNe, Int.reduceLT, Int.reduceLE, Nat.reduceAdd, Nat.reduceSub, Nat.reduceLT, Nat.reduceLeDiff, Nat.reduceEqDiff, Mi_setI, v1, v2, v3, v4, v5, v6]) | (refine bX_addShot_20 _ _ _ _ _ ?_; simp only [o_const, o_null, o_lconst, o_iload, o_aload, o_istore, o_astore, o_iinc, o_iadd, o_isub, o_imul, o_idiv, o_irem, o_ineg, o_i2l, o_lcmp, o_dup, o_dup2, o_goto, o_max, o_min, o_objinit, o_icmplt, o_iflt, o_icmpge, o_ifge, o_icmpgt, o_ifgt, o_icmple, o_ifle, o_icmpeq, o_ifeq, o_icmpne, o_ifne, o_ifnull, o_ifnonnull, o_acmpeq, o_acmpne, o_tsw, tsw, o_getI, o_getR, o_putI, o_putZ, o_putR, o_iald, o_bald, o_lald, o_aald, o_iast, o_bast, o_last, o_aast, o_alen, o_new, o_newa, o_iret, o_zret, o_aret, o_vret, o_throw, o_call, o_callV, o_aft_v, o_aft_n, o_aft_x, o_up_e, lget, lset, all1, dr_some, List.take_succ_cons, List.take_zero, List.drop_succ_cons, List.drop_zero, List.reverse_cons, List.reverse_nil, List.nil_append, List.cons_append, List.length_cons, List.length_nil, List.take_nil, List.drop_nil, true_and, and_true, false_and, and_false, true_implies, implies_true, false_implies, ne_eq, not_true_eq_false, not_false_eq_true, reduceCtorEq, Option.some.injEq, if_true, if_false, ite_true, ite_false, Nat.zero_add, eq_self, okn_some, okn_none, forall_const, true_or, or_true, false_or, or_false, Option.map_some, Option.map_none, Kd_setI, Ln_setI, Mr_setI, Kd_setR, Ln_setR, Mi_setR, Int.reduceNatCast', Int.reduceNeg, Int.reduceAdd, Int.reduceSub, Int.reduceMul, Int.reduceEq, Int.reduceNe, Int.reduceLT, Int.reduceLE, Nat.reduceAdd, Nat.reduceSub, Nat.reduceLT, Nat.reduceLeDiff, Nat.reduceEqDiff, Mi_setI, v1, v2, v3, v4, v5, v6]) | (simp only [o_const, o_null, o_lconst, o_iload, o_aload, o_istore, o_astore, o_iinc, o_iadd, o_isub, o_imul, o_idiv, o_irem, o_ineg, o_i2l, o_lcmp, o_dup, o_dup2, o_goto, o_max, o_min, o_objinit, o_icmplt, o_iflt, o_icmpge, o_ifge, o_icmpgt, o_ifgt, o_icmple, o_ifle, o_icmpeq, o_ifeq, o_icmpne, o_ifne, o_ifnull, o_ifnonnull, o_acmpeq, o_acmpne, o_tsw, tsw, o_getI, o_getR, o_putI, o_putZ, o_putR, o_iald, o_bald, o_lald, o_aald, o_iast, o_bast, o_last, o_aast, o_alen, o_new, o_newa, o_iret, o_zret, o_aret, o_vret, o_throw, o_call, o_callV, o_aft_v, o_aft_n, o_aft_x, o_up_e, lget, lset, all1, dr_some, List.take_succ_cons, List.take_zero, List.drop_succ_cons, List.drop_zero, List.reverse_cons, List.reverse_nil, List.nil_append, List.cons_append, List.length_cons, List.length_nil, List.take_nil, List.drop_nil, true_and, and_true, false_and, and_false, true_implies, implies_true, false_implies, ne_eq, not_true_eq_false, not_false_eq_true, reduceCtorEq, Option.some.injEq, if_true, if_false, ite_true, ite_false, Nat.zero_add, eq_self, okn_some, okn_none, forall_const, true_or, or_true, false_or, or_false, Option.map_some, Option.map_none, Kd_setI, Ln_setI, Mr_setI, Kd_setR, Ln_setR, Mi_setR, Int.reduceNatCast', Int.reduceNeg, Int.reduceAdd, Int.reduceSub, Int.reduceMul, Int.reduceEq, Int.reduceNe, Int.reduceLT, Int.reduceLE, Nat.reduceAdd, Nat.reduceSub, Nat.reduceLT, Nat.reduceLeDiff, Nat.reduceEqDiff, Mi_setI, v1, v2, v3, v4, v5, v6]) | (unfold rng; omega) | omega)
      all_goals first | exact v0 | (subst_vars; exact v5) | (exfalso; omega) | done
  · have K9 := H1 (by unfold th_addShot; rw [if_pos hm])
    clear H0 H1 H2
    repeat' (first | (with_reducible refine And.intro ?_ ?_) | (with_reducible intro _) | (exact Nat.le_of_ble_eq_true rfl) | (refine bX_addShot_0 _ _ _ _ _ ?_; simp only [o_const, o_null, o_lconst, o_iload, o_aload, o_istore, o_astore, o_iinc, o_iadd, o_isub, o_imul, o_idiv, o_irem, o_ineg, o_i2l, o_lcmp, o_dup, o_dup2, o_goto, o_max, o_min, o_objinit, o_icmplt, o_iflt, o_icmpge, o_ifge, o_icmpgt, o_ifgt, o_icmple, o_ifle, o_icmpeq, o_ifeq, o_icmpne, o_ifne, o_ifnull, o_ifnonnull, o_acmpeq, o_acmpne, o_tsw, tsw, o_getI, o_getR, o_putI, o_putZ, o_putR, o_iald, o_bald, o_lald, o_aald, o_iast, o_bast, o_last, o_aast, o_alen, o_new, o_newa, o_iret, o_zret, o_aret, o_vret, o_throw, o_call, o_callV, o_aft_v, o_aft_n, o_aft_x, o_up_e, lget, lset, all1, dr_some, List.take_succ_cons, List.take_zero, List.drop_succ_cons, List.drop_zero, List.reverse_cons, List.reverse_nil, List.nil_append, List.cons_append, List.length_cons, List.length_nil, List.take_nil, List.drop_nil, true_and, and_true, false_and, and_false, true_implies, implies_true, false_implies, ne_eq, not_true_eq_false, not_false_eq_true, reduceCtorEq, Option.some.injEq, if_true, if_false, ite_true, ite_false, Nat.zero_add, eq_self, okn_some, okn_none, forall_const, true_or, or_true, false_or, or_false, Option.map_some, Option.map_none, Kd_setI, Ln_setI, Mr_setI, Kd_setR, Ln_setR, Mi_setR, Int.reduceNatCast', Int.reduceNeg, Int.reduceAdd, Int.reduceSub, Int.reduceMul, Int.reduceEq, Int.reduceNe, Int.reduceLT, Int.reduceLE, Nat.reduceAdd, Nat.reduceSub, Nat.reduceLT, Nat.reduceLeDiff, Nat.reduceEqDiff, Mi_setI, rx1', rx12']) | (refine bX_addShot_19 _ _ _ _ _ ?_; simp only [o_const, o_null, o_lconst, o_iload, o_aload, o_istore, o_astore, o_iinc, o_iadd, o_isub, o_imul, o_idiv, o_irem, o_ineg, o_i2l, o_lcmp, o_dup, o_dup2, o_goto, o_max, o_min, o_objinit, o_icmplt, o_iflt, o_icmpge, o_ifge, o_icmpgt, o_ifgt, o_icmple, o_ifle, o_icmpeq, o_ifeq, o_icmpne, o_ifne, o_ifnull, o_ifnonnull, o_acmpeq, o_acmpne, o_tsw, tsw, o_getI, o_getR, o_putI, o_putZ, o_putR, o_iald, o_bald, o_lald, o_aald, o_iast, o_bast, o_last, o_aast, o_alen, o_new, o_newa, o_iret, o_zret, o_aret, o_vret, o_throw, o_call, o_callV, o_aft_v, o_aft_n, o_aft_x, o_up_e, lget, lset, all1, dr_some, List.take_succ_cons, List.take_zero, List.drop_succ_cons, List.drop_zero, List.reverse_cons, List.reverse_nil, List.nil_append, List.cons_append, List.length_cons, List.length_nil, List.take_nil, List.drop_nil, true_and, and_true, false_and, and_false, true_implies, implies_true, false_implies, ne_eq, not_true_eq_false, not_false_eq_true, reduceCtorEq, Option.some.injEq, if_true, if_false, ite_true, ite_false, Nat.zero_add, eq_self, okn_some, okn_none, forall_const, true_or, or_true, false_or, or_false, Option.map_some, Option.map_none, Kd_setI, Ln_setI, Mr_setI, Kd_setR, Ln_setR, Mi_setR, Int.reduceNatCast', Int.reduceNeg, Int.reduceAdd, Int.reduceSub, Int.reduceMul, Int.reduceEq, Int.reduceNe, Int.reduceLT, Int.reduceLE, Nat.reduceAdd, Nat.reduceSub, Nat.reduceLT, Nat.reduceLeDiff, Nat.reduceEqDiff, Mi_setI, rx1', rx12']) | (refine bX_addShot_20 _ _ _ _ _ ?_; simp only [o_const, o_null, o_lconst, o_iload, o_aload, o_istore, o_astore, o_iinc, o_iadd, o_isub, o_imul, o_idiv, o_irem, o_ineg, o_i2l, o_lcmp, o_dup, o_dup2, o_goto, o_max, o_min, o_objinit, o_icmplt, o_iflt, o_icmpge, o_ifge, o_icmpgt, o_ifgt, o_icmple, o_ifle, o_icmpeq, o_ifeq, o_icmpne, o_ifne, o_ifnull, o_ifnonnull, o_acmpeq, o_acmpne, o_tsw, tsw, o_getI, o_getR, o_putI, o_putZ, o_putR, o_iald, o_bald, o_lald, o_aald, o_iast, o_bast, o_last, o_aast, o_alen, o_new, o_newa, o_iret, o_zret, o_aret, o_vret, o_throw, o_call, o_callV, o_aft_v, o_aft_n, o_aft_x, o_up_e, lget, lset, all1, dr_some, List.take_succ_cons, List.take_zero, List.drop_succ_cons, List.drop_zero, List.reverse_cons, List.reverse_nil, List.nil_append, List.cons_append, List.length_cons, List.length_nil, List.take_nil, List.drop_nil, true_and, and_true, false_and, and_false, true_implies, implies_true, false_implies, ne_eq, not_true_eq_false, not_false_eq_true, reduceCtorEq, Option.some.injEq, if_true, if_false, ite_true, ite_false, Nat.zero_add, eq_self, okn_some, okn_none, forall_const, true_or, or_true, false_or, or_false, Option.map_some, Option.map_none, Kd_setI, Ln_setI, Mr_setI, Kd_setR, Ln_setR, Mi_setR, Int.reduceNatCast', Int.reduceNeg, Int.reduceAdd, Int.reduceSub, Int.reduceMul, Int.reduceEq, Int.reduceNe, Int.reduceLT, Int.reduceLE, Nat.reduceAdd, Nat.reduceSub, Nat.reduceLT, Nat.reduceLeDiff, Nat.reduceEqDiff, Mi_setI, rx1', rx12']) | (refine c_X_requireRange (by omega) (fun z9 => absurd z9 hm) (fun z9 => ?_)) | (simp only [o_const, o_null, o_lconst, o_iload, o_aload, o_istore, o_astore, o_iinc, o_iadd, o_isub, o_imul, o_idiv, o_irem, o_ineg, o_i2l, o_lcmp, o_dup, o_dup2, o_goto, o_max, o_min, o_objinit, o_icmplt, o_iflt, o_icmpge, o_ifge, o_icmpgt, o_ifgt, o_icmple, o_ifle, o_icmpeq, o_ifeq, o_icmpne, o_ifne, o_ifnull, o_ifnonnull, o_acmpeq, o_acmpne, o_tsw, tsw, o_getI, o_getR, o_putI, o_putZ, o_putR, o_iald, o_bald, o_lald, o_aald, o_iast, o_bast, o_last, o_aast, o_alen, o_new, o_newa, o_iret, o_zret, o_aret, o_vret, o_throw, o_call, o_callV, o_aft_v, o_aft_n, o_aft_x, o_up_e, lget, lset, all1, dr_some, List.take_succ_cons, List.take_zero, List.drop_succ_cons, List.drop_zero, List.reverse_cons, List.reverse_nil, List.nil_append, List.cons_append, List.length_cons, List.length_nil, List.take_nil, List.drop_nil, true_and, and_true, false_and, and_false, true_implies, implies_true, false_implies, ne_eq, not_true_eq_false, not_false_eq_true, reduceCtorEq, Option.some.injEq, if_true, if_false, ite_true, ite_false, Nat.zero_add, eq_self, okn_some, okn_none, forall_const, true_or, or_true, false_or, or_false, Option.map_some, Option.map_none, Kd_setI, Ln_setI, Mr_setI, Kd_setR, Ln_setR, Mi_setR, Int.reduceNatCast', Int.reduceNeg, Int.reduceAdd, Int.reduceSub, Int.reduceMul, Int.reduceEq, Int.reduceNe, Int.reduceLT, Int.reduceLE, Nat.reduceAdd, Nat.reduceSub, Nat.reduceLT, Nat.reduceLeDiff, Nat.reduceEqDiff, Mi_setI, rx1', rx12']) | (unfold rng; omega) | omega)
    all_goals first | exact K9 | (exfalso; omega) | done
