theorem c_Co_init {d n : Nat} (hd : 1 ≤ d) {x y z w : Int} {h : Mh} {P : Out → Mh → Prop} (hn : n ≠ 0) (H : ∀ h', (∀ m, m ≠ n → Sam h h' m) → Kd h' n = 3 → Mi h' n 0 = x → Mi h' n 1 = y → Mi h' n 2 = z → Mi h' n 3 = w → P (.inl none) h') : Ct kCo_init d [pR (some n), pI x, pI y, pI z, pI w] (alc h n 3 0) P := by
  have K9 := H (setI (setI (setI (setI (alc h n 3 0) n 0 x) n 1 y) n 2 z) n 3 w) (fun m hm => ((((Sam.rfl'.alc hm).setI hm).setI hm).setI hm).setI hm) (by rw [Kd_setI, Kd_setI, Kd_setI, Kd_setI, Kd_alc, if_pos rfl]) (by simp [Mi_setI]) (by simp [Mi_setI]) (by simp [Mi_setI]) (by simp [Mi_setI])
  refine eCo_init ?_
  repeat' (first | (with_reducible refine And.intro ?_ ?_) | (with_reducible intro _) | (exact Nat.le_of_ble_eq_true rfl) | (refine bCo_init_0 _ _ _ _ _ ?_; simp only [o_const, o_null, o_lconst, o_iload, o_aload, o_istore, o_astore, o_iinc, o_iadd, o_isub, o_imul, o_idiv, o_irem, o_ineg, o_i2l, o_lcmp, o_dup, o_dup2, o_goto, o_max, o_min, o_objinit, o_icmplt, o_iflt, o_icmpge, o_ifge, o_icmpgt, o_ifgt, o_icmple, o_ifle, o_icmpeq, o_ifeq, o_icmpne, o_ifne, o_ifnull, o_ifnonnull, o_acmpeq, o_acmpne, o_tsw, tsw, o_getI, o_getR, o_putI, o_putZ, o_putR, o_iald, o_bald, o_lald, o_aald, o_iast, o_bast, o_last, o_aast, o_alen, o_new, o_newa, o_iret, o_zret, o_aret, o_vret, o_throw, o_call, o_callV, o_aft_v, o_aft_n, o_aft_x, o_up_e, lget, lset, all1, dr_some, List.take_succ_cons, List.take_zero, List.drop_succ_cons, List.drop_zero, List.reverse_cons, List.reverse_nil, List.nil_append, List.cons_append, List.length_cons, List.length_nil, List.take_nil, List.drop_nil, true_and, and_true, false_and, and_false, true_implies, implies_true, false_implies, ne_eq, not_true_eq_false, not_false_eq_true, reduceCtorEq, Option.some.injEq, if_true, if_false, ite_true, ite_false, Nat.zero_add, eq_self, okn_some, okn_none, forall_const, true_or, or_true, false_or, or_false, Option.map_some, Option.map_none, Kd_setI, Ln_setI, Mr_setI, Kd_setR, Ln_setR, Mi_setR, Int.reduceNatCast', Int.reduceNeg, Int.reduceAdd, Int.reduceSub, Int.reduceMul, Int.reduceEq, Int.reduceNe, Int.reduceLT, Int.reduceLE, Nat.reduceAdd, Nat.reduceSub, Nat.reduceLT, Nat.reduceLeDiff, Nat.reduceEqDiff, Mi_setI, Kd_alc]) | (simp only [o_const, o_null, o_lconst, o_iload, o_aload, o_istore, o_astore, o_iinc, o_iadd, o_isub, o_imul, o_idiv, o_irem, o_ineg, o_i2l, o_lcmp, o_dup, o_dup2, o_goto, o_max, o_min, o_objinit, o_icmplt, o_iflt, o_icmpge, o_ifge, o_icmpgt, o_ifgt, o_icmple, o_ifle, o_icmpeq, o_ifeq, o_icmpne, o_ifne, o_ifnull, o_ifnonnull, o_acmpeq, o_acmpne, o_tsw, tsw, o_getI, o_getR, o_putI, o_putZ, o_putR, o_iald, o_bald, o_lald, o_aald, o_iast, o_bast, o_last, o_aast, o_alen, o_new, o_newa, o_iret, o_zret, o_aret, o_vret, o_throw, o_call, o_callV, o_aft_v, o_aft_n, o_aft_x, o_up_e, lget, lset, all1, dr_some, List.take_succ_cons, List.take_zero, List.drop_succ_cons, List.drop_zero, List.reverse_cons, List.reverse_nil, List.nil_append, List.cons_append, List.length_cons, List.length_nil, List.take_nil, List.drop_nil, true_and, and_true, false_and, and_false, true_implies, implies_true, false_implies, ne_eq, not_true_eq_false, not_false_eq_true, reduceCtorEq, Option.some.injEq, if_true, if_false, ite_true, ite_false, Nat.zero_add, eq_self, okn_some, okn_none, forall_const, true_or, or_true, false_or, or_false, Option.map_some, Option.map_none, Kd_setI, Ln_setI, Mr_setI, Kd_setR, Ln_setR, Mi_setR, Int.reduceNatCast', Int.reduceNeg, Int.reduceAdd, Int.reduceSub, Int.reduceMul, Int.reduceEq, Int.reduceNe, Int.reduceLT, Int.reduceLE, Nat.reduceAdd, Nat.reduceSub, Nat.reduceLT, Nat.reduceLeDiff, Nat.reduceEqDiff, Mi_setI, Kd_alc]) | (unfold rng; omega) | omega)
  all_goals first | exact K9 | exact hd | (exfalso; omega)
theorem RC.cadd {A : AS} {h h1 h' : Mh} (R : RC A h) (T : Stx A) {N : Int} {D : Nat} {k t s n : Int} (eN : N = A 12 0 0) (eD : D = 10000 + 20 * (A 102 0 0).toNat) (hN : 0 ≤ N ∧ N < 6) (u : ∀ m, m ≠ D + 3 + N.toNat → Sam h h1 m) (k1 : Kd h1 (D + 3 + N.toNat) = 3) (k2 : Mi h1 (D + 3 + N.toNat) 0 = k) (k3 : Mi h1 (D + 3 + N.toNat) 1 = t) (k4 : Mi h1 (D + 3 + N.toNat) 2 = s) (k5 : Mi h1 (D + 3 + N.toNat) 3 = n)
    (e' : h' = setI (setR h1 (D + 1) N (some (D + 3 + N.toNat))) D 2 (N + 1)) : RC (up (up (up (up (up A 13 (4 * N) 0 k) 13 (4 * N + 1) 0 t) 13 (4 * N + 2) 0 s) 13 (4 * N + 3) 0 n) 12 0 0 (N + 1)) h' := by
  obtain ⟨V9, D9, a16, a36, a47, a51, G9⟩ := T
  obtain ⟨B, hB⟩ : ∃ B : AS, B = up (up (up (up (up A 13 (4 * N) 0 k) 13 (4 * N + 1) 0 t) 13 (4 * N + 2) 0 s) 13 (4 * N + 3) 0 n) 12 0 0 (N + 1) := ⟨_, rfl⟩
  rw [← hB]
  have e : ∀ g, g ≠ 12 → g ≠ 13 → B g = A g := fun g q1 q2 => by rw [hB]; funext i j; rw [up_f q1, up_f q2, up_f q2, up_f q2, up_f q2]
  have b12 : B 12 0 0 = N + 1 := by rw [hB, up_s]
  have b13 : ∀ i, B 13 i 0 = if i = 4 * N + 3 then n else if i = 4 * N + 2 then s else if i = 4 * N + 1 then t else if i = 4 * N then k else A 13 i 0 := fun i => by
    rw [hB, up_f (by decide), up_at, up_at, up_at, up_at]; simp only [and_true]
  clear hB
  have s0 : ∀ m, m ≠ D + 3 + N.toNat → m ≠ D → m ≠ D + 1 → Sam h h' m := fun m n1 n2 n3 => by rw [e']; exact ((u m n1).setR n3).setI n2
  have s9 : ∀ m, m ≠ D + 3 + N.toNat ∧ m ≠ D ∧ m ≠ D + 1 → Sam h h' m := fun m hn => s0 m hn.1 hn.2.1 hn.2.2
  have E9 : ∀ L : List Nat, (∀ f, f ∈ [12, 13] → f ∉ L) → ∀ g, g ∈ L → B g = A g := fun L hL g hg => e g (fun q => hL 12 (by simp) (q ▸ hg)) (fun q => hL 13 (by simp) (q ▸ hg))
  have g1 := G9.1
  have g2 := G9.2.1
  have hN0 := hN.1
  have hN1 := hN.2
  have xv : RCv B h' := by
    refine ⟨fun v hv => ?_, ?_, fun m n0 n1 => ?_⟩
    · have hv2 : exv A v := by unfold exv at *; rw [e 1 (by decide) (by decide), e 2 (by decide) (by decide)] at hv; exact hv
      have hn := vN_dr G9 hv2
      have := (R.xv.1 v hv2).of (h' := h') (V9.2.2.2.2.1 v hv2).2.2.2.1 (fun m n0 n1 => s9 m (by omega))
      unfold VPub
      rw [vN_of (e 100 (by decide) (by decide)), e 3 (by decide) (by decide), e 4 (by decide) (by decide), e 5 (by decide) (by decide), e 6 (by decide) (by decide), e 7 (by decide) (by decide), e 8 (by decide) (by decide), e 9 (by decide) (by decide), e 10 (by decide) (by decide)]
      exact this
    · have hv := R.xv.2.1
      unfold VDra VObj at *
      rw [e 102 (by decide) (by decide), vN_of (e 100 (by decide) (by decide)), e 11 (by decide) (by decide), e 14 (by decide) (by decide), e 15 (by decide) (by decide), mxh_of (e 8 (by decide) (by decide)) (e 15 (by decide) (by decide)), b12, ← eD]
      rw [← eD, ← eN] at hv
      obtain ⟨⟨v1, v2, v3, v4, v5, v6, v7⟩, ⟨w1, w2, w3, w4, w5, w6⟩, x1, x2, x3⟩ := hv
      have uD := u D (by omega)
      have uD1 := u (D + 1) (by omega)
      have uD2 := s0 (D + 2) (by omega) (by omega) (by omega)
      have mD : ∀ i : Int, i ≠ 2 → Mi h' D i = Mi h D i := fun i hi => by rw [e', Mi_setI, if_neg (fun q => hi q.2), Mi_setR, uD.2.2.1]
      have rD : ∀ i : Int, Mr h' D i = Mr h D i := fun i => by rw [e', Mr_setI, Mr_setR, if_neg (by omega), uD.2.2.2]
      have kD : Kd h' D = Kd h D := by rw [e', Kd_setI, Kd_setR, uD.1]
      have kD1 : Kd h' (D + 1) = Kd h (D + 1) ∧ Ln h' (D + 1) = Ln h (D + 1) := by rw [e', Kd_setI, Kd_setR, Ln_setI, Ln_setR]; exact ⟨uD1.1, uD1.2.1⟩
      have rD1 : ∀ i : Int, Mr h' (D + 1) i = if i = N then some (D + 3 + N.toNat) else Mr h (D + 1) i := fun i => by
        rw [e', Mr_setI, Mr_setR, uD1.2.2.2]; simp only [true_and]
      rw [kD, rD, rD, kD1.1, kD1.2, uD2.1, uD2.2.1, uD2.2.2.2, mD 0 (by decide), mD 4 (by decide), mD 5 (by decide), mD 6 (by decide), mD 7 (by decide)]
      refine ⟨⟨v1, v2, v3, v4, v5, v6, v7⟩, ⟨w1, by rw [e', Mi_setI, if_pos ⟨rfl, rfl⟩], w3, w4, w5, w6⟩, fun i i0 i1 => ?_, x2, fun i i0 i1 => ?_⟩
      · simp only [b13]
        rw [rD1]
        by_cases z : i = N
        · subst z
          have f1 : Kd h' (D + 3 + i.toNat) = 3 := by rw [e', Kd_setI, Kd_setR]; exact k1
          have f2 : ∀ j, Mi h' (D + 3 + i.toNat) j = Mi h1 (D + 3 + i.toNat) j := fun j => by rw [e', Mi_setI, if_neg (by omega), Mi_setR]
          rw [f1, f2, f2, f2, f2, k2, k3, k4, k5, if_pos rfl]
          refine ⟨rfl, rfl, ?_, ?_, ?_, ?_⟩ <;> (repeat' split) <;> first | rfl | omega
        · have y := s0 (D + 3 + i.toNat) (by omega) (by omega) (by omega)
          rw [if_neg z, y.1, y.2.2.1]
          obtain ⟨c1, c2, c3, c4, c5, c6⟩ := x1 i i0 (by omega)
          rw [c1, c2, c3, c4, c5, c6]
          refine ⟨rfl, rfl, ?_, ?_, ?_, ?_⟩ <;> (repeat' split) <;> first | rfl | omega
      · rw [(s0 (D + 3 + i.toNat) (by omega) (by omega) (by omega)).1]
        exact x3 i (by omega) i1
    · rw [e 102 (by decide) (by decide)] at n0
      rw [(s0 m (by omega) (by omega) (by omega)).1]
      exact R.xv.2.2 m n0 n1
  exact ⟨R.1.of (E9 _ (by decide)) (fun n hn => s9 n (by omega)), R.xa.of (E9 _ (by decide)) (fun n n0 n1 => s9 n (by omega)), xv, R.xs.of a16 (E9 _ (by decide)) (fun n n0 n1 => s9 n (by omega)), R.xo.of2 a16 (E9 [16] (by decide) 16 (by decide)) (fun n t c t0 t1 c0 c1 n0 n1 => s9 n (by unfold cN at n0 n1; omega)), R.xk.of2 a16 G9 (E9 _ (by decide)) (fun n t c t0 t1 c0 c1 n0 n1 => s9 n (by unfold cN at n0 n1; omega)), R.xt.of2 a16 G9 (E9 _ (by decide)) (fun n t c t0 t1 c0 c1 n0 n1 => s9 n (by unfold cN at n0 n1; omega)), R.xi.of2 a16 G9 (E9 _ (by decide)) (fun n t c t0 t1 c0 c1 n0 n1 => s9 n (by unfold cN at n0 n1; omega)), R.xm.of a36 (E9 _ (by decide)) (fun n hn => ⟨(s9 n (by omega)).1, (s9 n (by omega)).2.1, fun k _ => congrFun (s9 n (by omega)).2.2.1 k, (s9 n (by omega)).2.2.2⟩), R.xu.of (E9 [32] (by decide) 32 (by decide)) (E9 [33] (by decide) 33 (by decide)) (congrFun (s9 16 (by omega)).2.2.1 5), R.xc.of (E9 _ (by decide)) (fun n hn => s9 n (by omega)) (fun n n0 n1 => ⟨(s9 n (by omega)).1, (s9 n (by omega)).2.1⟩), R.xn.of a47 (E9 _ (by decide)) (fun n n0 n1 => s9 n (by omega)), R.xd.of a51 (E9 _ (by decide)) (fun n n0 n1 => s9 n (by omega))⟩
