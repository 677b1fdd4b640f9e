/-- the tries of a frame that is nowhere, or that is tried -/
theorem RC.tri {c : Int} {A : AS} {h : Mh} (R : RC A h) (T : Stx A) (I : IvS c A) {s p v : Int} (hP : isP A s p) : RC (up A 44 (A 18 s p) 0 v) (setI h (cN s (A 105 s p)) 5 v) := by
  have T' := T
  obtain ⟨V9, D9, a16, a36, a47, a51, G9⟩ := T'
  have hs0 := hP.1
  have hs1 := hP.2.1
  have p0 := hP.2.2.1
  have p1 := hP.2.2.2
  have p16 : p < 16 := by have := (I.2.2.1 s hs0 (by omega)).2.1; omega
  obtain ⟨f, ef⟩ : ∃ f, f = A 18 s p := ⟨_, rfl⟩
  obtain ⟨N, eN⟩ : ∃ N, N = cN s (A 105 s p) := ⟨_, rfl⟩
  have gN := G9.2.2.2.2.2.1 s p hs0 (by omega) p0 p16
  obtain ⟨j9, j0, j1, eN2⟩ : ∃ j : Int, 0 ≤ j ∧ j < 16 ∧ N = 20010 + 200 * s.toNat + 10 * j.toNat := ⟨A 105 s p, gN.1, gN.2, by rw [eN]; rfl⟩
  rw [← ef, ← eN]
  have e : ∀ g, g ≠ 44 → up A 44 f 0 v g = A g := fun g hg => by funext i j; exact up_f hg
  have e44 : ∀ i, up A 44 f 0 v 44 i 0 = if i = f then v else A 44 i 0 := fun i => by rw [up_at]; simp
  have m : ∀ n, n ≠ N → Mi (setI h N 5 v) n = Mi h n := fun n q2 => by funext i; rw [Mi_setI, if_neg (fun q => q2 q.1)]
  have mk : ∀ n k, k ≠ 5 → Mi (setI h N 5 v) n k = Mi h n k := fun n k q2 => by rw [Mi_setI, if_neg (fun q => q2 q.2)]
  have hc : ∀ t k, 0 ≤ k → cN t k = 20010 + 200 * t.toNat + 10 * k.toNat := fun t k _ => rfl
  refine R.mid T (fun g hg => e g (fun q => hg (by rw [q]; decide))) rfl rfl (fun n q1 q2 q3 => ⟨m n (by omega), rfl⟩) (fun t t0 t1 n n0 n1 => ⟨m n (by unfold sN at n0 n1; omega), rfl⟩) (fun t k t0 t1 k0 k1 => ⟨rfl, mk _ _ (by decide), m _ (by rw [hc t k k0]; omega), m _ (by rw [hc t k k0]; omega)⟩) ?_ ?_ ?_ ?_
  · intro t q t0 t1 q0 q1
    rw [e 16 (by decide)] at t1
    have y := R.xt t q t0 t1 q0 q1
    have g := G9.2.2.2.2.2.1 t q t0 (by omega) q0 q1
    unfold FSta at *
    rw [e 17 (by decide), e 18 (by decide), e 105 (by decide), e44, mk _ 4 (by decide)]
    refine ⟨fun w => ⟨Whr_of (e 36 (by decide)) (e 39 (by decide)) (e 42 (by decide)) (e 43 (by decide)) (y.1 w).1, fun x => ?_⟩, y.2⟩
    by_cases z : t = s ∧ q = p
    · obtain ⟨rfl, rfl⟩ := z
      rw [← eN, ← ef, if_pos rfl, Mi_setI, if_pos ⟨rfl, rfl⟩]
    · have hn := cN_ne G9 hs0 (by omega) t0 (by omega) p0 p16 q0 q1 z
      rw [← eN] at hn
      have hf := pl_ne I hP ⟨t0, t1, q0, w⟩ z
      rw [← ef] at hf
      rw [if_neg hf, m _ (by omega)]
      exact (y.1 w).2 x
  · exact R.xi.of3 a16 G9 (fun g hg => e g (fun q => by subst q; revert hg; decide)) (fun t k t0 t1 k0 k1 => ⟨fun i hi => mk _ _ (by omega), rfl, m _ (by rw [hc t k k0]; omega)⟩)
  · exact R.xm.of a36 (fun g hg => e g (fun q => by subst q; revert hg; decide)) (fun n hn => ⟨rfl, rfl, fun k hk => by rw [m n (by omega)], rfl⟩)
  · exact R.xu.of (e 32 (by decide)) (e 33 (by decide)) (by rw [m 16 (by omega)])
/-- a frame that is nowhere goes to the queue's end -/
theorem RC.enqu {c : Int} {A : AS} {h : Mh} (R : RC A h) (T : Stx A) (I : IvS c A) {s p : Int} (hP : isP A s p) (hw : Whr A (A 18 s p) 0) (h5 : Mi h (cN s (A 105 s p)) 5 = A 44 (A 18 s p) 0) (h42 : 0 ≤ A 42 0 0) : RC (enq A (A 18 s p)) (setI (setI (setR h 22 (A 42 0 0) (some (cN s (A 105 s p)))) 16 3 (A 42 0 0 + 1)) (cN s (A 105 s p)) 4 1) := by
  have T' := T
  obtain ⟨V9, D9, a16, a36, a47, a51, G9⟩ := T'
  have hs0 := hP.1
  have hs1 := hP.2.1
  have p0 := hP.2.2.1
  have p1 := hP.2.2.2
  have p16 : p < 16 := by have := (I.2.2.1 s hs0 (by omega)).2.1; omega
  have ac := actv_of I hP
  have g8 := G9.2.2.2.2.2.2.2 s p hs0 (by omega) p0 p1
  obtain ⟨f, ef⟩ : ∃ f, f = A 18 s p := ⟨_, rfl⟩
  obtain ⟨N, eN⟩ : ∃ N, N = cN s (A 105 s p) := ⟨_, rfl⟩
  obtain ⟨L, eL⟩ : ∃ L, L = A 42 0 0 := ⟨_, rfl⟩
  have gN := G9.2.2.2.2.2.1 s p hs0 (by omega) p0 p16
  obtain ⟨j9, j0, j1, eN2⟩ : ∃ j : Int, 0 ≤ j ∧ j < 16 ∧ N = 20010 + 200 * s.toNat + 10 * j.toNat := ⟨A 105 s p, gN.1, gN.2, by rw [eN]; rfl⟩
  have efN : fN A f = N := by unfold fN; rw [ef, ac.2.1, g8, eN]; rfl
  rw [← ef, ← eN, ← eL]
  rw [← ef] at hw ac h5
  rw [← eN] at h5
  rw [← eL] at h42
  have e : ∀ g, g ≠ 42 → g ≠ 43 → enq A f g = A g := fun g q1 q2 => enq_f q1 q2
  have e42 : enq A f 42 0 0 = L + 1 := by rw [enq_42, eL]
  have e43 : ∀ i, enq A f 43 i 0 = if i = L then f else A 43 i 0 := fun i => by rw [enq_43, eL]
  have m : ∀ n, n ≠ 16 → n ≠ N → Mi (setI (setI (setR h 22 L (some N)) 16 3 (L + 1)) N 4 1) n = Mi h n := fun n q1 q2 => by funext i; rw [Mi_setI, if_neg (fun q => q2 q.1), Mi_setI, if_neg (fun q => q1 q.1), Mi_setR]
  have mk : ∀ n k, n ≠ 16 → k ≠ 4 → Mi (setI (setI (setR h 22 L (some N)) 16 3 (L + 1)) N 4 1) n k = Mi h n k := fun n k q1 q2 => by rw [Mi_setI, if_neg (fun q => q2 q.2), Mi_setI, if_neg (fun q => q1 q.1), Mi_setR]
  have m16 : ∀ k : Int, k ≠ 3 → Mi (setI (setI (setR h 22 L (some N)) 16 3 (L + 1)) N 4 1) 16 k = Mi h 16 k := fun k q2 => by rw [Mi_setI, if_neg (by omega), Mi_setI, if_neg (fun q => q2 q.2), Mi_setR]
  have r : ∀ n, n ≠ 22 → Mr (setI (setI (setR h 22 L (some N)) 16 3 (L + 1)) N 4 1) n = Mr h n := fun n q1 => by funext i; rw [Mr_setI, Mr_setI, Mr_setR, if_neg (fun q => q1 q.1)]
  have hc : ∀ t k, 0 ≤ k → cN t k = 20010 + 200 * t.toNat + 10 * k.toNat := fun t k _ => rfl
  have ew : ∀ g x, g ≠ f → Whr A g x → Whr (enq A f) g x := by
    intro g x hg hx
    unfold Whr at *
    rw [e 36 (by decide) (by decide), e 39 (by decide) (by decide), e42]
    rw [← eL] at hx
    rcases hx with ⟨⟨a1, a2⟩ | ⟨a1, k, b0, b1, b2⟩, a3⟩ | a3
    · refine Or.inl ⟨Or.inl ⟨a1, fun k k0 k1 => ?_⟩, a3⟩
      rw [e43]
      split
      · exact fun q => hg q.symm
      · exact a2 k k0 (by omega)
    · refine Or.inl ⟨Or.inr ⟨a1, k, b0, by omega, ?_⟩, a3⟩
      rw [e43, if_neg (by omega)]; exact b2
    · exact Or.inr a3
  have ewf : Whr (enq A f) f 1 := by
    rcases hw with ⟨-, b⟩ | ⟨k, b0, -, -, b1⟩
    · refine Or.inl ⟨Or.inr ⟨rfl, L, h42, by rw [e42]; omega, by rw [e43, if_pos rfl]⟩, ?_⟩
      rw [e 36 (by decide) (by decide), e 39 (by decide) (by decide)]; exact b
    · omega
  refine R.mid T (fun g hg => e g (fun q => hg (by rw [q]; decide)) (fun q => hg (by rw [q]; decide))) rfl rfl (fun n q1 q2 q3 => ⟨m n q1 (by omega), r n q2⟩) (fun t t0 t1 n n0 n1 => ⟨m n (by unfold sN at n0; omega) (by unfold sN at n0 n1; omega), r n (by unfold sN at n0; omega)⟩) (fun t k t0 t1 k0 k1 => ⟨r _ (by rw [hc t k k0]; omega), mk _ _ (by rw [hc t k k0]; omega) (by decide), m _ (by rw [hc t k k0]; omega) (by rw [hc t k k0]; omega), m _ (by rw [hc t k k0]; omega) (by rw [hc t k k0]; omega)⟩) ?_ ?_ ?_ ?_
  · intro t q t0 t1 q0 q1
    rw [e 16 (by decide) (by decide)] at t1
    have y := R.xt t q t0 t1 q0 q1
    have g := G9.2.2.2.2.2.1 t q t0 (by omega) q0 q1
    have hN := hc t (A 105 t q) g.1
    unfold FSta at *
    rw [e 17 (by decide) (by decide), e 18 (by decide) (by decide), e 105 (by decide) (by decide), e 44 (by decide) (by decide), mk _ 5 (by omega) (by decide)]
    by_cases z : t = s ∧ q = p
    · obtain ⟨rfl, rfl⟩ := z
      rw [← eN, ← ef, Mi_setI, if_pos ⟨rfl, rfl⟩]
      exact ⟨fun _ => ⟨ewf, fun _ => h5⟩, fun w => by omega⟩
    · have hn := cN_ne G9 hs0 (by omega) t0 (by omega) p0 p16 q0 q1 z
      rw [← eN] at hn
      rw [m _ (by omega) (by omega)]
      refine ⟨fun w => ?_, y.2⟩
      have hf := pl_ne I hP ⟨t0, t1, q0, w⟩ z
      rw [← ef] at hf
      exact ⟨ew _ _ hf (y.1 w).1, (y.1 w).2⟩
  · exact R.xi.of3 a16 G9 (fun g hg => e g (fun q => by subst q; revert hg; decide) (fun q => by subst q; revert hg; decide)) (fun t k t0 t1 k0 k1 => ⟨fun i hi => mk _ _ (by rw [hc t k k0]; omega) (by omega), r _ (by rw [hc t k k0]; omega), m _ (by rw [hc t k k0]; omega) (by rw [hc t k k0]; omega)⟩)
  · obtain ⟨y1, y2, y3, y4, y5⟩ := R.xm
    unfold RCm
    rw [e 35 (by decide) (by decide), e 36 (by decide) (by decide), e 37 (by decide) (by decide), e 38 (by decide) (by decide), e 39 (by decide) (by decide), e 40 (by decide) (by decide), e 41 (by decide) (by decide), e 45 (by decide) (by decide), e 46 (by decide) (by decide), e42, fN_of (e 103 (by decide) (by decide)), r 16 (by decide), m16 1 (by decide), m16 4 (by decide), m16 6 (by decide), m16 7 (by decide)]
    refine ⟨y1, ⟨y2.1, by rw [Mi_setI, if_neg (by omega), Mi_setI, if_pos ⟨rfl, rfl⟩], y2.2.2⟩, fun k k0 k1 => ?_, fun k k0 k1 => ?_, y5⟩
    · rw [r 21 (by decide), r _ (by omega), m _ (by omega) (by omega)]; exact y3 k k0 k1
    · rw [Mr_setI, Mr_setI, Mr_setR, e43]
      by_cases z : k = L
      · rw [if_pos ⟨rfl, z⟩, if_pos z, efN]
      · rw [if_neg (fun q => z q.2), if_neg z]; exact y4 k k0 (by omega)
  · exact R.xu.of (e 32 (by decide) (by decide)) (e 33 (by decide) (by decide)) (m16 5 (by decide))
theorem c_Fa_putLast {d : Nat} {c : Int} {A : AS} {h : Mh} {P : Out → Mh → Prop} {s p : Int} (R : RC A h) (T : Stx A) (I : IvS c A) (hP : isP A s p) (hw : Whr A (A 18 s p) 0) (h5 : Mi h (cN s (A 105 s p)) 5 = A 44 (A 18 s p) 0) (h42 : 0 ≤ A 42 0 0) (h80 : A 42 0 0 < 80) (H : ∀ h', Sx h h' → RC (enq A (A 18 s p)) h' → P (.inl none) h') : Ct kFa_putLast d [pR (some 16), pR (some (cN s (A 105 s p)))] h P := by
  have G := T.2.2.2.2.2.2
  obtain ⟨_, b16, -, b17, o, -⟩ := at_place R G I hP
  have p16 : p < 16 := by have := hP.2.2.2; omega
  have k1 := o.1
  obtain ⟨⟨y1, -, y2, -, -, -, y3, y4⟩, ⟨-, y5, -⟩, -⟩ := R.xm
  have g := G.2.2.2.2.2.1 s p hP.1 (by have := hP.2.1; omega) hP.2.2.1 p16
  have hn : cN s (A 105 s p) = 20010 + 200 * s.toNat + 10 * (A 105 s p).toNat := rfl
  have K9 := H _ (((Sx.rfl'.setR (by omega)).setI (by omega)).setI (by omega)) (R.enqu T I hP hw h5 h42)
  clear H o
  refine eFa_putLast ?_
  repeat' (first | (with_reducible refine And.intro ?_ ?_) | (with_reducible intro _) | (exact Nat.le_of_ble_eq_true rfl) | (refine bFa_putLast_0 _ _ _ _ _ ?_; simp only [o_const, o_null, o_lconst, o_iload, o_aload, o_istore, o_astore, o_iinc, o_iadd, o_isub, o_imul, o_idiv, o_irem, o_ineg, o_i2l, o_lcmp, o_dup, o_dup2, o_goto, o_max, o_min, o_objinit, o_icmplt, o_iflt, o_icmpge, o_ifge, o_icmpgt, o_ifgt, o_icmple, o_ifle, o_icmpeq, o_ifeq, o_icmpne, o_ifne, o_ifnull, o_ifnonnull, o_acmpeq, o_acmpne, o_tsw, tsw, o_getI, o_getR, o_putI, o_putZ, o_putR, o_iald, o_bald, o_lald, o_aald, o_iast, o_bast, o_last, o_aast, o_alen, o_new, o_newa, o_iret, o_zret, o_aret, o_vret, o_throw, o_call, o_callV, o_aft_v, o_aft_n, o_aft_x, o_up_e, lget, lset, all1, dr_some, List.take_succ_cons, List.take_zero, List.drop_succ_cons, List.drop_zero, List.reverse_cons, List.reverse_nil, List.nil_append, List.cons_append, List.length_cons, List.length_nil, List.take_nil, List.drop_nil, true_and, and_true, false_and, and_false, true_implies, implies_true, false_implies, ne_eq, not_true_eq_false, not_false_eq_true, reduceCtorEq, Option.some.injEq, if_true, if_false, ite_true, ite_false, Nat.zero_add, eq_self, okn_some, okn_none, forall_const, true_or, or_true, false_or, or_false, Option.map_some, Option.map_none, Kd_setI, Ln_setI, Mr_setI, Kd_setR, Ln_setR, Mi_setR, Int.reduceNatCast', Int.reduceNeg, Int.reduceAdd, Int.reduceSub, Int.reduceMul, Int.reduceEq, Int.reduceNe, Int.reduceLT, Int.reduceLE, Nat.reduceAdd, Nat.reduceSub, Nat.reduceLT, Nat.reduceLeDiff, Nat.reduceEqDiff, Mi_setI, y1, y2, y3, y4, y5, k1]) | (refine bFa_putLast_37 _ _ _ _ _ ?_; simp only [o_const, o_null, o_lconst, o_iload, o_aload, o_istore, o_astore, o_iinc, o_iadd, o_isub, o_imul, o_idiv, o_irem, o_ineg, o_i2l, o_lcmp, o_dup, o_dup2, o_goto, o_max, o_min, o_objinit, o_icmplt, o_iflt, o_icmpge, o_ifge, o_icmpgt, o_ifgt, o_icmple, o_ifle, o_icmpeq, o_ifeq, o_icmpne, o_ifne, o_ifnull, o_ifnonnull, o_acmpeq, o_acmpne, o_tsw, tsw, o_getI, o_getR, o_putI, o_putZ, o_putR, o_iald, o_bald, o_lald, o_aald, o_iast, o_bast, o_last, o_aast, o_alen, o_new, o_newa, o_iret, o_zret, o_aret, o_vret, o_throw, o_call, o_callV, o_aft_v, o_aft_n, o_aft_x, o_up_e, lget, lset, all1, dr_some, List.take_succ_cons, List.take_zero, List.drop_succ_cons, List.drop_zero, List.reverse_cons, List.reverse_nil, List.nil_append, List.cons_append, List.length_cons, List.length_nil, List.take_nil, List.drop_nil, true_and, and_true, false_and, and_false, true_implies, implies_true, false_implies, ne_eq, not_true_eq_false, not_false_eq_true, reduceCtorEq, Option.some.injEq, if_true, if_false, ite_true, ite_false, Nat.zero_add, eq_self, okn_some, okn_none, forall_const, true_or, or_true, false_or, or_false, Option.map_some, Option.map_none, Kd_setI, Ln_setI, Mr_setI, Kd_setR, Ln_setR, Mi_setR, Int.reduceNatCast', Int.reduceNeg, Int.reduceAdd, Int.reduceSub, Int.reduceMul, Int.reduceEq, Int.reduceNe, Int.reduceLT, Int.reduceLE, Nat.reduceAdd, Nat.reduceSub, Nat.reduceLT, Nat.reduceLeDiff, Nat.reduceEqDiff, Mi_setI, y1, y2, y3, y4, y5, k1]) | (simp only [o_const, o_null, o_lconst, o_iload, o_aload, o_istore, o_astore, o_iinc, o_iadd, o_isub, o_imul, o_idiv, o_irem, o_ineg, o_i2l, o_lcmp, o_dup, o_dup2, o_goto, o_max, o_min, o_objinit, o_icmplt, o_iflt, o_icmpge, o_ifge, o_icmpgt, o_ifgt, o_icmple, o_ifle, o_icmpeq, o_ifeq, o_icmpne, o_ifne, o_ifnull, o_ifnonnull, o_acmpeq, o_acmpne, o_tsw, tsw, o_getI, o_getR, o_putI, o_putZ, o_putR, o_iald, o_bald, o_lald, o_aald, o_iast, o_bast, o_last, o_aast, o_alen, o_new, o_newa, o_iret, o_zret, o_aret, o_vret, o_throw, o_call, o_callV, o_aft_v, o_aft_n, o_aft_x, o_up_e, lget, lset, all1, dr_some, List.take_succ_cons, List.take_zero, List.drop_succ_cons, List.drop_zero, List.reverse_cons, List.reverse_nil, List.nil_append, List.cons_append, List.length_cons, List.length_nil, List.take_nil, List.drop_nil, true_and, and_true, false_and, and_false, true_implies, implies_true, false_implies, ne_eq, not_true_eq_false, not_false_eq_true, reduceCtorEq, Option.some.injEq, if_true, if_false, ite_true, ite_false, Nat.zero_add, eq_self, okn_some, okn_none, forall_const, true_or, or_true, false_or, or_false, Option.map_some, Option.map_none, Kd_setI, Ln_setI, Mr_setI, Kd_setR, Ln_setR, Mi_setR, Int.reduceNatCast', Int.reduceNeg, Int.reduceAdd, Int.reduceSub, Int.reduceMul, Int.reduceEq, Int.reduceNe, Int.reduceLT, Int.reduceLE, Nat.reduceAdd, Nat.reduceSub, Nat.reduceLT, Nat.reduceLeDiff, Nat.reduceEqDiff, Mi_setI, y1, y2, y3, y4, y5, k1]) | (unfold rng; omega) | omega)
  all_goals first | exact K9 | (subst_vars; exact k1) | (exfalso; omega) | done
theorem rstep_T {A : AS} (T : Stx A) (s : Int) (n : Nat) : Stx (rnn A s n) := T.of (fun g hg => rnn_f (fun q => by subst q; revert hg; decide) (fun q => by subst q; revert hg; decide) (fun q => by subst q; revert hg; decide) n)
theorem up44 {A : AS} {f g x : Int} : up (enq A f) 44 g 0 x = enq (up A 44 g 0 x) f := by
  have e : up A 44 g 0 x 42 0 0 = A 42 0 0 := up_f (by decide)
  funext k i j
  unfold enq
  rw [e]
  unfold up
  by_cases a : k = 42
  · subst a; simp
  · by_cases b : k = 43
    · subst b; simp
    · by_cases b : k = 44
      · subst b; simp
      · simp [a, b, *]
