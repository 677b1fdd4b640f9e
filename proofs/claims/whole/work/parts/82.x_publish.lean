theorem c_A_addVersion {d a b D : Nat} {v : Int} {h : Mh} {P : Out → Mh → Prop} (k1 : Kd h a = 1) (k2 : Mr h a 0 = some b) (k3 : Mi h a 1 = v) (k4 : Kd h b = 39) (k5 : Ln h b = 6) (k6 : Kd h D = 10) (hv : 0 ≤ v ∧ v < 6) (H : ∀ h', h' = setI (setR h b v (some D)) a 1 (v + 1) → P (.inl none) h') : Ct kA_addVersion d [pR (some a), pR (some D)] h P := by
  have K9 := H _ rfl
  obtain ⟨hv0, hv1⟩ := hv
  clear H
  refine eA_addVersion ?_
  repeat' (first | (with_reducible refine And.intro ?_ ?_) | (with_reducible intro _) | (exact Nat.le_of_ble_eq_true rfl) | (refine bA_addVersion_0 _ _ _ _ _ ?_; simp only [o_const, o_null, o_lconst, o_iload, o_aload, o_istore, o_astore, o_iinc, o_iadd, o_isub, o_imul, o_idiv, o_irem, o_ineg, o_i2l, o_lcmp, o_dup, o_dup2, o_goto, o_max, o_min, o_objinit, o_icmplt, o_iflt, o_icmpge, o_ifge, o_icmpgt, o_ifgt, o_icmple, o_ifle, o_icmpeq, o_ifeq, o_icmpne, o_ifne, o_ifnull, o_ifnonnull, o_acmpeq, o_acmpne, o_tsw, tsw, o_getI, o_getR, o_putI, o_putZ, o_putR, o_iald, o_bald, o_lald, o_aald, o_iast, o_bast, o_last, o_aast, o_alen, o_new, o_newa, o_iret, o_zret, o_aret, o_vret, o_throw, o_call, o_callV, o_aft_v, o_aft_n, o_aft_x, o_up_e, lget, lset, all1, dr_some, List.take_succ_cons, List.take_zero, List.drop_succ_cons, List.drop_zero, List.reverse_cons, List.reverse_nil, List.nil_append, List.cons_append, List.length_cons, List.length_nil, List.take_nil, List.drop_nil, true_and, and_true, false_and, and_false, true_implies, implies_true, false_implies, ne_eq, not_true_eq_false, not_false_eq_true, reduceCtorEq, Option.some.injEq, if_true, if_false, ite_true, ite_false, Nat.zero_add, eq_self, okn_some, okn_none, forall_const, true_or, or_true, false_or, or_false, Option.map_some, Option.map_none, Kd_setI, Ln_setI, Mr_setI, Kd_setR, Ln_setR, Mi_setR, Int.reduceNatCast', Int.reduceNeg, Int.reduceAdd, Int.reduceSub, Int.reduceMul, Int.reduceEq, Int.reduceNe, Int.reduceLT, Int.reduceLE, Nat.reduceAdd, Nat.reduceSub, Nat.reduceLT, Nat.reduceLeDiff, Nat.reduceEqDiff, Mi_setI, k1, k2, k3, k4, k5, k6]) | (simp only [o_const, o_null, o_lconst, o_iload, o_aload, o_istore, o_astore, o_iinc, o_iadd, o_isub, o_imul, o_idiv, o_irem, o_ineg, o_i2l, o_lcmp, o_dup, o_dup2, o_goto, o_max, o_min, o_objinit, o_icmplt, o_iflt, o_icmpge, o_ifge, o_icmpgt, o_ifgt, o_icmple, o_ifle, o_icmpeq, o_ifeq, o_icmpne, o_ifne, o_ifnull, o_ifnonnull, o_acmpeq, o_acmpne, o_tsw, tsw, o_getI, o_getR, o_putI, o_putZ, o_putR, o_iald, o_bald, o_lald, o_aald, o_iast, o_bast, o_last, o_aast, o_alen, o_new, o_newa, o_iret, o_zret, o_aret, o_vret, o_throw, o_call, o_callV, o_aft_v, o_aft_n, o_aft_x, o_up_e, lget, lset, all1, dr_some, List.take_succ_cons, List.take_zero, List.drop_succ_cons, List.drop_zero, List.reverse_cons, List.reverse_nil, List.nil_append, List.cons_append, List.length_cons, List.length_nil, List.take_nil, List.drop_nil, true_and, and_true, false_and, and_false, true_implies, implies_true, false_implies, ne_eq, not_true_eq_false, not_false_eq_true, reduceCtorEq, Option.some.injEq, if_true, if_false, ite_true, ite_false, Nat.zero_add, eq_self, okn_some, okn_none, forall_const, true_or, or_true, false_or, or_false, Option.map_some, Option.map_none, Kd_setI, Ln_setI, Mr_setI, Kd_setR, Ln_setR, Mi_setR, Int.reduceNatCast', Int.reduceNeg, Int.reduceAdd, Int.reduceSub, Int.reduceMul, Int.reduceEq, Int.reduceNe, Int.reduceLT, Int.reduceLE, Nat.reduceAdd, Nat.reduceSub, Nat.reduceLT, Nat.reduceLeDiff, Nat.reduceEqDiff, Mi_setI, k1, k2, k3, k4, k5, k6]) | (unfold rng; omega) | omega)
  all_goals first | exact K9 | (subst_vars; exact k6) | (unfold rng; omega) | done
theorem xo_publish {d : Nat} (hd : 14 ≤ d) {c : Int} {A : AS} {h : Mh} {P : Out → Mh → Prop} {a : Int} (R : RC A h) (T : Stx A) (I : IvS c A) (F : IvF A) (O : CcOk A A) (hG : IvG (up A 100 (6 * a + A 2 a 0) 0 (A 102 0 0))) (h102 : isA A a → A 2 a 0 < 6 → A 102 0 0 < 60) (H0 : th_publish A a = 0 → ∀ h', Sx h h' → RC (nx_publish A a) h' → P (.inl (some (pI (A 2 a 0 + 1)))) h') (H1 : th_publish A a = 1 → P (.inr eIx) h) (H2 : th_publish A a = 2 → P (.inr eIs) h) : Ct kX_publish d [pR (some 2), pI a] h P := by
  have V := T.1
  have J := T.2.1
  have va := V.2.1
  have g1 := T.2.2.2.2.2.2.1
  have d4 := J.2.2.2.1
  have d3 := J.2.2.1
  obtain ⟨D, eD⟩ : ∃ D : Nat, D = 10000 + 20 * (A 102 0 0).toNat := ⟨_, rfl⟩
  have rx1' := rx1 R
  have rx11' := rx11 R
  rw [← eD] at rx11'
  have hvv := R.xv.2.1
  unfold VDra VObj at hvv
  rw [← eD] at hvv
  have v1 := hvv.1.1
  clear hvv
  refine eX_publish ?_
  by_cases ha : isA A a
  · have a0 := ha.1
    have a1 := ha.2
    have v2 := V.2.2.1 a a0 (by omega)
    obtain ⟨u1, u2, u3, u4, u5, -⟩ := R.xa.1 a a0 a1
    by_cases z : canP A a
    · have e : th_publish A a = 0 := by unfold th_publish; rw [if_neg (fun q => q ha), cif_pos z]
      have hN := h102 ha z.1
      have z1 := z.1
      have KF : ∀ h1 h2 : Mh, h1 = setI (setR h (320 + a.toNat) (A 2 a 0) (some D)) (300 + a.toNat) 1 (A 2 a 0 + 1) → (∀ m, m ≠ D + 20 → m ≠ D + 20 + 1 → m ≠ D + 20 + 2 → Sam (setI (setR h1 11 (A 102 0 0) (some D)) 2 3 (A 102 0 0 + 1)) h2 m) → (Kd h2 (D + 20) = 10 ∧ Mr h2 (D + 20) 1 = some (D + 20 + 1) ∧ Mr h2 (D + 20) 3 = some (D + 20 + 2) ∧ Kd h2 (D + 20 + 1) = 32 ∧ Ln h2 (D + 20 + 1) = 6 ∧ Kd h2 (D + 20 + 2) = 39 ∧ Ln h2 (D + 20 + 2) = 3) → (∀ i, Mi h2 (D + 20) i = if i = 5 then 1 else 0) → P (.inl (some (pI (A 2 a 0 + 1)))) (setR h2 2 4 (some (D + 20))) := by
        intro h1 h2 e1 S2 kD mD
        have hne : ¬ exv A (6 * a + A 2 a 0) := fun q => by
          have q2 := q.2.2
          rw [show (6 * a + A 2 a 0) / 6 = a by omega] at q2
          omega
        have R1 := R.g100 T I F O (x := A 102 0 0) hne
        have T1 : Stx (up A 100 (6 * a + A 2 a 0) 0 (A 102 0 0)) := by
          obtain ⟨V9, D9, a16, a36, a47, a51, G9⟩ := T
          have e : ∀ g, g ≠ 100 → up A 100 (6 * a + A 2 a 0) 0 (A 102 0 0) g = A g := fun g q1 => by funext i j; rw [up_f q1]
          exact ⟨V9.of (fun g hg => e g (fun q => by subst q; revert hg; decide)), D9.of (fun g hg => e g (fun q => by subst q; revert hg; decide)), a16, a36, a47, a51, hG⟩
        have s0 : ∀ m, m ≠ 2 → m ≠ 11 → m ≠ 300 + a.toNat → m ≠ 320 + a.toNat → m ≠ D + 20 → m ≠ D + 21 → m ≠ D + 22 → Sam h (setR h2 2 4 (some (D + 20))) m := fun m q1 q2 q3 q4 q5 q6 q7 => by
          have y := S2 m q5 q6 q7
          rw [e1] at y
          exact (((((Sam.rfl'.setR q4).setI q3).setR q2).setI q1).trans y).setR q1
        refine H0 e _ (fun m n2 nr => s0 m n2 (by omega) (by omega) (by omega) (by omega) (by omega) (by omega)) ?_
        have S2' := S2 2 (by omega) (by omega) (by omega)
        have S11 := S2 11 (by omega) (by omega) (by omega)
        have SA := S2 (300 + a.toNat) (by omega) (by omega) (by omega)
        have SV := S2 (320 + a.toNat) (by omega) (by omega) (by omega)
        unfold nx_publish
        rw [cif_pos e]
        subst e1
        refine R1.pub (h := h) T1 (a := a) (its := 6 * a + A 2 a 0) (N := A 102 0 0) (D := D) ha z1 rfl rfl ⟨g1, hN⟩ (up_s) eD (fun g hg => ?_) (fun g v j hg hv => ?_) (fun i => ?_) ?_ ?_ (fun j j0 j1 => ?_) ?_ (fun j j0 j1 => ?_) ?_ ?_ ?_ ?_ ?_ s0 ?_ ?_ ?_ ?_ ?_ ?_ ?_ ?_ ?_ ?_ ?_
        · have hk : ∀ k, k ∈ [2, 3, 4, 5, 6, 7, 8, 11, 12, 14, 101, 102] → g ≠ k := fun k hk q => hg (q ▸ hk)
          have k2 := hk 2 (by decide)
          have k3 := hk 3 (by decide)
          have k4 := hk 4 (by decide)
          have k5 := hk 5 (by decide)
          have k6 := hk 6 (by decide)
          have k7 := hk 7 (by decide)
          have k8 := hk 8 (by decide)
          have k11 := hk 11 (by decide)
          have k12 := hk 12 (by decide)
          have k14 := hk 14 (by decide)
          have k101 := hk 101 (by decide)
          have k102 := hk 102 (by decide)
          funext i j
          simp [pb5, pb4, pb3, pb2, pb1, upr, up, k2, k3, k4, k5, k6, k7, k8, k11, k12, k14, k101, k102]
        · simp only [List.mem_cons, List.not_mem_nil, or_false] at hg
          rcases hg with rfl | rfl | rfl | rfl | rfl | rfl <;> simp [pb5, pb4, pb3, pb2, pb1, upr, up, hv]
        · simp [pb5, pb4, pb3, pb2, pb1, upr, up]
        · simp [pb5, pb4, pb3, pb2, pb1, upr, up]
        · simp [pb5, pb4, pb3, pb2, pb1, upr, up]
        · rw [up_f (by decide)] at j1
          simp [pb5, pb4, pb3, pb2, pb1, upr, up, j0, j1]
        · simp [pb5, pb4, pb3, pb2, pb1, upr, up]
        · rw [up_f (by decide)] at j1
          simp [pb5, pb4, pb3, pb2, pb1, upr, up, j0, j1]
        · rw [mxh_of (A := A) (by funext i j; rw [up_f (by decide)]) (by funext i j; rw [up_f (by decide)])]
          simp [pb5, pb4, pb3, pb2, pb1, upr, up]
        · simp [pb5, pb4, pb3, pb2, pb1, upr, up]
        · simp [pb5, pb4, pb3, pb2, pb1, upr, up]
        · simp [pb5, pb4, pb3, pb2, pb1, upr, up]
        · simp [pb5, pb4, pb3, pb2, pb1, upr, up]
        · rw [Kd_setR, S2'.1]; rfl
        · intro k hk
          rw [Mr_setR, if_neg (fun q => hk q.2), S2'.2.2.2, Mr_setI, Mr_setR, if_neg (by omega), Mr_setI, Mr_setR, if_neg (by omega)]
        · intro k hk
          rw [Mi_setR, S2'.2.2.1, Mi_setI, if_neg (fun q => hk q.2), Mi_setR, Mi_setI, if_neg (by omega), Mi_setR]
        · rw [Mi_setR, S2'.2.2.1, Mi_setI, if_pos ⟨rfl, rfl⟩]
        · rw [Mr_setR, if_pos ⟨rfl, rfl⟩]
        · rw [Kd_setR, Ln_setR, S11.1, S11.2.1]; exact ⟨rfl, rfl⟩
        · intro i
          rw [Mr_setR, if_neg (by omega), S11.2.2.2, Mr_setI, Mr_setR, Mr_setI, Mr_setR]
          by_cases y : i = A 102 0 0
          · rw [if_pos ⟨rfl, y⟩, if_pos y]
          · rw [if_neg (fun q => y q.2), if_neg y, if_neg (by omega)]
        · rw [Kd_setR, SA.1, Mi_setR, SA.2.2.1]
          refine ⟨rfl, ?_, ?_⟩
          · funext i
            rw [Mr_setR, if_neg (by omega), SA.2.2.2, Mr_setI, Mr_setR, if_neg (by omega), Mr_setI, Mr_setR, if_neg (by omega)]
          · rw [Mi_setI, if_neg (by omega), Mi_setR, Mi_setI, if_pos ⟨rfl, rfl⟩, up_f (by decide)]
        · rw [Kd_setR, Ln_setR, SV.1, SV.2.1]
          refine ⟨rfl, rfl, fun i => ?_⟩
          rw [Mr_setR, if_neg (by omega), SV.2.2.2, Mr_setI, Mr_setR, if_neg (by omega), Mr_setI, Mr_setR, up_f (by decide)]
          by_cases y : i = A 2 a 0
          · rw [if_pos ⟨rfl, y⟩, if_pos y]
          · rw [if_neg (fun q => y q.2), if_neg y]
        · rw [Kd_setR, Ln_setR, Mr_setR, if_neg (by omega), Mr_setR, if_neg (by omega)]; exact kD
        · intro i
          rw [Mi_setR]; exact mD i
      sorry
    · have K9 := H2 (by unfold th_publish; rw [if_neg (fun q => q ha), cif_neg z])
      have K8 : ∀ r : Int, r = 0 ∨ r = 1 → (r = 0 ↔ ∀ i, 0 ≤ i → i < A 14 0 0 → A 9 (A 15 i 0) 0 = 0) → A 2 a 0 < 6 → r ≠ 0 := fun r _ q y w => z ⟨y, q.1 w⟩
      clear H0 H1 H2
      repeat' (first | (with_reducible refine And.intro ?_ ?_) | (with_reducible intro _) | (exact Nat.le_of_ble_eq_true rfl) | (refine bX_publish_0 _ _ _ _ _ ?_; simp only [o_const, o_null, o_lconst, o_iload, o_aload, o_istore, o_astore, o_iinc, o_iadd, o_isub, o_imul, o_idiv, o_irem, o_ineg, o_i2l, o_lcmp, o_dup, o_dup2, o_goto, o_max, o_min, o_objinit, o_icmplt, o_iflt, o_icmpge, o_ifge, o_icmpgt, o_ifgt, o_icmple, o_ifle, o_icmpeq, o_ifeq, o_icmpne, o_ifne, o_ifnull, o_ifnonnull, o_acmpeq, o_acmpne, o_tsw, tsw, o_getI, o_getR, o_putI, o_putZ, o_putR, o_iald, o_bald, o_lald, o_aald, o_iast, o_bast, o_last, o_aast, o_alen, o_new, o_newa, o_iret, o_zret, o_aret, o_vret, o_throw, o_call, o_callV, o_aft_v, o_aft_n, o_aft_x, o_up_e, lget, lset, all1, dr_some, List.take_succ_cons, List.take_zero, List.drop_succ_cons, List.drop_zero, List.reverse_cons, List.reverse_nil, List.nil_append, List.cons_append, List.length_cons, List.length_nil, List.take_nil, List.drop_nil, true_and, and_true, false_and, and_false, true_implies, implies_true, false_implies, ne_eq, not_true_eq_false, not_false_eq_true, reduceCtorEq, Option.some.injEq, if_true, if_false, ite_true, ite_false, Nat.zero_add, eq_self, okn_some, okn_none, forall_const, true_or, or_true, false_or, or_false, Option.map_some, Option.map_none, Kd_setI, Ln_setI, Mr_setI, Kd_setR, Ln_setR, Mi_setR, Int.reduceNatCast', Int.reduceNeg, Int.reduceAdd, Int.reduceSub, Int.reduceMul, Int.reduceEq, Int.reduceNe, Int.reduceLT, Int.reduceLE, Nat.reduceAdd, Nat.reduceSub, Nat.reduceLT, Nat.reduceLeDiff, Nat.reduceEqDiff, Mi_setI, rx1', rx11', u1, u3]) | (refine bX_publish_29 _ _ _ _ _ ?_; simp only [o_const, o_null, o_lconst, o_iload, o_aload, o_istore, o_astore, o_iinc, o_iadd, o_isub, o_imul, o_idiv, o_irem, o_ineg, o_i2l, o_lcmp, o_dup, o_dup2, o_goto, o_max, o_min, o_objinit, o_icmplt, o_iflt, o_icmpge, o_ifge, o_icmpgt, o_ifgt, o_icmple, o_ifle, o_icmpeq, o_ifeq, o_icmpne, o_ifne, o_ifnull, o_ifnonnull, o_acmpeq, o_acmpne, o_tsw, tsw, o_getI, o_getR, o_putI, o_putZ, o_putR, o_iald, o_bald, o_lald, o_aald, o_iast, o_bast, o_last, o_aast, o_alen, o_new, o_newa, o_iret, o_zret, o_aret, o_vret, o_throw, o_call, o_callV, o_aft_v, o_aft_n, o_aft_x, o_up_e, lget, lset, all1, dr_some, List.take_succ_cons, List.take_zero, List.drop_succ_cons, List.drop_zero, List.reverse_cons, List.reverse_nil, List.nil_append, List.cons_append, List.length_cons, List.length_nil, List.take_nil, List.drop_nil, true_and, and_true, false_and, and_false, true_implies, implies_true, false_implies, ne_eq, not_true_eq_false, not_false_eq_true, reduceCtorEq, Option.some.injEq, if_true, if_false, ite_true, ite_false, Nat.zero_add, eq_self, okn_some, okn_none, forall_const, true_or, or_true, false_or, or_false, Option.map_some, Option.map_none, Kd_setI, Ln_setI, Mr_setI, Kd_setR, Ln_setR, Mi_setR, Int.reduceNatCast', Int.reduceNeg, Int.reduceAdd, Int.reduceSub, Int.reduceMul, Int.reduceEq, Int.reduceNe, Int.reduceLT, Int.reduceLE, Nat.reduceAdd, Nat.reduceSub, Nat.reduceLT, Nat.reduceLeDiff, Nat.reduceEqDiff, Mi_setI, rx1', rx11', u1, u3]) | (refine bX_publish_30 _ _ _ _ _ ?_; simp only [o_const, o_null, o_lconst, o_iload, o_aload, o_istore, o_astore, o_iinc, o_iadd, o_isub, o_imul, o_idiv, o_irem, o_ineg, o_i2l, o_lcmp, o_dup, o_dup2, o_goto, o_max, o_min, o_objinit, o_icmplt, o_iflt, o_icmpge, o_ifge, o_icmpgt, o_ifgt, o_icmple, o_ifle, o_icmpeq, o_ifeq, o_icmpne, o_ifne, o_ifnull, o_ifnonnull, o_acmpeq, o_acmpne, o_tsw, tsw, o_getI, o_getR, o_putI, o_putZ, o_putR, o_iald, o_bald, o_lald, o_aald, o_iast, o_bast, o_last, o_aast, o_alen, o_new, o_newa, o_iret, o_zret, o_aret, o_vret, o_throw, o_call, o_callV, o_aft_v, o_aft_n, o_aft_x, o_up_e, lget, lset, all1, dr_some, List.take_succ_cons, List.take_zero, List.drop_succ_cons, List.drop_zero, List.reverse_cons, List.reverse_nil, List.nil_append, List.cons_append, List.length_cons, List.length_nil, List.take_nil, List.drop_nil, true_and, and_true, false_and, and_false, true_implies, implies_true, false_implies, ne_eq, not_true_eq_false, not_false_eq_true, reduceCtorEq, Option.some.injEq, if_true, if_false, ite_true, ite_false, Nat.zero_add, eq_self, okn_some, okn_none, forall_const, true_or, or_true, false_or, or_false, Option.map_some, Option.map_none, Kd_setI, Ln_setI, Mr_setI, Kd_setR, Ln_setR, Mi_setR, Int.reduceNatCast', Int.reduceNeg, Int.reduceAdd, Int.reduceSub, Int.reduceMul, Int.reduceEq, Int.reduceNe, Int.reduceLT, Int.reduceLE, Nat.reduceAdd, Nat.reduceSub, Nat.reduceLT, Nat.reduceLeDiff, Nat.reduceEqDiff, Mi_setI, rx1', rx11', u1, u3]) | (refine c_X_assetAt (by omega) R V (fun z9 => ?_) (fun z9 => absurd ha z9)) | (refine c_Ve_hasRetractedParent R V J eD (fun r r1 r2 => ?_)) | (refine c_X_requireState (by omega) (fun z9 => ?_) (fun z9 => ?_)) | (simp only [o_const, o_null, o_lconst, o_iload, o_aload, o_istore, o_astore, o_iinc, o_iadd, o_isub, o_imul, o_idiv, o_irem, o_ineg, o_i2l, o_lcmp, o_dup, o_dup2, o_goto, o_max, o_min, o_objinit, o_icmplt, o_iflt, o_icmpge, o_ifge, o_icmpgt, o_ifgt, o_icmple, o_ifle, o_icmpeq, o_ifeq, o_icmpne, o_ifne, o_ifnull, o_ifnonnull, o_acmpeq, o_acmpne, o_tsw, tsw, o_getI, o_getR, o_putI, o_putZ, o_putR, o_iald, o_bald, o_lald, o_aald, o_iast, o_bast, o_last, o_aast, o_alen, o_new, o_newa, o_iret, o_zret, o_aret, o_vret, o_throw, o_call, o_callV, o_aft_v, o_aft_n, o_aft_x, o_up_e, lget, lset, all1, dr_some, List.take_succ_cons, List.take_zero, List.drop_succ_cons, List.drop_zero, List.reverse_cons, List.reverse_nil, List.nil_append, List.cons_append, List.length_cons, List.length_nil, List.take_nil, List.drop_nil, true_and, and_true, false_and, and_false, true_implies, implies_true, false_implies, ne_eq, not_true_eq_false, not_false_eq_true, reduceCtorEq, Option.some.injEq, if_true, if_false, ite_true, ite_false, Nat.zero_add, eq_self, okn_some, okn_none, forall_const, true_or, or_true, false_or, or_false, Option.map_some, Option.map_none, Kd_setI, Ln_setI, Mr_setI, Kd_setR, Ln_setR, Mi_setR, Int.reduceNatCast', Int.reduceNeg, Int.reduceAdd, Int.reduceSub, Int.reduceMul, Int.reduceEq, Int.reduceNe, Int.reduceLT, Int.reduceLE, Nat.reduceAdd, Nat.reduceSub, Nat.reduceLT, Nat.reduceLeDiff, Nat.reduceEqDiff, Mi_setI, rx1', rx11', u1, u3]) | (unfold rng; omega) | omega)
      all_goals first | exact K9 | exact absurd (by omega) (K8 r r1 r2 (by omega)) | (exfalso; omega)
  · have K9 := H1 (by unfold th_publish; rw [if_pos ha])
    clear H0 H1 H2
    repeat' (first | (with_reducible refine And.intro ?_ ?_) | (with_reducible intro _) | (exact Nat.le_of_ble_eq_true rfl) | (refine bX_publish_0 _ _ _ _ _ ?_; simp only [o_const, o_null, o_lconst, o_iload, o_aload, o_istore, o_astore, o_iinc, o_iadd, o_isub, o_imul, o_idiv, o_irem, o_ineg, o_i2l, o_lcmp, o_dup, o_dup2, o_goto, o_max, o_min, o_objinit, o_icmplt, o_iflt, o_icmpge, o_ifge, o_icmpgt, o_ifgt, o_icmple, o_ifle, o_icmpeq, o_ifeq, o_icmpne, o_ifne, o_ifnull, o_ifnonnull, o_acmpeq, o_acmpne, o_tsw, tsw, o_getI, o_getR, o_putI, o_putZ, o_putR, o_iald, o_bald, o_lald, o_aald, o_iast, o_bast, o_last, o_aast, o_alen, o_new, o_newa, o_iret, o_zret, o_aret, o_vret, o_throw, o_call, o_callV, o_aft_v, o_aft_n, o_aft_x, o_up_e, lget, lset, all1, dr_some, List.take_succ_cons, List.take_zero, List.drop_succ_cons, List.drop_zero, List.reverse_cons, List.reverse_nil, List.nil_append, List.cons_append, List.length_cons, List.length_nil, List.take_nil, List.drop_nil, true_and, and_true, false_and, and_false, true_implies, implies_true, false_implies, ne_eq, not_true_eq_false, not_false_eq_true, reduceCtorEq, Option.some.injEq, if_true, if_false, ite_true, ite_false, Nat.zero_add, eq_self, okn_some, okn_none, forall_const, true_or, or_true, false_or, or_false, Option.map_some, Option.map_none, Kd_setI, Ln_setI, Mr_setI, Kd_setR, Ln_setR, Mi_setR, Int.reduceNatCast', Int.reduceNeg, Int.reduceAdd, Int.reduceSub, Int.reduceMul, Int.reduceEq, Int.reduceNe, Int.reduceLT, Int.reduceLE, Nat.reduceAdd, Nat.reduceSub, Nat.reduceLT, Nat.reduceLeDiff, Nat.reduceEqDiff, Mi_setI, rx1']) | (refine bX_publish_29 _ _ _ _ _ ?_; simp only [o_const, o_null, o_lconst, o_iload, o_aload, o_istore, o_astore, o_iinc, o_iadd, o_isub, o_imul, o_idiv, o_irem, o_ineg, o_i2l, o_lcmp, o_dup, o_dup2, o_goto, o_max, o_min, o_objinit, o_icmplt, o_iflt, o_icmpge, o_ifge, o_icmpgt, o_ifgt, o_icmple, o_ifle, o_icmpeq, o_ifeq, o_icmpne, o_ifne, o_ifnull, o_ifnonnull, o_acmpeq, o_acmpne, o_tsw, tsw, o_getI, o_getR, o_putI, o_putZ, o_putR, o_iald, o_bald, o_lald, o_aald, o_iast, o_bast, o_last, o_aast, o_alen, o_new, o_newa, o_iret, o_zret, o_aret, o_vret, o_throw, o_call, o_callV, o_aft_v, o_aft_n, o_aft_x, o_up_e, lget, lset, all1, dr_some, List.take_succ_cons, List.take_zero, List.drop_succ_cons, List.drop_zero, List.reverse_cons, List.reverse_nil, List.nil_append, List.cons_append, List.length_cons, List.length_nil, List.take_nil, List.drop_nil, true_and, and_true, false_and, and_false, true_implies, implies_true, false_implies, ne_eq, not_true_eq_false, not_false_eq_true, reduceCtorEq, Option.some.injEq, if_true, if_false, ite_true, ite_false, Nat.zero_add, eq_self, okn_some, okn_none, forall_const, true_or, or_true, false_or, or_false, Option.map_some, Option.map_none, Kd_setI, Ln_setI, Mr_setI, Kd_setR, Ln_setR, Mi_setR, Int.reduceNatCast', Int.reduceNeg, Int.reduceAdd, Int.reduceSub, Int.reduceMul, Int.reduceEq, Int.reduceNe, Int.reduceLT, Int.reduceLE, Nat.reduceAdd, Nat.reduceSub, Nat.reduceLT, Nat.reduceLeDiff, Nat.reduceEqDiff, Mi_setI, rx1']) | (refine bX_publish_30 _ _ _ _ _ ?_; simp only [o_const, o_null, o_lconst, o_iload, o_aload, o_istore, o_astore, o_iinc, o_iadd, o_isub, o_imul, o_idiv, o_irem, o_ineg, o_i2l, o_lcmp, o_dup, o_dup2, o_goto, o_max, o_min, o_objinit, o_icmplt, o_iflt, o_icmpge, o_ifge, o_icmpgt, o_ifgt, o_icmple, o_ifle, o_icmpeq, o_ifeq, o_icmpne, o_ifne, o_ifnull, o_ifnonnull, o_acmpeq, o_acmpne, o_tsw, tsw, o_getI, o_getR, o_putI, o_putZ, o_putR, o_iald, o_bald, o_lald, o_aald, o_iast, o_bast, o_last, o_aast, o_alen, o_new, o_newa, o_iret, o_zret, o_aret, o_vret, o_throw, o_call, o_callV, o_aft_v, o_aft_n, o_aft_x, o_up_e, lget, lset, all1, dr_some, List.take_succ_cons, List.take_zero, List.drop_succ_cons, List.drop_zero, List.reverse_cons, List.reverse_nil, List.nil_append, List.cons_append, List.length_cons, List.length_nil, List.take_nil, List.drop_nil, true_and, and_true, false_and, and_false, true_implies, implies_true, false_implies, ne_eq, not_true_eq_false, not_false_eq_true, reduceCtorEq, Option.some.injEq, if_true, if_false, ite_true, ite_false, Nat.zero_add, eq_self, okn_some, okn_none, forall_const, true_or, or_true, false_or, or_false, Option.map_some, Option.map_none, Kd_setI, Ln_setI, Mr_setI, Kd_setR, Ln_setR, Mi_setR, Int.reduceNatCast', Int.reduceNeg, Int.reduceAdd, Int.reduceSub, Int.reduceMul, Int.reduceEq, Int.reduceNe, Int.reduceLT, Int.reduceLE, Nat.reduceAdd, Nat.reduceSub, Nat.reduceLT, Nat.reduceLeDiff, Nat.reduceEqDiff, Mi_setI, rx1']) | (refine c_X_assetAt (by omega) R V (fun z9 => absurd z9 ha) (fun z9 => ?_)) | (simp only [o_const, o_null, o_lconst, o_iload, o_aload, o_istore, o_astore, o_iinc, o_iadd, o_isub, o_imul, o_idiv, o_irem, o_ineg, o_i2l, o_lcmp, o_dup, o_dup2, o_goto, o_max, o_min, o_objinit, o_icmplt, o_iflt, o_icmpge, o_ifge, o_icmpgt, o_ifgt, o_icmple, o_ifle, o_icmpeq, o_ifeq, o_icmpne, o_ifne, o_ifnull, o_ifnonnull, o_acmpeq, o_acmpne, o_tsw, tsw, o_getI, o_getR, o_putI, o_putZ, o_putR, o_iald, o_bald, o_lald, o_aald, o_iast, o_bast, o_last, o_aast, o_alen, o_new, o_newa, o_iret, o_zret, o_aret, o_vret, o_throw, o_call, o_callV, o_aft_v, o_aft_n, o_aft_x, o_up_e, lget, lset, all1, dr_some, List.take_succ_cons, List.take_zero, List.drop_succ_cons, List.drop_zero, List.reverse_cons, List.reverse_nil, List.nil_append, List.cons_append, List.length_cons, List.length_nil, List.take_nil, List.drop_nil, true_and, and_true, false_and, and_false, true_implies, implies_true, false_implies, ne_eq, not_true_eq_false, not_false_eq_true, reduceCtorEq, Option.some.injEq, if_true, if_false, ite_true, ite_false, Nat.zero_add, eq_self, okn_some, okn_none, forall_const, true_or, or_true, false_or, or_false, Option.map_some, Option.map_none, Kd_setI, Ln_setI, Mr_setI, Kd_setR, Ln_setR, Mi_setR, Int.reduceNatCast', Int.reduceNeg, Int.reduceAdd, Int.reduceSub, Int.reduceMul, Int.reduceEq, Int.reduceNe, Int.reduceLT, Int.reduceLE, Nat.reduceAdd, Nat.reduceSub, Nat.reduceLT, Nat.reduceLeDiff, Nat.reduceEqDiff, Mi_setI, rx1']) | (unfold rng; omega) | omega)
    all_goals first | exact K9 | (exfalso; omega)
