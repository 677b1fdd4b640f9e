theorem RM.keydrop {A : AS} {h h' : Mh} (R : RM A h) {s k : Int} (s0 : 0 ≤ s) (s1 : s < 5) (k0 : 20 * s ≤ k) (k1 : k < 20 * s + A 23 s 0)
    (hb : ∀ s', 0 ≤ s' → s' < 5 → 0 ≤ A 23 s' 0 ∧ A 23 s' 0 ≤ 20)
    (e1 : Kd h' = Kd h) (e2 : Ln h' = Ln h) (e3 : Mr h' = Mr h) (hm : ∀ m, m ≠ 1023 → m ≠ 1024 → m ≠ 1025 → m ≠ 1026 → Mi h' m = Mi h m)
    (w23 : ∀ i, Mi h' 1023 i = if i = s then A 23 s 0 - 1 else Mi h 1023 i) (wk : ∀ m, m = 1024 ∨ m = 1025 ∨ m = 1026 → ∀ i, Mi h' m i = if k ≤ i ∧ i + 1 < 20 * s + A 23 s 0 then Mi h m (i + 1) else Mi h m i) :
    RM (up (up A 24 (Mi h 1025 k) (Mi h 1024 k) 0) 23 s 0 (A 23 s 0 - 1)) h' := by
  have eA : ∀ i, up (up A 24 (Mi h 1025 k) (Mi h 1024 k) 0) 23 s 0 (A 23 s 0 - 1) 23 i 0 = if i = s then A 23 s 0 - 1 else A 23 i 0 := by
    intro i
    rw [up_at, up_f (by decide)]
    simp
  have eB : ∀ i j, up (up A 24 (Mi h 1025 k) (Mi h 1024 k) 0) 23 s 0 (A 23 s 0 - 1) 24 i j = if i = Mi h 1025 k ∧ j = Mi h 1024 k then 0 else A 24 i j := by
    intro i j
    rw [up_f (by decide), up_at]
  have eC : ∀ i j, up (up A 24 (Mi h 1025 k) (Mi h 1024 k) 0) 23 s 0 (A 23 s 0 - 1) 25 i j = A 25 i j := by
    intro i j
    rw [up_f (by decide), up_f (by decide)]
  have hbs := hb s s0 s1
  have hks := (R.2.2.2.2.1 s s0 s1).1 k k0 k1
  refine R.keysW e1 e2 e3 hm (fun g g1 g2 g3 => by funext i j; rw [up_f g1, up_f g2]) (fun i i0 i1 => ?_) (fun t t0 t1 => ?_)
  · rw [w23, eA, rp_23 R i0 i1]
  · obtain ⟨q1, q2, q3⟩ := R.2.2.2.2.1 t t0 t1
    have hbt := hb t t0 t1
    simp only [eA, eB, eC]
    by_cases ht : t = s
    · subst ht
      simp only [if_true]
      have G : ∀ i, 20 * t ≤ i → i < 20 * t + (A 23 t 0 - 1) → ∃ j, 20 * t ≤ j ∧ j < 20 * t + A 23 t 0 ∧ j ≠ k ∧ ((i < k ∧ j = i) ∨ (k ≤ i ∧ j = i + 1)) ∧ Mi h' 1024 i = Mi h 1024 j ∧ Mi h' 1025 i = Mi h 1025 j ∧ Mi h' 1026 i = Mi h 1026 j := by
        intro i i0 i1
        rw [wk 1024 (by simp), wk 1025 (by simp), wk 1026 (by simp)]
        by_cases z : k ≤ i
        · rw [if_pos ⟨z, by omega⟩, if_pos ⟨z, by omega⟩, if_pos ⟨z, by omega⟩]
          exact ⟨i + 1, by omega, by omega, by omega, Or.inr ⟨z, rfl⟩, rfl, rfl, rfl⟩
        · rw [if_neg (fun q => z q.1), if_neg (fun q => z q.1), if_neg (fun q => z q.1)]
          exact ⟨i, by omega, by omega, by omega, Or.inl ⟨by omega, rfl⟩, rfl, rfl, rfl⟩
      have D : ∀ j, 20 * t ≤ j → j < 20 * t + A 23 t 0 → j ≠ k → ¬ (Mi h 1025 j = Mi h 1025 k ∧ Mi h 1024 j = Mi h 1024 k) := by
        intro j j0 j1 jk
        rintro ⟨v1, v2⟩
        rcases (by omega : j < k ∨ k < j) with y | y
        · exact q3 j k j0 y k1 ⟨v1, v2⟩
        · exact q3 k j k0 y j1 ⟨v1.symm, v2.symm⟩
      refine ⟨fun i i0 i1 => ?_, fun g m g0 g1 m0 m1 hne => ?_, fun i i' i0 i1 i2 => ?_⟩
      · obtain ⟨j, j0, j1, j2, j3, j4, j5, j6⟩ := G i i0 i1
        rw [j4, j5, j6, if_neg (D j j0 j1 j2)]
        exact q1 j j0 j1
      · by_cases z : g = Mi h 1025 k ∧ m = Mi h 1024 k
        · rw [if_pos z] at hne; exact absurd rfl hne
        · rw [if_neg z] at hne
          obtain ⟨j, j0, j1, j2, j3⟩ := q2 g m g0 g1 m0 m1 hne
          have jk : j ≠ k := fun y => z (by subst y; exact ⟨j2.symm, j3.symm⟩)
          rcases (by omega : j < k ∨ k < j) with y | y
          · refine ⟨j, j0, by omega, ?_, ?_⟩
            · rw [wk 1025 (by simp), if_neg (by omega)]; exact j2
            · rw [wk 1024 (by simp), if_neg (by omega)]; exact j3
          · refine ⟨j - 1, by omega, by omega, ?_, ?_⟩
            · rw [wk 1025 (by simp), if_pos (by omega), show j - 1 + 1 = j by omega]; exact j2
            · rw [wk 1024 (by simp), if_pos (by omega), show j - 1 + 1 = j by omega]; exact j3
      · obtain ⟨j, j0, j1, j2, j3, j4, j5, j6⟩ := G i i0 (by omega)
        obtain ⟨j', j0', j1', j2', j3', j4', j5', j6'⟩ := G i' (by omega) i2
        rw [j4, j5, j4', j5']
        exact q3 j j' j0 (by omega) j1'
    · simp only [ht, if_false]
      have kk : ∀ m, m = 1024 ∨ m = 1025 ∨ m = 1026 → ∀ i, 20 * t ≤ i → i < 20 * t + A 23 t 0 → Mi h' m i = Mi h m i := fun m hm i i0 i1 => by
        rw [wk m hm, if_neg (by omega)]
      refine ⟨fun i i0 i1 => ?_, fun g m g0 g1 m0 m1 hne => ?_, fun i i' i0 i1 i2 => ?_⟩
      · rw [kk 1024 (by simp) i i0 i1, kk 1025 (by simp) i i0 i1, kk 1026 (by simp) i i0 i1]
        obtain ⟨u1, u2, u3, u4, u5, u6⟩ := q1 i i0 i1
        rw [if_neg (by omega)]
        exact ⟨u1, u2, u3, u4, u5, u6⟩
      · rw [if_neg (by omega)] at hne
        obtain ⟨i, i0, i1, i2, i3⟩ := q2 g m g0 g1 m0 m1 hne
        exact ⟨i, i0, i1, by rw [kk 1025 (by simp) i i0 i1]; exact i2, by rw [kk 1024 (by simp) i i0 i1]; exact i3⟩
      · rw [kk 1024 (by simp) i i0 (by omega), kk 1025 (by simp) i i0 (by omega), kk 1024 (by simp) i' (by omega) i2, kk 1025 (by simp) i' (by omega) i2]
        exact q3 i i' i0 i1 i2
theorem l_drops {d : Nat} {A : AS} {h0 : Mh} {P : Out → Mh → Prop} {s k : Int} {c9 s9 : Nat} (R : RM A h0) (s0 : 0 ≤ s) (s1 : s < 5) (k0 : 20 * s ≤ k) (k1 : k < 20 * s + A 23 s 0) (hb : ∀ s', 0 ≤ s' → s' < 5 → 0 ≤ A 23 s' 0 ∧ A 23 s' 0 ≤ 20)
    (H : ∀ h', Sm h0 h' → Mi h' 3 0 = Mi h0 3 0 → (∀ i, i < k → Mi h' 1024 i = Mi h0 1024 i ∧ Mi h' 1025 i = Mi h0 1025 i) → RM (up (up A 24 (Mi h0 1025 k) (Mi h0 1024 k) 0) 23 s 0 (A 23 s 0 - 1)) h' → P (.inl none) h') :
    ∀ (m : Nat) (n : Int) (h : Mh), 20 * s + A 23 s 0 - 1 - n = m → k ≤ n → Sm h0 h → (∀ m, m ≠ 1024 → m ≠ 1025 → m ≠ 1026 → Mi h m = Mi h0 m) → (∀ m, m = 1024 ∨ m = 1025 ∨ m = 1026 → ∀ i, Mi h m i = if k ≤ i ∧ i < n then Mi h0 m (i + 1) else Mi h0 m i) → Ru kM_drops d none P 2 [some (pR (some 3)), some (pI s), some (pI k), some (pI n)] [] h c9 s9 := by
  have hbs := hb s s0 s1
  intro m
  induction m with
  | zero =>
    intro n h hm hn S F G
    have e : n = 20 * s + A 23 s 0 - 1 := by omega
    have W : Mwf h := S.wf R.1
    have e23 : Mi h 1023 s = A 23 s 0 := by rw [F 1023 (by decide) (by decide) (by decide)]; exact rp_23 R s0 s1
    have K9 := H (setI h 1023 s (A 23 s 0 - 1)) (S.set (by simp)) (by rw [Mi_setI, if_neg (fun q => by omega), F 3 (by decide) (by decide) (by decide)]) (fun i hi => by
      rw [Mi_setI, if_neg (fun q => by omega), Mi_setI, if_neg (fun q => by omega), G 1024 (by simp), G 1025 (by simp), if_neg (by omega), if_neg (by omega)]
      exact ⟨rfl, rfl⟩) (R.keydrop s0 s1 k0 k1 hb S.1 S.2.1 S.2.2.1 (fun m m1 m2 m3 m4 => by
        funext i; rw [Mi_setI, if_neg (fun q => m1 q.1), F m m2 m3 m4]) (fun i => by
        rw [Mi_setI]
        by_cases z : i = s
        · rw [if_pos ⟨rfl, z⟩, if_pos z]
        · rw [if_neg (fun q => z q.2), if_neg z, F 1023 (by decide) (by decide) (by decide)]) (fun m hm i => by
        rw [Mi_setI, if_neg (fun q => by omega), G m hm]
        by_cases z : k ≤ i ∧ i < n
        · rw [if_pos z, if_pos (by omega)]
        · rw [if_neg z, if_neg (by omega)]))
    refine bM_drops_2 _ _ _ _ _ ?_; simp only [o_const, o_null, o_lconst, o_iload, o_aload, o_istore, o_astore, o_iinc, o_iadd, o_isub, o_imul, o_idiv, o_irem, o_ineg, o_i2l, o_lcmp, o_dup, o_dup2, o_goto, o_max, o_min, o_objinit, o_icmplt, o_iflt, o_icmpge, o_ifge, o_icmpgt, o_ifgt, o_icmple, o_ifle, o_icmpeq, o_ifeq, o_icmpne, o_ifne, o_ifnull, o_ifnonnull, o_acmpeq, o_acmpne, o_tsw, tsw, o_getI, o_getR, o_putI, o_putZ, o_putR, o_iald, o_bald, o_lald, o_aald, o_iast, o_bast, o_last, o_aast, o_alen, o_new, o_newa, o_iret, o_zret, o_aret, o_vret, o_throw, o_call, o_callV, o_aft_v, o_aft_n, o_aft_x, o_up_e, lget, lset, all1, dr_some, List.take_succ_cons, List.take_zero, List.drop_succ_cons, List.drop_zero, List.reverse_cons, List.reverse_nil, List.nil_append, List.cons_append, List.length_cons, List.length_nil, List.take_nil, List.drop_nil, true_and, and_true, false_and, and_false, true_implies, implies_true, false_implies, ne_eq, not_true_eq_false, not_false_eq_true, reduceCtorEq, Option.some.injEq, if_true, if_false, ite_true, ite_false, Nat.zero_add, eq_self, okn_some, okn_none, forall_const, true_or, or_true, false_or, or_false, Option.map_some, Option.map_none, Kd_setI, Ln_setI, Mr_setI, Kd_setR, Ln_setR, Mi_setR, Int.reduceNatCast', Int.reduceNeg, Int.reduceAdd, Int.reduceSub, Int.reduceMul, Int.reduceEq, Int.reduceNe, Int.reduceLT, Int.reduceLE, Nat.reduceAdd, Nat.reduceSub, Nat.reduceLT, Nat.reduceLeDiff, Nat.reduceEqDiff, Mi_setI, e23, W.1, mwr_23 W, mwk_23 W, mwl_23 W, mwr_24 W, mwk_24 W, mwl_24 W, mwr_25 W, mwk_25 W, mwl_25 W, mwr_26 W, mwk_26 W, mwl_26 W]
    repeat' (first | (with_reducible refine And.intro ?_ ?_) | (with_reducible intro _) | (exact Nat.le_of_ble_eq_true rfl) | (refine bM_drops_0 _ _ _ _ _ ?_; simp only [o_const, o_null, o_lconst, o_iload, o_aload, o_istore, o_astore, o_iinc, o_iadd, o_isub, o_imul, o_idiv, o_irem, o_ineg, o_i2l, o_lcmp, o_dup, o_dup2, o_goto, o_max, o_min, o_objinit, o_icmplt, o_iflt, o_icmpge, o_ifge, o_icmpgt, o_ifgt, o_icmple, o_ifle, o_icmpeq, o_ifeq, o_icmpne, o_ifne, o_ifnull, o_ifnonnull, o_acmpeq, o_acmpne, o_tsw, tsw, o_getI, o_getR, o_putI, o_putZ, o_putR, o_iald, o_bald, o_lald, o_aald, o_iast, o_bast, o_last, o_aast, o_alen, o_new, o_newa, o_iret, o_zret, o_aret, o_vret, o_throw, o_call, o_callV, o_aft_v, o_aft_n, o_aft_x, o_up_e, lget, lset, all1, dr_some, List.take_succ_cons, List.take_zero, List.drop_succ_cons, List.drop_zero, List.reverse_cons, List.reverse_nil, List.nil_append, List.cons_append, List.length_cons, List.length_nil, List.take_nil, List.drop_nil, true_and, and_true, false_and, and_false, true_implies, implies_true, false_implies, ne_eq, not_true_eq_false, not_false_eq_true, reduceCtorEq, Option.some.injEq, if_true, if_false, ite_true, ite_false, Nat.zero_add, eq_self, okn_some, okn_none, forall_const, true_or, or_true, false_or, or_false, Option.map_some, Option.map_none, Kd_setI, Ln_setI, Mr_setI, Kd_setR, Ln_setR, Mi_setR, Int.reduceNatCast', Int.reduceNeg, Int.reduceAdd, Int.reduceSub, Int.reduceMul, Int.reduceEq, Int.reduceNe, Int.reduceLT, Int.reduceLE, Nat.reduceAdd, Nat.reduceSub, Nat.reduceLT, Nat.reduceLeDiff, Nat.reduceEqDiff, Mi_setI, e23, W.1, mwr_23 W, mwk_23 W, mwl_23 W, mwr_24 W, mwk_24 W, mwl_24 W, mwr_25 W, mwk_25 W, mwl_25 W, mwr_26 W, mwk_26 W, mwl_26 W]) | (refine bM_drops_67 _ _ _ _ _ ?_; simp only [o_const, o_null, o_lconst, o_iload, o_aload, o_istore, o_astore, o_iinc, o_iadd, o_isub, o_imul, o_idiv, o_irem, o_ineg, o_i2l, o_lcmp, o_dup, o_dup2, o_goto, o_max, o_min, o_objinit, o_icmplt, o_iflt, o_icmpge, o_ifge, o_icmpgt, o_ifgt, o_icmple, o_ifle, o_icmpeq, o_ifeq, o_icmpne, o_ifne, o_ifnull, o_ifnonnull, o_acmpeq, o_acmpne, o_tsw, tsw, o_getI, o_getR, o_putI, o_putZ, o_putR, o_iald, o_bald, o_lald, o_aald, o_iast, o_bast, o_last, o_aast, o_alen, o_new, o_newa, o_iret, o_zret, o_aret, o_vret, o_throw, o_call, o_callV, o_aft_v, o_aft_n, o_aft_x, o_up_e, lget, lset, all1, dr_some, List.take_succ_cons, List.take_zero, List.drop_succ_cons, List.drop_zero, List.reverse_cons, List.reverse_nil, List.nil_append, List.cons_append, List.length_cons, List.length_nil, List.take_nil, List.drop_nil, true_and, and_true, false_and, and_false, true_implies, implies_true, false_implies, ne_eq, not_true_eq_false, not_false_eq_true, reduceCtorEq, Option.some.injEq, if_true, if_false, ite_true, ite_false, Nat.zero_add, eq_self, okn_some, okn_none, forall_const, true_or, or_true, false_or, or_false, Option.map_some, Option.map_none, Kd_setI, Ln_setI, Mr_setI, Kd_setR, Ln_setR, Mi_setR, Int.reduceNatCast', Int.reduceNeg, Int.reduceAdd, Int.reduceSub, Int.reduceMul, Int.reduceEq, Int.reduceNe, Int.reduceLT, Int.reduceLE, Nat.reduceAdd, Nat.reduceSub, Nat.reduceLT, Nat.reduceLeDiff, Nat.reduceEqDiff, Mi_setI, e23, W.1, mwr_23 W, mwk_23 W, mwl_23 W, mwr_24 W, mwk_24 W, mwl_24 W, mwr_25 W, mwk_25 W, mwl_25 W, mwr_26 W, mwk_26 W, mwl_26 W]) | (simp only [o_const, o_null, o_lconst, o_iload, o_aload, o_istore, o_astore, o_iinc, o_iadd, o_isub, o_imul, o_idiv, o_irem, o_ineg, o_i2l, o_lcmp, o_dup, o_dup2, o_goto, o_max, o_min, o_objinit, o_icmplt, o_iflt, o_icmpge, o_ifge, o_icmpgt, o_ifgt, o_icmple, o_ifle, o_icmpeq, o_ifeq, o_icmpne, o_ifne, o_ifnull, o_ifnonnull, o_acmpeq, o_acmpne, o_tsw, tsw, o_getI, o_getR, o_putI, o_putZ, o_putR, o_iald, o_bald, o_lald, o_aald, o_iast, o_bast, o_last, o_aast, o_alen, o_new, o_newa, o_iret, o_zret, o_aret, o_vret, o_throw, o_call, o_callV, o_aft_v, o_aft_n, o_aft_x, o_up_e, lget, lset, all1, dr_some, List.take_succ_cons, List.take_zero, List.drop_succ_cons, List.drop_zero, List.reverse_cons, List.reverse_nil, List.nil_append, List.cons_append, List.length_cons, List.length_nil, List.take_nil, List.drop_nil, true_and, and_true, false_and, and_false, true_implies, implies_true, false_implies, ne_eq, not_true_eq_false, not_false_eq_true, reduceCtorEq, Option.some.injEq, if_true, if_false, ite_true, ite_false, Nat.zero_add, eq_self, okn_some, okn_none, forall_const, true_or, or_true, false_or, or_false, Option.map_some, Option.map_none, Kd_setI, Ln_setI, Mr_setI, Kd_setR, Ln_setR, Mi_setR, Int.reduceNatCast', Int.reduceNeg, Int.reduceAdd, Int.reduceSub, Int.reduceMul, Int.reduceEq, Int.reduceNe, Int.reduceLT, Int.reduceLE, Nat.reduceAdd, Nat.reduceSub, Nat.reduceLT, Nat.reduceLeDiff, Nat.reduceEqDiff, Mi_setI, e23, W.1, mwr_23 W, mwk_23 W, mwl_23 W, mwr_24 W, mwk_24 W, mwl_24 W, mwr_25 W, mwk_25 W, mwl_25 W, mwr_26 W, mwk_26 W, mwl_26 W]) | (unfold rng; omega) | omega)
    all_goals first | exact K9 | (exfalso; omega)
  | succ m ih =>
    intro n h hm hn S F G
    have W : Mwf h := S.wf R.1
    have e23 : Mi h 1023 s = A 23 s 0 := by rw [F 1023 (by decide) (by decide) (by decide)]; exact rp_23 R s0 s1
    have K9 := ih (n + 1) (setI (setI (setI h 1024 n (Mi h 1024 (n + 1))) 1025 n (Mi h 1025 (n + 1))) 1026 n (Mi h 1026 (n + 1))) (by omega) (by omega) (((S.set (by simp)).set (by simp)).set (by simp)) (fun m m2 m3 m4 => by
      funext i; rw [Mi_setI, if_neg (fun q => m4 q.1), Mi_setI, if_neg (fun q => m3 q.1), Mi_setI, if_neg (fun q => m2 q.1), F m m2 m3 m4]) (fun m hmm i => by
      have g := G m hmm
      by_cases z : i = n
      · subst z
        rw [if_pos ⟨hn, by omega⟩]
        have := g (i + 1)
        rw [if_neg (by omega)] at this
        rcases hmm with q | q | q <;> subst q <;> simp [Mi_setI, this]
      · have : Mi (setI (setI (setI h 1024 n (Mi h 1024 (n + 1))) 1025 n (Mi h 1025 (n + 1))) 1026 n (Mi h 1026 (n + 1))) m i = Mi h m i := by
          rw [Mi_setI, if_neg (fun q => z q.2), Mi_setI, if_neg (fun q => z q.2), Mi_setI, if_neg (fun q => z q.2)]
        rw [this, g i]
        by_cases y : k ≤ i ∧ i < n
        · rw [if_pos y, if_pos (by omega)]
        · rw [if_neg y, if_neg (by omega)])
    refine bM_drops_2 _ _ _ _ _ ?_; simp only [o_const, o_null, o_lconst, o_iload, o_aload, o_istore, o_astore, o_iinc, o_iadd, o_isub, o_imul, o_idiv, o_irem, o_ineg, o_i2l, o_lcmp, o_dup, o_dup2, o_goto, o_max, o_min, o_objinit, o_icmplt, o_iflt, o_icmpge, o_ifge, o_icmpgt, o_ifgt, o_icmple, o_ifle, o_icmpeq, o_ifeq, o_icmpne, o_ifne, o_ifnull, o_ifnonnull, o_acmpeq, o_acmpne, o_tsw, tsw, o_getI, o_getR, o_putI, o_putZ, o_putR, o_iald, o_bald, o_lald, o_aald, o_iast, o_bast, o_last, o_aast, o_alen, o_new, o_newa, o_iret, o_zret, o_aret, o_vret, o_throw, o_call, o_callV, o_aft_v, o_aft_n, o_aft_x, o_up_e, lget, lset, all1, dr_some, List.take_succ_cons, List.take_zero, List.drop_succ_cons, List.drop_zero, List.reverse_cons, List.reverse_nil, List.nil_append, List.cons_append, List.length_cons, List.length_nil, List.take_nil, List.drop_nil, true_and, and_true, false_and, and_false, true_implies, implies_true, false_implies, ne_eq, not_true_eq_false, not_false_eq_true, reduceCtorEq, Option.some.injEq, if_true, if_false, ite_true, ite_false, Nat.zero_add, eq_self, okn_some, okn_none, forall_const, true_or, or_true, false_or, or_false, Option.map_some, Option.map_none, Kd_setI, Ln_setI, Mr_setI, Kd_setR, Ln_setR, Mi_setR, Int.reduceNatCast', Int.reduceNeg, Int.reduceAdd, Int.reduceSub, Int.reduceMul, Int.reduceEq, Int.reduceNe, Int.reduceLT, Int.reduceLE, Nat.reduceAdd, Nat.reduceSub, Nat.reduceLT, Nat.reduceLeDiff, Nat.reduceEqDiff, Mi_setI, e23, W.1, mwr_23 W, mwk_23 W, mwl_23 W, mwr_24 W, mwk_24 W, mwl_24 W, mwr_25 W, mwk_25 W, mwl_25 W, mwr_26 W, mwk_26 W, mwl_26 W]
    repeat' (first | (with_reducible refine And.intro ?_ ?_) | (with_reducible intro _) | (exact Nat.le_of_ble_eq_true rfl) | (refine bM_drops_0 _ _ _ _ _ ?_; simp only [o_const, o_null, o_lconst, o_iload, o_aload, o_istore, o_astore, o_iinc, o_iadd, o_isub, o_imul, o_idiv, o_irem, o_ineg, o_i2l, o_lcmp, o_dup, o_dup2, o_goto, o_max, o_min, o_objinit, o_icmplt, o_iflt, o_icmpge, o_ifge, o_icmpgt, o_ifgt, o_icmple, o_ifle, o_icmpeq, o_ifeq, o_icmpne, o_ifne, o_ifnull, o_ifnonnull, o_acmpeq, o_acmpne, o_tsw, tsw, o_getI, o_getR, o_putI, o_putZ, o_putR, o_iald, o_bald, o_lald, o_aald, o_iast, o_bast, o_last, o_aast, o_alen, o_new, o_newa, o_iret, o_zret, o_aret, o_vret, o_throw, o_call, o_callV, o_aft_v, o_aft_n, o_aft_x, o_up_e, lget, lset, all1, dr_some, List.take_succ_cons, List.take_zero, List.drop_succ_cons, List.drop_zero, List.reverse_cons, List.reverse_nil, List.nil_append, List.cons_append, List.length_cons, List.length_nil, List.take_nil, List.drop_nil, true_and, and_true, false_and, and_false, true_implies, implies_true, false_implies, ne_eq, not_true_eq_false, not_false_eq_true, reduceCtorEq, Option.some.injEq, if_true, if_false, ite_true, ite_false, Nat.zero_add, eq_self, okn_some, okn_none, forall_const, true_or, or_true, false_or, or_false, Option.map_some, Option.map_none, Kd_setI, Ln_setI, Mr_setI, Kd_setR, Ln_setR, Mi_setR, Int.reduceNatCast', Int.reduceNeg, Int.reduceAdd, Int.reduceSub, Int.reduceMul, Int.reduceEq, Int.reduceNe, Int.reduceLT, Int.reduceLE, Nat.reduceAdd, Nat.reduceSub, Nat.reduceLT, Nat.reduceLeDiff, Nat.reduceEqDiff, Mi_setI, e23, W.1, mwr_23 W, mwk_23 W, mwl_23 W, mwr_24 W, mwk_24 W, mwl_24 W, mwr_25 W, mwk_25 W, mwl_25 W, mwr_26 W, mwk_26 W, mwl_26 W]) | (simp only [o_const, o_null, o_lconst, o_iload, o_aload, o_istore, o_astore, o_iinc, o_iadd, o_isub, o_imul, o_idiv, o_irem, o_ineg, o_i2l, o_lcmp, o_dup, o_dup2, o_goto, o_max, o_min, o_objinit, o_icmplt, o_iflt, o_icmpge, o_ifge, o_icmpgt, o_ifgt, o_icmple, o_ifle, o_icmpeq, o_ifeq, o_icmpne, o_ifne, o_ifnull, o_ifnonnull, o_acmpeq, o_acmpne, o_tsw, tsw, o_getI, o_getR, o_putI, o_putZ, o_putR, o_iald, o_bald, o_lald, o_aald, o_iast, o_bast, o_last, o_aast, o_alen, o_new, o_newa, o_iret, o_zret, o_aret, o_vret, o_throw, o_call, o_callV, o_aft_v, o_aft_n, o_aft_x, o_up_e, lget, lset, all1, dr_some, List.take_succ_cons, List.take_zero, List.drop_succ_cons, List.drop_zero, List.reverse_cons, List.reverse_nil, List.nil_append, List.cons_append, List.length_cons, List.length_nil, List.take_nil, List.drop_nil, true_and, and_true, false_and, and_false, true_implies, implies_true, false_implies, ne_eq, not_true_eq_false, not_false_eq_true, reduceCtorEq, Option.some.injEq, if_true, if_false, ite_true, ite_false, Nat.zero_add, eq_self, okn_some, okn_none, forall_const, true_or, or_true, false_or, or_false, Option.map_some, Option.map_none, Kd_setI, Ln_setI, Mr_setI, Kd_setR, Ln_setR, Mi_setR, Int.reduceNatCast', Int.reduceNeg, Int.reduceAdd, Int.reduceSub, Int.reduceMul, Int.reduceEq, Int.reduceNe, Int.reduceLT, Int.reduceLE, Nat.reduceAdd, Nat.reduceSub, Nat.reduceLT, Nat.reduceLeDiff, Nat.reduceEqDiff, Mi_setI, e23, W.1, mwr_23 W, mwk_23 W, mwl_23 W, mwr_24 W, mwk_24 W, mwl_24 W, mwr_25 W, mwk_25 W, mwl_25 W, mwr_26 W, mwk_26 W, mwl_26 W]) | (unfold rng; omega) | omega)
    all_goals first | exact K9 | (exfalso; omega)
theorem c_M_drops {d : Nat} (hd : 1 ≤ d) {A : AS} {h : Mh} {P : Out → Mh → Prop} {s k : Int} (R : RM A h) (s0 : 0 ≤ s) (s1 : s < 5) (k0 : 20 * s ≤ k) (k1 : k < 20 * s + A 23 s 0) (hb : ∀ s', 0 ≤ s' → s' < 5 → 0 ≤ A 23 s' 0 ∧ A 23 s' 0 ≤ 20)
    (H : ∀ h', Sm h h' → Mi h' 3 0 = Mi h 3 0 → (∀ i, i < k → Mi h' 1024 i = Mi h 1024 i ∧ Mi h' 1025 i = Mi h 1025 i) → RM (up (up A 24 (Mi h 1025 k) (Mi h 1024 k) 0) 23 s 0 (A 23 s 0 - 1)) h' → P (.inl none) h') : Ct kM_drops d [pR (some 3), pI s, pI k] h P := by
  have K := l_drops (d := d) (c9 := 0) (s9 := 0) R s0 s1 k0 k1 hb H (20 * s + A 23 s 0 - 1 - k).toNat k h (by omega) (by omega) Sm.rfl' (fun _ _ _ _ => rfl) (fun m _ i => by rw [if_neg (by omega)])
  refine eM_drops ?_
  repeat' (first | (with_reducible refine And.intro ?_ ?_) | (with_reducible intro _) | (exact Nat.le_of_ble_eq_true rfl) | (refine bM_drops_0 _ _ _ _ _ ?_; simp only [o_const, o_null, o_lconst, o_iload, o_aload, o_istore, o_astore, o_iinc, o_iadd, o_isub, o_imul, o_idiv, o_irem, o_ineg, o_i2l, o_lcmp, o_dup, o_dup2, o_goto, o_max, o_min, o_objinit, o_icmplt, o_iflt, o_icmpge, o_ifge, o_icmpgt, o_ifgt, o_icmple, o_ifle, o_icmpeq, o_ifeq, o_icmpne, o_ifne, o_ifnull, o_ifnonnull, o_acmpeq, o_acmpne, o_tsw, tsw, o_getI, o_getR, o_putI, o_putZ, o_putR, o_iald, o_bald, o_lald, o_aald, o_iast, o_bast, o_last, o_aast, o_alen, o_new, o_newa, o_iret, o_zret, o_aret, o_vret, o_throw, o_call, o_callV, o_aft_v, o_aft_n, o_aft_x, o_up_e, lget, lset, all1, dr_some, List.take_succ_cons, List.take_zero, List.drop_succ_cons, List.drop_zero, List.reverse_cons, List.reverse_nil, List.nil_append, List.cons_append, List.length_cons, List.length_nil, List.take_nil, List.drop_nil, true_and, and_true, false_and, and_false, true_implies, implies_true, false_implies, ne_eq, not_true_eq_false, not_false_eq_true, reduceCtorEq, Option.some.injEq, if_true, if_false, ite_true, ite_false, Nat.zero_add, eq_self, okn_some, okn_none, forall_const, true_or, or_true, false_or, or_false, Option.map_some, Option.map_none, Kd_setI, Ln_setI, Mr_setI, Kd_setR, Ln_setR, Mi_setR, Int.reduceNatCast', Int.reduceNeg, Int.reduceAdd, Int.reduceSub, Int.reduceMul, Int.reduceEq, Int.reduceNe, Int.reduceLT, Int.reduceLE, Nat.reduceAdd, Nat.reduceSub, Nat.reduceLT, Nat.reduceLeDiff, Nat.reduceEqDiff, Mi_setI, R.1.1, mwr_23 R.1, mwk_23 R.1, mwl_23 R.1, mwr_24 R.1, mwk_24 R.1, mwl_24 R.1, mwr_25 R.1, mwk_25 R.1, mwl_25 R.1, mwr_26 R.1, mwk_26 R.1, mwl_26 R.1]) | (refine bM_drops_67 _ _ _ _ _ ?_; simp only [o_const, o_null, o_lconst, o_iload, o_aload, o_istore, o_astore, o_iinc, o_iadd, o_isub, o_imul, o_idiv, o_irem, o_ineg, o_i2l, o_lcmp, o_dup, o_dup2, o_goto, o_max, o_min, o_objinit, o_icmplt, o_iflt, o_icmpge, o_ifge, o_icmpgt, o_ifgt, o_icmple, o_ifle, o_icmpeq, o_ifeq, o_icmpne, o_ifne, o_ifnull, o_ifnonnull, o_acmpeq, o_acmpne, o_tsw, tsw, o_getI, o_getR, o_putI, o_putZ, o_putR, o_iald, o_bald, o_lald, o_aald, o_iast, o_bast, o_last, o_aast, o_alen, o_new, o_newa, o_iret, o_zret, o_aret, o_vret, o_throw, o_call, o_callV, o_aft_v, o_aft_n, o_aft_x, o_up_e, lget, lset, all1, dr_some, List.take_succ_cons, List.take_zero, List.drop_succ_cons, List.drop_zero, List.reverse_cons, List.reverse_nil, List.nil_append, List.cons_append, List.length_cons, List.length_nil, List.take_nil, List.drop_nil, true_and, and_true, false_and, and_false, true_implies, implies_true, false_implies, ne_eq, not_true_eq_false, not_false_eq_true, reduceCtorEq, Option.some.injEq, if_true, if_false, ite_true, ite_false, Nat.zero_add, eq_self, okn_some, okn_none, forall_const, true_or, or_true, false_or, or_false, Option.map_some, Option.map_none, Kd_setI, Ln_setI, Mr_setI, Kd_setR, Ln_setR, Mi_setR, Int.reduceNatCast', Int.reduceNeg, Int.reduceAdd, Int.reduceSub, Int.reduceMul, Int.reduceEq, Int.reduceNe, Int.reduceLT, Int.reduceLE, Nat.reduceAdd, Nat.reduceSub, Nat.reduceLT, Nat.reduceLeDiff, Nat.reduceEqDiff, Mi_setI, R.1.1, mwr_23 R.1, mwk_23 R.1, mwl_23 R.1, mwr_24 R.1, mwk_24 R.1, mwl_24 R.1, mwr_25 R.1, mwk_25 R.1, mwl_25 R.1, mwr_26 R.1, mwk_26 R.1, mwl_26 R.1]) | (simp only [o_const, o_null, o_lconst, o_iload, o_aload, o_istore, o_astore, o_iinc, o_iadd, o_isub, o_imul, o_idiv, o_irem, o_ineg, o_i2l, o_lcmp, o_dup, o_dup2, o_goto, o_max, o_min, o_objinit, o_icmplt, o_iflt, o_icmpge, o_ifge, o_icmpgt, o_ifgt, o_icmple, o_ifle, o_icmpeq, o_ifeq, o_icmpne, o_ifne, o_ifnull, o_ifnonnull, o_acmpeq, o_acmpne, o_tsw, tsw, o_getI, o_getR, o_putI, o_putZ, o_putR, o_iald, o_bald, o_lald, o_aald, o_iast, o_bast, o_last, o_aast, o_alen, o_new, o_newa, o_iret, o_zret, o_aret, o_vret, o_throw, o_call, o_callV, o_aft_v, o_aft_n, o_aft_x, o_up_e, lget, lset, all1, dr_some, List.take_succ_cons, List.take_zero, List.drop_succ_cons, List.drop_zero, List.reverse_cons, List.reverse_nil, List.nil_append, List.cons_append, List.length_cons, List.length_nil, List.take_nil, List.drop_nil, true_and, and_true, false_and, and_false, true_implies, implies_true, false_implies, ne_eq, not_true_eq_false, not_false_eq_true, reduceCtorEq, Option.some.injEq, if_true, if_false, ite_true, ite_false, Nat.zero_add, eq_self, okn_some, okn_none, forall_const, true_or, or_true, false_or, or_false, Option.map_some, Option.map_none, Kd_setI, Ln_setI, Mr_setI, Kd_setR, Ln_setR, Mi_setR, Int.reduceNatCast', Int.reduceNeg, Int.reduceAdd, Int.reduceSub, Int.reduceMul, Int.reduceEq, Int.reduceNe, Int.reduceLT, Int.reduceLE, Nat.reduceAdd, Nat.reduceSub, Nat.reduceLT, Nat.reduceLeDiff, Nat.reduceEqDiff, Mi_setI, R.1.1, mwr_23 R.1, mwk_23 R.1, mwl_23 R.1, mwr_24 R.1, mwk_24 R.1, mwl_24 R.1, mwr_25 R.1, mwk_25 R.1, mwl_25 R.1, mwr_26 R.1, mwk_26 R.1, mwl_26 R.1]) | (unfold rng; omega) | omega)
  all_goals exact K
