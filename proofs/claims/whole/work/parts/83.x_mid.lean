/-- frames, machines, queue and disk change, the rest stays -/
theorem RC.mid {A B : AS} {h h' : Mh} (R : RC A h) (T : Stx A) (e : ∀ g, g ∉ [32, 33, 34, 39, 40, 41, 42, 43, 44, 45, 46] → B g = A g) (c1 : Kd h' = Kd h) (c2 : Ln h' = Ln h) (so : ∀ n, n ≠ 16 → n ≠ 22 → (n < 20000 ∨ (30000 ≤ n ∧ n < 32000)) → Mi h' n = Mi h n ∧ Mr h' n = Mr h n)
    (f0 : ∀ s, 0 ≤ s → s < A 16 0 0 → ∀ n, sN s ≤ n → n < sN s + 4 → Mi h' n = Mi h n ∧ Mr h' n = Mr h n) (f1 : ∀ s k, 0 ≤ s → s < A 16 0 0 → 0 ≤ k → k < 16 → Mr h' (cN s k) = Mr h (cN s k) ∧ Mi h' (cN s k) 1 = Mi h (cN s k) 1 ∧ Mi h' (cN s k + 1) = Mi h (cN s k + 1) ∧ Mi h' (cN s k + 2) = Mi h (cN s k + 2))
    (xt : RCt B h') (xi : RCi B h') (xm : RCm B h') (xu : RCu B h') : RC B h' := by
  obtain ⟨V9, D9, a16, a36, a47, a51, G9⟩ := T
  have g2 := G9.2.1
  have s9 : ∀ n, n ≠ 16 ∧ n ≠ 22 ∧ (n < 20000 ∨ (30000 ≤ n ∧ n < 32000)) → Sam h h' n := fun n hn => ⟨by rw [c1], by rw [c2], (so n hn.1 hn.2.1 hn.2.2).1, (so n hn.1 hn.2.1 hn.2.2).2⟩
  have E9 : ∀ L : List Nat, (∀ f, f ∈ [32, 33, 34, 39, 40, 41, 42, 43, 44, 45, 46] → f ∉ L) → ∀ g, g ∈ L → B g = A g := fun L hL g hg => e g (fun q => hL g q hg)
  have xs : RCs B h' := by
    refine ⟨fun t t0 t1 => ?_, fun n n0 n1 => ?_⟩
    · rw [e 16 (by decide)] at t1
      exact (R.xs.1 t t0 t1).of (E9 _ (by decide)) (fun n n0 n1 => ⟨by rw [c1], by rw [c2], (f0 t t0 t1 n n0 n1).1, (f0 t t0 t1 n n0 n1).2⟩)
    · rw [e 16 (by decide)] at n0
      rw [c1]; exact R.xs.2 n n0 n1
  have xo : RCo B h' := by
    intro t k t0 t1 k0 k1
    rw [e 16 (by decide)] at t1
    have := R.xo t k t0 t1 k0 k1
    unfold FObj at *
    rw [c1, c2, (f1 t k t0 t1 k0 k1).1]; exact this
  have xk : RCk B h' := by
    intro t q t0 t1 q0 q1
    rw [e 16 (by decide)] at t1
    have g := G9.2.2.2.2.2.1 t q t0 (by omega) q0 q1
    obtain ⟨y1, y2, y3, y4⟩ := f1 t (A 105 t q) t0 t1 g.1 g.2
    unfold FKey FNam
    rw [e 17 (by decide), e 18 (by decide), e 21 (by decide), e 24 (by decide), e 25 (by decide), e 105 (by decide), y2, y3, y4]
    exact R.xk t q t0 t1 q0 q1
  exact ⟨R.1.of (E9 _ (by decide)) (fun n hn => s9 n (by omega)), R.xa.of (E9 _ (by decide)) (fun n n0 n1 => s9 n (by omega)), R.xv.of V9 D9 G9 (E9 _ (by decide)) (fun n n0 n1 => s9 n (by omega)), xs, xo, xk, xt, xi, xm, xu, R.xc.of (E9 _ (by decide)) (fun n hn => s9 n (by omega)) (fun n n0 n1 => ⟨(s9 n (by omega)).1, (s9 n (by omega)).2.1⟩), R.xn.of a47 (E9 _ (by decide)) (fun n n0 n1 => s9 n (by omega)), R.xd.of a51 (E9 _ (by decide)) (fun n n0 n1 => s9 n (by omega))⟩
theorem RCt.of3 {A B : AS} {h h' : Mh} (R : RCt A h) (a16 : A 16 0 0 ≤ 5) (G : IvG A) (e : ∀ g, g ∈ gT → B g = A g) (s : ∀ t c, 0 ≤ t → t < A 16 0 0 → 0 ≤ c → c < 16 → Mi h' (cN t c) 4 = Mi h (cN t c) 4 ∧ Mi h' (cN t c) 5 = Mi h (cN t c) 5) : RCt B h' := by
  intro t p t0 t1 p0 p1
  rw [e 16 (by decide)] at t1
  have g := G.2.2.2.2.2.1 t p t0 (by omega) p0 p1
  have y := s t _ t0 t1 g.1 g.2
  have := R t p t0 t1 p0 p1
  unfold FSta at *
  rw [e 17 (by decide), e 18 (by decide), e 44 (by decide), e 105 (by decide), y.1, y.2]
  exact ⟨fun z => ⟨Whr_of (e 36 (by decide)) (e 39 (by decide)) (e 42 (by decide)) (e 43 (by decide)) (this.1 z).1, (this.1 z).2⟩, this.2⟩
theorem RCi.of3 {A B : AS} {h h' : Mh} (R : RCi A h) (a16 : A 16 0 0 ≤ 5) (G : IvG A) (e : ∀ g, g ∈ gI → B g = A g) (s : ∀ t c, 0 ≤ t → t < A 16 0 0 → 0 ≤ c → c < 16 → (∀ k : Int, 6 ≤ k → Mi h' (cN t c) k = Mi h (cN t c) k) ∧ Mr h' (cN t c + 3) = Mr h (cN t c + 3) ∧ Mi h' (cN t c + 4) = Mi h (cN t c + 4)) : RCi B h' := by
  intro t p t0 t1 p0 p1
  rw [e 16 (by decide)] at t1
  have g := G.2.2.2.2.2.1 t p t0 (by omega) p0 p1
  obtain ⟨y1, y2, y3⟩ := s t _ t0 t1 g.1 g.2
  unfold FImg
  rw [e 17 (by decide), e 18 (by decide), e 32 (by decide), e 34 (by decide), e 105 (by decide), pN_of (e 100 (by decide)), y1 6 (by decide), y1 7 (by decide), y1 10 (by decide), y1 11 (by decide), y2, y3]
  exact R t p t0 t1 p0 p1
theorem lft_ne {A B : AS} {f : Int} (e32 : ∀ i, i ≠ f → B 32 i 0 = A 32 i 0) (e33 : ∀ i, i ≠ f → B 33 i 0 = A 33 i 0) : ∀ n : Nat, (f < 0 ∨ (n : Int) ≤ f) → lft B n = lft A n
  | 0, _ => rfl
  | n + 1, h => by rw [lft, lft, lft_ne e32 e33 n (by omega), e32 n (by omega), e33 n (by omega)]
theorem lft_up {A B : AS} {f : Int} (e32 : ∀ i, i ≠ f → B 32 i 0 = A 32 i 0) (e33 : ∀ i, i ≠ f → B 33 i 0 = A 33 i 0) (f0 : 0 ≤ f) : ∀ n : Nat, f < (n : Int) → lft B n = lft A n - (if A 32 f 0 = -1 then 0 else A 33 f 0) + (if B 32 f 0 = -1 then 0 else B 33 f 0)
  | 0, h => by omega
  | n + 1, h => by
    rw [lft, lft]
    by_cases z : f = n
    · rw [lft_ne e32 e33 n (by omega), z]; omega
    · rw [lft_up e32 e33 f0 n (by omega), e32 n (by omega), e33 n (by omega)]; omega
/-- an image is dropped -/
theorem RC.f32 {c : Int} {A : AS} {h : Mh} (R : RC A h) (T : Stx A) (I : IvS c A) {s p : Int} (hP : isP A s p) : RC (up A 32 (A 18 s p) 0 (-1)) (setI (setI h 16 5 (lft A 80 - (if A 32 (A 18 s p) 0 = -1 then 0 else A 33 (A 18 s p) 0))) (cN s (A 105 s p)) 6 0) := by
  have T' := T
  obtain ⟨V9, D9, a16, a36, a47, a51, G9⟩ := T'
  have ac := actv_of I hP
  have hs0 := hP.1
  have hs1 := hP.2.1
  have p0 := hP.2.2.1
  have p1 := hP.2.2.2
  have i17 := fun t t0 t1 => (I.2.2.1 t t0 t1).2.1
  have p16 : p < 16 := by have := i17 s hs0 (by omega); omega
  obtain ⟨f, ef⟩ : ∃ f, f = A 18 s p := ⟨_, rfl⟩
  obtain ⟨N, eN⟩ : ∃ N, N = cN s (A 105 s p) := ⟨_, rfl⟩
  have gN := G9.2.2.2.2.2.1 s p hs0 (by omega) p0 p16
  have rN : ∃ j : Int, 0 ≤ j ∧ j < 16 ∧ N = 20010 + 200 * s.toNat + 10 * j.toNat := ⟨A 105 s p, gN.1, gN.2, by rw [eN]; rfl⟩
  obtain ⟨j9, j0, j1, eN2⟩ := rN
  rw [← ef, ← eN]
  rw [← ef] at ac
  obtain ⟨x, ex⟩ : ∃ x, x = lft A 80 - (if A 32 f 0 = -1 then 0 else A 33 f 0) := ⟨_, rfl⟩
  rw [← ex]
  have e : ∀ g, g ≠ 32 → up A 32 f 0 (-1) g = A g := fun g hg => by funext i j; exact up_f hg
  have e32 : ∀ i, up A 32 f 0 (-1) 32 i 0 = if i = f then -1 else A 32 i 0 := fun i => by rw [up_at]; simp
  have m : ∀ n, n ≠ 16 → n ≠ N → Mi (setI (setI h 16 5 x) N 6 0) n = Mi h n := fun n q1 q2 => by funext i; rw [Mi_setI, if_neg (fun q => q2 q.1), Mi_setI, if_neg (fun q => q1 q.1)]
  have mk : ∀ n k, n ≠ 16 → k ≠ 6 → Mi (setI (setI h 16 5 x) N 6 0) n k = Mi h n k := fun n k q1 q2 => by rw [Mi_setI, if_neg (fun q => q2 q.2), Mi_setI, if_neg (fun q => q1 q.1)]
  have hc : ∀ t k, 0 ≤ k → cN t k = 20010 + 200 * t.toNat + 10 * k.toNat := fun t k _ => rfl
  refine R.mid T (fun g hg => e g (fun q => hg (by rw [q]; decide))) rfl rfl (fun n q1 q2 q3 => ⟨m n q1 (by omega), rfl⟩) (fun t t0 t1 n n0 n1 => ⟨m n (by unfold sN at n0; omega) (by unfold sN at n0 n1; omega), rfl⟩) (fun t k t0 t1 k0 k1 => ⟨rfl, mk _ _ (by rw [hc t k k0]; omega) (by decide), m _ (by rw [hc t k k0]; omega) (by rw [hc t k k0]; omega), m _ (by rw [hc t k k0]; omega) (by rw [hc t k k0]; omega)⟩) ?_ ?_ ?_ ?_
  · exact R.xt.of3 a16 G9 (fun g hg => e g (fun q => by subst q; revert hg; decide)) (fun t k t0 t1 k0 k1 => ⟨mk _ _ (by rw [hc t k k0]; omega) (by decide), mk _ _ (by rw [hc t k k0]; omega) (by decide)⟩)
  · intro t q t0 t1 q0 q1
    rw [e 16 (by decide)] at t1
    have y := R.xi t q t0 t1 q0 q1
    have g := G9.2.2.2.2.2.1 t q t0 (by omega) q0 q1
    unfold FImg at *
    rw [e 17 (by decide), e 18 (by decide), e 34 (by decide), e 105 (by decide), pN_of (e 100 (by decide)), e32]
    by_cases z : t = s ∧ q = p
    · obtain ⟨rfl, rfl⟩ := z
      rw [← eN, ← ef, if_pos rfl]
      refine ⟨fun _ => ⟨fun _ => by rw [Mi_setI, if_pos ⟨rfl, rfl⟩], fun w => absurd rfl w⟩, fun w => by omega⟩
    · have hn := cN_ne G9 hs0 (by omega) t0 (by omega) p0 p16 q0 q1 z
      rw [← eN] at hn
      have hN := hc t (A 105 t q) g.1
      rw [m _ (by omega) (by omega), m _ (by omega) (by omega)]
      refine ⟨fun w => ?_, y.2⟩
      have hf := pl_ne I hP ⟨t0, t1, q0, w⟩ z
      rw [← ef] at hf
      rw [if_neg hf]
      exact y.1 w
  · exact R.xm.of a36 (fun g hg => e g (fun q => by subst q; revert hg; decide)) (fun n hn => ⟨rfl, rfl, fun k hk => by rw [Mi_setI, if_neg (by omega), Mi_setI, if_neg (fun q => hk q.1 q.2)], rfl⟩)
  · have := lft_up (A := A) (B := up A 32 f 0 (-1)) (f := f) (fun i hi => by rw [e32, if_neg hi]) (fun i hi => by rw [e 33 (by decide)]) ac.2.2.1 80 (by have := ac.2.2.2; omega)
    unfold RCu
    rw [this, e32, if_pos rfl, if_pos rfl, Mi_setI, if_neg (by omega), Mi_setI, if_pos ⟨rfl, rfl⟩, ex]
    omega
theorem c_Fr_space {d : Nat} (hd : 1 ≤ d) {c : Int} {A : AS} {h : Mh} {P : Out → Mh → Prop} {s p : Int} (R : RC A h) (I : IvS c A) (F : IvF A) (G : IvG A) (hP : isP A s p) (H : P (.inl (some (pI (if A 32 (A 18 s p) 0 = -1 then 0 else A 33 (A 18 s p) 0)))) h) : Ct kFr_space d [pR (some (cN s (A 105 s p)))] h P := by
  obtain ⟨_, b16, -, b17, o, -⟩ := at_place R G I hP
  have p16 : p < 16 := by have := hP.2.2.2; omega
  have ac := actv_of I hP
  have y := (R.xi s p hP.1 hP.2.1 hP.2.2.1 p16).1 hP.2.2.2
  have ff := F (A 18 s p) ac.2.2.1 ac.2.2.2
  have k1 := o.1
  refine eFr_space ?_
  by_cases z : A 32 (A 18 s p) 0 = -1
  · rw [if_pos z] at H
    have y6 := y.1 z
    clear y ff
    repeat' (first | (with_reducible refine And.intro ?_ ?_) | (with_reducible intro _) | (exact Nat.le_of_ble_eq_true rfl) | (refine bFr_space_0 _ _ _ _ _ ?_; simp only [o_const, o_null, o_lconst, o_iload, o_aload, o_istore, o_astore, o_iinc, o_iadd, o_isub, o_imul, o_idiv, o_irem, o_ineg, o_i2l, o_lcmp, o_dup, o_dup2, o_goto, o_max, o_min, o_objinit, o_icmplt, o_iflt, o_icmpge, o_ifge, o_icmpgt, o_ifgt, o_icmple, o_ifle, o_icmpeq, o_ifeq, o_icmpne, o_ifne, o_ifnull, o_ifnonnull, o_acmpeq, o_acmpne, o_tsw, tsw, o_getI, o_getR, o_putI, o_putZ, o_putR, o_iald, o_bald, o_lald, o_aald, o_iast, o_bast, o_last, o_aast, o_alen, o_new, o_newa, o_iret, o_zret, o_aret, o_vret, o_throw, o_call, o_callV, o_aft_v, o_aft_n, o_aft_x, o_up_e, lget, lset, all1, dr_some, List.take_succ_cons, List.take_zero, List.drop_succ_cons, List.drop_zero, List.reverse_cons, List.reverse_nil, List.nil_append, List.cons_append, List.length_cons, List.length_nil, List.take_nil, List.drop_nil, true_and, and_true, false_and, and_false, true_implies, implies_true, false_implies, ne_eq, not_true_eq_false, not_false_eq_true, reduceCtorEq, Option.some.injEq, if_true, if_false, ite_true, ite_false, Nat.zero_add, eq_self, okn_some, okn_none, forall_const, true_or, or_true, false_or, or_false, Option.map_some, Option.map_none, Kd_setI, Ln_setI, Mr_setI, Kd_setR, Ln_setR, Mi_setR, Int.reduceNatCast', Int.reduceNeg, Int.reduceAdd, Int.reduceSub, Int.reduceMul, Int.reduceEq, Int.reduceNe, Int.reduceLT, Int.reduceLE, Nat.reduceAdd, Nat.reduceSub, Nat.reduceLT, Nat.reduceLeDiff, Nat.reduceEqDiff, Mi_setI, k1, y6]) | (refine bFr_space_17 _ _ _ _ _ ?_; simp only [o_const, o_null, o_lconst, o_iload, o_aload, o_istore, o_astore, o_iinc, o_iadd, o_isub, o_imul, o_idiv, o_irem, o_ineg, o_i2l, o_lcmp, o_dup, o_dup2, o_goto, o_max, o_min, o_objinit, o_icmplt, o_iflt, o_icmpge, o_ifge, o_icmpgt, o_ifgt, o_icmple, o_ifle, o_icmpeq, o_ifeq, o_icmpne, o_ifne, o_ifnull, o_ifnonnull, o_acmpeq, o_acmpne, o_tsw, tsw, o_getI, o_getR, o_putI, o_putZ, o_putR, o_iald, o_bald, o_lald, o_aald, o_iast, o_bast, o_last, o_aast, o_alen, o_new, o_newa, o_iret, o_zret, o_aret, o_vret, o_throw, o_call, o_callV, o_aft_v, o_aft_n, o_aft_x, o_up_e, lget, lset, all1, dr_some, List.take_succ_cons, List.take_zero, List.drop_succ_cons, List.drop_zero, List.reverse_cons, List.reverse_nil, List.nil_append, List.cons_append, List.length_cons, List.length_nil, List.take_nil, List.drop_nil, true_and, and_true, false_and, and_false, true_implies, implies_true, false_implies, ne_eq, not_true_eq_false, not_false_eq_true, reduceCtorEq, Option.some.injEq, if_true, if_false, ite_true, ite_false, Nat.zero_add, eq_self, okn_some, okn_none, forall_const, true_or, or_true, false_or, or_false, Option.map_some, Option.map_none, Kd_setI, Ln_setI, Mr_setI, Kd_setR, Ln_setR, Mi_setR, Int.reduceNatCast', Int.reduceNeg, Int.reduceAdd, Int.reduceSub, Int.reduceMul, Int.reduceEq, Int.reduceNe, Int.reduceLT, Int.reduceLE, Nat.reduceAdd, Nat.reduceSub, Nat.reduceLT, Nat.reduceLeDiff, Nat.reduceEqDiff, Mi_setI, k1, y6]) | (refine bFr_space_18 _ _ _ _ _ ?_; simp only [o_const, o_null, o_lconst, o_iload, o_aload, o_istore, o_astore, o_iinc, o_iadd, o_isub, o_imul, o_idiv, o_irem, o_ineg, o_i2l, o_lcmp, o_dup, o_dup2, o_goto, o_max, o_min, o_objinit, o_icmplt, o_iflt, o_icmpge, o_ifge, o_icmpgt, o_ifgt, o_icmple, o_ifle, o_icmpeq, o_ifeq, o_icmpne, o_ifne, o_ifnull, o_ifnonnull, o_acmpeq, o_acmpne, o_tsw, tsw, o_getI, o_getR, o_putI, o_putZ, o_putR, o_iald, o_bald, o_lald, o_aald, o_iast, o_bast, o_last, o_aast, o_alen, o_new, o_newa, o_iret, o_zret, o_aret, o_vret, o_throw, o_call, o_callV, o_aft_v, o_aft_n, o_aft_x, o_up_e, lget, lset, all1, dr_some, List.take_succ_cons, List.take_zero, List.drop_succ_cons, List.drop_zero, List.reverse_cons, List.reverse_nil, List.nil_append, List.cons_append, List.length_cons, List.length_nil, List.take_nil, List.drop_nil, true_and, and_true, false_and, and_false, true_implies, implies_true, false_implies, ne_eq, not_true_eq_false, not_false_eq_true, reduceCtorEq, Option.some.injEq, if_true, if_false, ite_true, ite_false, Nat.zero_add, eq_self, okn_some, okn_none, forall_const, true_or, or_true, false_or, or_false, Option.map_some, Option.map_none, Kd_setI, Ln_setI, Mr_setI, Kd_setR, Ln_setR, Mi_setR, Int.reduceNatCast', Int.reduceNeg, Int.reduceAdd, Int.reduceSub, Int.reduceMul, Int.reduceEq, Int.reduceNe, Int.reduceLT, Int.reduceLE, Nat.reduceAdd, Nat.reduceSub, Nat.reduceLT, Nat.reduceLeDiff, Nat.reduceEqDiff, Mi_setI, k1, y6]) | (simp only [o_const, o_null, o_lconst, o_iload, o_aload, o_istore, o_astore, o_iinc, o_iadd, o_isub, o_imul, o_idiv, o_irem, o_ineg, o_i2l, o_lcmp, o_dup, o_dup2, o_goto, o_max, o_min, o_objinit, o_icmplt, o_iflt, o_icmpge, o_ifge, o_icmpgt, o_ifgt, o_icmple, o_ifle, o_icmpeq, o_ifeq, o_icmpne, o_ifne, o_ifnull, o_ifnonnull, o_acmpeq, o_acmpne, o_tsw, tsw, o_getI, o_getR, o_putI, o_putZ, o_putR, o_iald, o_bald, o_lald, o_aald, o_iast, o_bast, o_last, o_aast, o_alen, o_new, o_newa, o_iret, o_zret, o_aret, o_vret, o_throw, o_call, o_callV, o_aft_v, o_aft_n, o_aft_x, o_up_e, lget, lset, all1, dr_some, List.take_succ_cons, List.take_zero, List.drop_succ_cons, List.drop_zero, List.reverse_cons, List.reverse_nil, List.nil_append, List.cons_append, List.length_cons, List.length_nil, List.take_nil, List.drop_nil, true_and, and_true, false_and, and_false, true_implies, implies_true, false_implies, ne_eq, not_true_eq_false, not_false_eq_true, reduceCtorEq, Option.some.injEq, if_true, if_false, ite_true, ite_false, Nat.zero_add, eq_self, okn_some, okn_none, forall_const, true_or, or_true, false_or, or_false, Option.map_some, Option.map_none, Kd_setI, Ln_setI, Mr_setI, Kd_setR, Ln_setR, Mi_setR, Int.reduceNatCast', Int.reduceNeg, Int.reduceAdd, Int.reduceSub, Int.reduceMul, Int.reduceEq, Int.reduceNe, Int.reduceLT, Int.reduceLE, Nat.reduceAdd, Nat.reduceSub, Nat.reduceLT, Nat.reduceLeDiff, Nat.reduceEqDiff, Mi_setI, k1, y6]) | (unfold rng; omega) | omega)
    all_goals first | exact H | (exfalso; omega)
  · rw [if_neg z] at H
    obtain ⟨y6, y7, y10, y11, -⟩ := y.2 z
    obtain ⟨-, f1, f2, f3, f4, f5, -⟩ := ff.2.2.2.2.1 z
    rw [f5] at H
    clear y ff
    repeat' (first | (with_reducible refine And.intro ?_ ?_) | (with_reducible intro _) | (exact Nat.le_of_ble_eq_true rfl) | (refine bFr_space_0 _ _ _ _ _ ?_; simp only [o_const, o_null, o_lconst, o_iload, o_aload, o_istore, o_astore, o_iinc, o_iadd, o_isub, o_imul, o_idiv, o_irem, o_ineg, o_i2l, o_lcmp, o_dup, o_dup2, o_goto, o_max, o_min, o_objinit, o_icmplt, o_iflt, o_icmpge, o_ifge, o_icmpgt, o_ifgt, o_icmple, o_ifle, o_icmpeq, o_ifeq, o_icmpne, o_ifne, o_ifnull, o_ifnonnull, o_acmpeq, o_acmpne, o_tsw, tsw, o_getI, o_getR, o_putI, o_putZ, o_putR, o_iald, o_bald, o_lald, o_aald, o_iast, o_bast, o_last, o_aast, o_alen, o_new, o_newa, o_iret, o_zret, o_aret, o_vret, o_throw, o_call, o_callV, o_aft_v, o_aft_n, o_aft_x, o_up_e, lget, lset, all1, dr_some, List.take_succ_cons, List.take_zero, List.drop_succ_cons, List.drop_zero, List.reverse_cons, List.reverse_nil, List.nil_append, List.cons_append, List.length_cons, List.length_nil, List.take_nil, List.drop_nil, true_and, and_true, false_and, and_false, true_implies, implies_true, false_implies, ne_eq, not_true_eq_false, not_false_eq_true, reduceCtorEq, Option.some.injEq, if_true, if_false, ite_true, ite_false, Nat.zero_add, eq_self, okn_some, okn_none, forall_const, true_or, or_true, false_or, or_false, Option.map_some, Option.map_none, Kd_setI, Ln_setI, Mr_setI, Kd_setR, Ln_setR, Mi_setR, Int.reduceNatCast', Int.reduceNeg, Int.reduceAdd, Int.reduceSub, Int.reduceMul, Int.reduceEq, Int.reduceNe, Int.reduceLT, Int.reduceLE, Nat.reduceAdd, Nat.reduceSub, Nat.reduceLT, Nat.reduceLeDiff, Nat.reduceEqDiff, Mi_setI, k1, y6, y11]) | (refine bFr_space_17 _ _ _ _ _ ?_; simp only [o_const, o_null, o_lconst, o_iload, o_aload, o_istore, o_astore, o_iinc, o_iadd, o_isub, o_imul, o_idiv, o_irem, o_ineg, o_i2l, o_lcmp, o_dup, o_dup2, o_goto, o_max, o_min, o_objinit, o_icmplt, o_iflt, o_icmpge, o_ifge, o_icmpgt, o_ifgt, o_icmple, o_ifle, o_icmpeq, o_ifeq, o_icmpne, o_ifne, o_ifnull, o_ifnonnull, o_acmpeq, o_acmpne, o_tsw, tsw, o_getI, o_getR, o_putI, o_putZ, o_putR, o_iald, o_bald, o_lald, o_aald, o_iast, o_bast, o_last, o_aast, o_alen, o_new, o_newa, o_iret, o_zret, o_aret, o_vret, o_throw, o_call, o_callV, o_aft_v, o_aft_n, o_aft_x, o_up_e, lget, lset, all1, dr_some, List.take_succ_cons, List.take_zero, List.drop_succ_cons, List.drop_zero, List.reverse_cons, List.reverse_nil, List.nil_append, List.cons_append, List.length_cons, List.length_nil, List.take_nil, List.drop_nil, true_and, and_true, false_and, and_false, true_implies, implies_true, false_implies, ne_eq, not_true_eq_false, not_false_eq_true, reduceCtorEq, Option.some.injEq, if_true, if_false, ite_true, ite_false, Nat.zero_add, eq_self, okn_some, okn_none, forall_const, true_or, or_true, false_or, or_false, Option.map_some, Option.map_none, Kd_setI, Ln_setI, Mr_setI, Kd_setR, Ln_setR, Mi_setR, Int.reduceNatCast', Int.reduceNeg, Int.reduceAdd, Int.reduceSub, Int.reduceMul, Int.reduceEq, Int.reduceNe, Int.reduceLT, Int.reduceLE, Nat.reduceAdd, Nat.reduceSub, Nat.reduceLT, Nat.reduceLeDiff, Nat.reduceEqDiff, Mi_setI, k1, y6, y11]) | (refine bFr_space_18 _ _ _ _ _ ?_; simp only [o_const, o_null, o_lconst, o_iload, o_aload, o_istore, o_astore, o_iinc, o_iadd, o_isub, o_imul, o_idiv, o_irem, o_ineg, o_i2l, o_lcmp, o_dup, o_dup2, o_goto, o_max, o_min, o_objinit, o_icmplt, o_iflt, o_icmpge, o_ifge, o_icmpgt, o_ifgt, o_icmple, o_ifle, o_icmpeq, o_ifeq, o_icmpne, o_ifne, o_ifnull, o_ifnonnull, o_acmpeq, o_acmpne, o_tsw, tsw, o_getI, o_getR, o_putI, o_putZ, o_putR, o_iald, o_bald, o_lald, o_aald, o_iast, o_bast, o_last, o_aast, o_alen, o_new, o_newa, o_iret, o_zret, o_aret, o_vret, o_throw, o_call, o_callV, o_aft_v, o_aft_n, o_aft_x, o_up_e, lget, lset, all1, dr_some, List.take_succ_cons, List.take_zero, List.drop_succ_cons, List.drop_zero, List.reverse_cons, List.reverse_nil, List.nil_append, List.cons_append, List.length_cons, List.length_nil, List.take_nil, List.drop_nil, true_and, and_true, false_and, and_false, true_implies, implies_true, false_implies, ne_eq, not_true_eq_false, not_false_eq_true, reduceCtorEq, Option.some.injEq, if_true, if_false, ite_true, ite_false, Nat.zero_add, eq_self, okn_some, okn_none, forall_const, true_or, or_true, false_or, or_false, Option.map_some, Option.map_none, Kd_setI, Ln_setI, Mr_setI, Kd_setR, Ln_setR, Mi_setR, Int.reduceNatCast', Int.reduceNeg, Int.reduceAdd, Int.reduceSub, Int.reduceMul, Int.reduceEq, Int.reduceNe, Int.reduceLT, Int.reduceLE, Nat.reduceAdd, Nat.reduceSub, Nat.reduceLT, Nat.reduceLeDiff, Nat.reduceEqDiff, Mi_setI, k1, y6, y11]) | (refine c_X_spaceOf f3 f4 ?_) | (simp only [o_const, o_null, o_lconst, o_iload, o_aload, o_istore, o_astore, o_iinc, o_iadd, o_isub, o_imul, o_idiv, o_irem, o_ineg, o_i2l, o_lcmp, o_dup, o_dup2, o_goto, o_max, o_min, o_objinit, o_icmplt, o_iflt, o_icmpge, o_ifge, o_icmpgt, o_ifgt, o_icmple, o_ifle, o_icmpeq, o_ifeq, o_icmpne, o_ifne, o_ifnull, o_ifnonnull, o_acmpeq, o_acmpne, o_tsw, tsw, o_getI, o_getR, o_putI, o_putZ, o_putR, o_iald, o_bald, o_lald, o_aald, o_iast, o_bast, o_last, o_aast, o_alen, o_new, o_newa, o_iret, o_zret, o_aret, o_vret, o_throw, o_call, o_callV, o_aft_v, o_aft_n, o_aft_x, o_up_e, lget, lset, all1, dr_some, List.take_succ_cons, List.take_zero, List.drop_succ_cons, List.drop_zero, List.reverse_cons, List.reverse_nil, List.nil_append, List.cons_append, List.length_cons, List.length_nil, List.take_nil, List.drop_nil, true_and, and_true, false_and, and_false, true_implies, implies_true, false_implies, ne_eq, not_true_eq_false, not_false_eq_true, reduceCtorEq, Option.some.injEq, if_true, if_false, ite_true, ite_false, Nat.zero_add, eq_self, okn_some, okn_none, forall_const, true_or, or_true, false_or, or_false, Option.map_some, Option.map_none, Kd_setI, Ln_setI, Mr_setI, Kd_setR, Ln_setR, Mi_setR, Int.reduceNatCast', Int.reduceNeg, Int.reduceAdd, Int.reduceSub, Int.reduceMul, Int.reduceEq, Int.reduceNe, Int.reduceLT, Int.reduceLE, Nat.reduceAdd, Nat.reduceSub, Nat.reduceLT, Nat.reduceLeDiff, Nat.reduceEqDiff, Mi_setI, k1, y6, y11]) | (unfold rng; omega) | omega)
    all_goals first | exact H | (exfalso; omega)
theorem c_Fa_dropImageOf {d : Nat} (hd : 2 ≤ d) {c : Int} {A : AS} {h : Mh} {P : Out → Mh → Prop} {s p : Int} (R : RC A h) (T : Stx A) (I : IvS c A) (F : IvF A) (hP : isP A s p) (H : ∀ h', Sx h h' → RC (up A 32 (A 18 s p) 0 (-1)) h' → P (.inl none) h') : Ct kFa_dropImageOf d [pR (some 16), pR (some (cN s (A 105 s p)))] h P := by
  have G := T.2.2.2.2.2.2
  obtain ⟨_, b16, -, b17, o, -⟩ := at_place R G I hP
  have p16 : p < 16 := by have := hP.2.2.2; omega
  have ac := actv_of I hP
  have ff := F (A 18 s p) ac.2.2.1 ac.2.2.2
  have k1 := o.1
  have k16 := R.xm.1.1
  have hu := R.xu
  unfold RCu at hu
  have hl := lft_le F 80 (by omega)
  have g := G.2.2.2.2.2.1 s p hP.1 (by have := hP.2.1; omega) hP.2.2.1 p16
  have hn : cN s (A 105 s p) = 20010 + 200 * s.toNat + 10 * (A 105 s p).toNat := rfl
  have K9 := H _ ((Sx.rfl'.setI (by omega)).setI (by omega)) (R.f32 T I hP)
  have KS := fun (Q : Out → Mh → Prop) (HH) => c_Fr_space (d := d - 1) (P := Q) (by omega) R I F G hP HH
  obtain ⟨co, eco⟩ : ∃ x, x = (if A 32 (A 18 s p) 0 = -1 then 0 else A 33 (A 18 s p) 0) := ⟨_, rfl⟩
  obtain ⟨lf, elf⟩ : ∃ x, x = lft A 80 := ⟨_, rfl⟩
  have bco : 0 ≤ co ∧ co ≤ 12 := by rw [eco]; split <;> omega
  rw [← eco] at K9 KS
  rw [← elf] at K9 hu hl
  clear ff H elf eco
  refine eFa_dropImageOf ?_
  repeat' (first | (with_reducible refine And.intro ?_ ?_) | (with_reducible intro _) | (exact Nat.le_of_ble_eq_true rfl) | (refine bFa_dropImageOf_0 _ _ _ _ _ ?_; simp only [o_const, o_null, o_lconst, o_iload, o_aload, o_istore, o_astore, o_iinc, o_iadd, o_isub, o_imul, o_idiv, o_irem, o_ineg, o_i2l, o_lcmp, o_dup, o_dup2, o_goto, o_max, o_min, o_objinit, o_icmplt, o_iflt, o_icmpge, o_ifge, o_icmpgt, o_ifgt, o_icmple, o_ifle, o_icmpeq, o_ifeq, o_icmpne, o_ifne, o_ifnull, o_ifnonnull, o_acmpeq, o_acmpne, o_tsw, tsw, o_getI, o_getR, o_putI, o_putZ, o_putR, o_iald, o_bald, o_lald, o_aald, o_iast, o_bast, o_last, o_aast, o_alen, o_new, o_newa, o_iret, o_zret, o_aret, o_vret, o_throw, o_call, o_callV, o_aft_v, o_aft_n, o_aft_x, o_up_e, lget, lset, all1, dr_some, List.take_succ_cons, List.take_zero, List.drop_succ_cons, List.drop_zero, List.reverse_cons, List.reverse_nil, List.nil_append, List.cons_append, List.length_cons, List.length_nil, List.take_nil, List.drop_nil, true_and, and_true, false_and, and_false, true_implies, implies_true, false_implies, ne_eq, not_true_eq_false, not_false_eq_true, reduceCtorEq, Option.some.injEq, if_true, if_false, ite_true, ite_false, Nat.zero_add, eq_self, okn_some, okn_none, forall_const, true_or, or_true, false_or, or_false, Option.map_some, Option.map_none, Kd_setI, Ln_setI, Mr_setI, Kd_setR, Ln_setR, Mi_setR, Int.reduceNatCast', Int.reduceNeg, Int.reduceAdd, Int.reduceSub, Int.reduceMul, Int.reduceEq, Int.reduceNe, Int.reduceLT, Int.reduceLE, Nat.reduceAdd, Nat.reduceSub, Nat.reduceLT, Nat.reduceLeDiff, Nat.reduceEqDiff, Mi_setI, k16, hu, k1]) | (refine KS _ ?_) | (simp only [o_const, o_null, o_lconst, o_iload, o_aload, o_istore, o_astore, o_iinc, o_iadd, o_isub, o_imul, o_idiv, o_irem, o_ineg, o_i2l, o_lcmp, o_dup, o_dup2, o_goto, o_max, o_min, o_objinit, o_icmplt, o_iflt, o_icmpge, o_ifge, o_icmpgt, o_ifgt, o_icmple, o_ifle, o_icmpeq, o_ifeq, o_icmpne, o_ifne, o_ifnull, o_ifnonnull, o_acmpeq, o_acmpne, o_tsw, tsw, o_getI, o_getR, o_putI, o_putZ, o_putR, o_iald, o_bald, o_lald, o_aald, o_iast, o_bast, o_last, o_aast, o_alen, o_new, o_newa, o_iret, o_zret, o_aret, o_vret, o_throw, o_call, o_callV, o_aft_v, o_aft_n, o_aft_x, o_up_e, lget, lset, all1, dr_some, List.take_succ_cons, List.take_zero, List.drop_succ_cons, List.drop_zero, List.reverse_cons, List.reverse_nil, List.nil_append, List.cons_append, List.length_cons, List.length_nil, List.take_nil, List.drop_nil, true_and, and_true, false_and, and_false, true_implies, implies_true, false_implies, ne_eq, not_true_eq_false, not_false_eq_true, reduceCtorEq, Option.some.injEq, if_true, if_false, ite_true, ite_false, Nat.zero_add, eq_self, okn_some, okn_none, forall_const, true_or, or_true, false_or, or_false, Option.map_some, Option.map_none, Kd_setI, Ln_setI, Mr_setI, Kd_setR, Ln_setR, Mi_setR, Int.reduceNatCast', Int.reduceNeg, Int.reduceAdd, Int.reduceSub, Int.reduceMul, Int.reduceEq, Int.reduceNe, Int.reduceLT, Int.reduceLE, Nat.reduceAdd, Nat.reduceSub, Nat.reduceLT, Nat.reduceLeDiff, Nat.reduceEqDiff, Mi_setI, k16, hu, k1]) | (unfold rng; omega) | omega)
  all_goals first | exact K9 | omega | done
