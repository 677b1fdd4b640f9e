theorem c_Ma_init {d n : Nat} (hd : 1 ≤ d) {x y z : Int} {h : Mh} {P : Out → Mh → Prop} (hn : n ≠ 0) (H : ∀ h', (∀ m, m ≠ n → Sam h h' m) → Kd h' n = 7 → Mi h' n 0 = x → Mi h' n 1 = y → Mi h' n 2 = z → Mr h' n 3 = none → Mi h' n 4 = 0 → Mi h' n 5 = 0 → P (.inl none) h') : Ct kMa_init d [pR (some n), pI x, pI y, pI z] (alc h n 7 0) P := by
  have K9 := H (setI (setI (setI (alc h n 7 0) n 0 x) n 1 y) n 2 z) (fun m hm => (((Sam.rfl'.alc hm).setI hm).setI hm).setI hm) (by rw [Kd_setI, Kd_setI, Kd_setI, Kd_alc, if_pos rfl]) (by simp [Mi_setI]) (by simp [Mi_setI]) (by simp [Mi_setI]) (by rw [Mr_setI, Mr_setI, Mr_setI, Mr_alc, if_pos rfl]) (by simp [Mi_setI, Mi_alc]) (by simp [Mi_setI, Mi_alc])
  refine eMa_init ?_
  repeat' (first | (with_reducible refine And.intro ?_ ?_) | (with_reducible intro _) | (exact Nat.le_of_ble_eq_true rfl) | (refine bMa_init_0 _ _ _ _ _ ?_; simp only [o_const, o_null, o_lconst, o_iload, o_aload, o_istore, o_astore, o_iinc, o_iadd, o_isub, o_imul, o_idiv, o_irem, o_ineg, o_i2l, o_lcmp, o_dup, o_dup2, o_goto, o_max, o_min, o_objinit, o_icmplt, o_iflt, o_icmpge, o_ifge, o_icmpgt, o_ifgt, o_icmple, o_ifle, o_icmpeq, o_ifeq, o_icmpne, o_ifne, o_ifnull, o_ifnonnull, o_acmpeq, o_acmpne, o_tsw, tsw, o_getI, o_getR, o_putI, o_putZ, o_putR, o_iald, o_bald, o_lald, o_aald, o_iast, o_bast, o_last, o_aast, o_alen, o_new, o_newa, o_iret, o_zret, o_aret, o_vret, o_throw, o_call, o_callV, o_aft_v, o_aft_n, o_aft_x, o_up_e, lget, lset, all1, dr_some, List.take_succ_cons, List.take_zero, List.drop_succ_cons, List.drop_zero, List.reverse_cons, List.reverse_nil, List.nil_append, List.cons_append, List.length_cons, List.length_nil, List.take_nil, List.drop_nil, true_and, and_true, false_and, and_false, true_implies, implies_true, false_implies, ne_eq, not_true_eq_false, not_false_eq_true, reduceCtorEq, Option.some.injEq, if_true, if_false, ite_true, ite_false, Nat.zero_add, eq_self, okn_some, okn_none, forall_const, true_or, or_true, false_or, or_false, Option.map_some, Option.map_none, Kd_setI, Ln_setI, Mr_setI, Kd_setR, Ln_setR, Mi_setR, Int.reduceNatCast', Int.reduceNeg, Int.reduceAdd, Int.reduceSub, Int.reduceMul, Int.reduceEq, Int.reduceNe, Int.reduceLT, Int.reduceLE, Nat.reduceAdd, Nat.reduceSub, Nat.reduceLT, Nat.reduceLeDiff, Nat.reduceEqDiff, Mi_setI, Kd_alc]) | (simp only [o_const, o_null, o_lconst, o_iload, o_aload, o_istore, o_astore, o_iinc, o_iadd, o_isub, o_imul, o_idiv, o_irem, o_ineg, o_i2l, o_lcmp, o_dup, o_dup2, o_goto, o_max, o_min, o_objinit, o_icmplt, o_iflt, o_icmpge, o_ifge, o_icmpgt, o_ifgt, o_icmple, o_ifle, o_icmpeq, o_ifeq, o_icmpne, o_ifne, o_ifnull, o_ifnonnull, o_acmpeq, o_acmpne, o_tsw, tsw, o_getI, o_getR, o_putI, o_putZ, o_putR, o_iald, o_bald, o_lald, o_aald, o_iast, o_bast, o_last, o_aast, o_alen, o_new, o_newa, o_iret, o_zret, o_aret, o_vret, o_throw, o_call, o_callV, o_aft_v, o_aft_n, o_aft_x, o_up_e, lget, lset, all1, dr_some, List.take_succ_cons, List.take_zero, List.drop_succ_cons, List.drop_zero, List.reverse_cons, List.reverse_nil, List.nil_append, List.cons_append, List.length_cons, List.length_nil, List.take_nil, List.drop_nil, true_and, and_true, false_and, and_false, true_implies, implies_true, false_implies, ne_eq, not_true_eq_false, not_false_eq_true, reduceCtorEq, Option.some.injEq, if_true, if_false, ite_true, ite_false, Nat.zero_add, eq_self, okn_some, okn_none, forall_const, true_or, or_true, false_or, or_false, Option.map_some, Option.map_none, Kd_setI, Ln_setI, Mr_setI, Kd_setR, Ln_setR, Mi_setR, Int.reduceNatCast', Int.reduceNeg, Int.reduceAdd, Int.reduceSub, Int.reduceMul, Int.reduceEq, Int.reduceNe, Int.reduceLT, Int.reduceLE, Nat.reduceAdd, Nat.reduceSub, Nat.reduceLT, Nat.reduceLeDiff, Nat.reduceEqDiff, Mi_setI, Kd_alc]) | (unfold rng; omega) | omega)
  all_goals first | exact K9 | exact hd | (exfalso; omega)
theorem RC.mnew {c : Int} {A : AS} {h h1 h' : Mh} (R : RC A h) (T : Stx A) (I : IvS c A) (J : IvM c A) {f w M : Int} (eM : M = A 36 0 0) (hM : 0 ≤ M ∧ M < 4) (u : ∀ m, m ≠ 32000 + M.toNat → Sam h h1 m) (k1 : Kd h1 (32000 + M.toNat) = 7) (k2 : Mi h1 (32000 + M.toNat) 0 = M) (k3 : Mi h1 (32000 + M.toNat) 1 = f) (k4 : Mi h1 (32000 + M.toNat) 2 = w) (k5 : Mr h1 (32000 + M.toNat) 3 = none) (k6 : Mi h1 (32000 + M.toNat) 4 = 0) (k7 : Mi h1 (32000 + M.toNat) 5 = 0)
    (e' : h' = setI (setR h1 21 M (some (32000 + M.toNat))) 16 1 (M + 1)) : RC (up (up (up A 37 M 0 f) 38 M 0 w) 36 0 0 (M + 1)) h' := by
  obtain ⟨V9, D9, a16, a36, a47, a51, G9⟩ := T
  have jm := J.2.2.2.2.2.2.2.2.2.2.1 M (by omega) hM.2
  obtain ⟨B, hB⟩ : ∃ B : AS, B = up (up (up A 37 M 0 f) 38 M 0 w) 36 0 0 (M + 1) := ⟨_, rfl⟩
  rw [← hB]
  have e : ∀ g, g ≠ 36 → g ≠ 37 → g ≠ 38 → B g = A g := fun g q1 q2 q3 => by rw [hB]; funext i j; rw [up_f q1, up_f q3, up_f q2]
  have b36 : B 36 0 0 = M + 1 := by rw [hB, up_s]
  have b37 : ∀ i, B 37 i 0 = if i = M then f else A 37 i 0 := fun i => by rw [hB, up_f (by decide), up_f (by decide), up_at]; simp
  have b38 : ∀ i, B 38 i 0 = if i = M then w else A 38 i 0 := fun i => by rw [hB, up_f (by decide), up_at, up_f (by decide)]; simp
  clear hB
  have s0 : ∀ n, n ≠ 32000 + M.toNat → n ≠ 16 → n ≠ 21 → Sam h h' n := fun n n1 n2 n3 => by rw [e']; exact ((u n n1).setR n3).setI n2
  have s9 : ∀ n, n ≠ 32000 + M.toNat ∧ n ≠ 16 ∧ n ≠ 21 → Sam h h' n := fun n hn => s0 n hn.1 hn.2.1 hn.2.2
  have E9 : ∀ L : List Nat, (∀ f, f ∈ [36, 37, 38] → f ∉ L) → ∀ g, g ∈ L → B g = A g := fun L hL g hg => e g (fun q => hL 36 (by simp) (q ▸ hg)) (fun q => hL 37 (by simp) (q ▸ hg)) (fun q => hL 38 (by simp) (q ▸ hg))
  have u16 := u 16 (by omega)
  have u21 := u 21 (by omega)
  have m16 : ∀ k : Int, k ≠ 1 → Mi h' 16 k = Mi h 16 k := fun k hk => by rw [e', Mi_setI, if_neg (fun q => hk q.2), Mi_setR, u16.2.2.1]
  have m21 : ∀ n, n ≠ 16 → Mi h' n = Mi h1 n := fun n hn => by rw [e']; funext i; rw [Mi_setI, if_neg (fun q => hn q.1), Mi_setR]
  have xt : RCt B h' := by
    intro t p t0 t1 p0 p1
    rw [e 16 (by decide) (by decide) (by decide)] at t1
    have hc := cN_rg G9 t0 (by omega) p0 p1
    have := R.xt t p t0 t1 p0 p1
    unfold FSta at *
    rw [e 17 (by decide) (by decide) (by decide), e 18 (by decide) (by decide) (by decide), e 44 (by decide) (by decide) (by decide), e 105 (by decide) (by decide) (by decide), (s0 (cN t (A 105 t p)) (by unfold sN at hc; omega) (by unfold sN at hc; omega) (by unfold sN at hc; omega)).2.2.1]
    refine ⟨fun z => ⟨?_, (this.1 z).2⟩, this.2⟩
    have hf := I.2.2.2.2.2.1 t p t0 (by omega) p0 z
    have hw := (this.1 z).1
    unfold Whr at *
    rw [b36, e 39 (by decide) (by decide) (by decide), e 42 (by decide) (by decide) (by decide), e 43 (by decide) (by decide) (by decide)]
    rcases hw with ⟨y1, y2⟩ | ⟨m, m0, m1, m2, m3⟩
    · refine Or.inl ⟨y1, fun m m0 m1 => ?_⟩
      by_cases q : m = M
      · rw [q, jm.1]; omega
      · exact y2 m m0 (by omega)
    · exact Or.inr ⟨m, m0, by omega, m2, m3⟩
  have xm : RCm B h' := by
    obtain ⟨r1, r2, r3, r4, r5⟩ := R.xm
    unfold RCm
    rw [b36, e 35 (by decide) (by decide) (by decide), e 39 (by decide) (by decide) (by decide), e 40 (by decide) (by decide) (by decide), e 41 (by decide) (by decide) (by decide), e 42 (by decide) (by decide) (by decide), e 43 (by decide) (by decide) (by decide), e 45 (by decide) (by decide) (by decide), e 46 (by decide) (by decide) (by decide), fN_of (e 103 (by decide) (by decide) (by decide)), m16 3 (by decide), m16 4 (by decide), m16 6 (by decide), m16 7 (by decide)]
    have q16 : Kd h' 16 = Kd h 16 ∧ Mr h' 16 = Mr h 16 := by
      rw [e', Kd_setI, Kd_setR, Mr_setI]
      refine ⟨u16.1, ?_⟩
      funext i; rw [Mr_setR, if_neg (by omega), u16.2.2.2]
    have q21 : Kd h' 21 = Kd h 21 ∧ Ln h' 21 = Ln h 21 := by
      rw [e', Kd_setI, Kd_setR, Ln_setI, Ln_setR]; exact ⟨u21.1, u21.2.1⟩
    have q22 := s0 22 (by omega) (by omega) (by omega)
    rw [q16.1, q16.2, q21.1, q21.2, q22.1, q22.2.1, q22.2.2.2]
    refine ⟨r1, ⟨by rw [e', Mi_setI, if_pos ⟨rfl, rfl⟩], r2.2⟩, fun m m0 m1 => ?_, r4, fun m m0 m1 => ?_⟩
    · rw [b37, b38]
      by_cases z : m = M
      · subst z
        rw [if_pos rfl, if_pos rfl, jm.1, if_pos rfl, jm.2.1, jm.2.2, m21 _ (by omega)]
        refine ⟨by rw [e', Mr_setI, Mr_setR, if_pos ⟨rfl, rfl⟩], by rw [e', Kd_setI, Kd_setR]; exact k1, k2, k3, k4, ?_, k6, k7⟩
        rw [e', Mr_setI, Mr_setR, if_neg (by omega)]; exact k5
      · rw [if_neg z, if_neg z]
        have sm := s0 (32000 + m.toNat) (by omega) (by omega) (by omega)
        rw [sm.1, sm.2.2.1, sm.2.2.2]
        have er : Mr h' 21 m = Mr h 21 m := by rw [e', Mr_setI, Mr_setR, if_neg (fun q => z q.2), u21.2.2.2]
        rw [er]; exact r3 m m0 (by omega)
    · rw [(s0 (32000 + m.toNat) (by omega) (by omega) (by omega)).1]
      exact r5 m (by omega) m1
  have hN30 := hM.2
  have hN0 := hM.1
  exact ⟨R.1.of (E9 _ (by decide)) (fun n hn => s9 n (by omega)), R.xa.of (E9 _ (by decide)) (fun n n0 n1 => s9 n (by omega)), R.xv.of V9 D9 G9 (E9 _ (by decide)) (fun n n0 n1 => s9 n (by omega)), R.xs.of a16 (E9 _ (by decide)) (fun n n0 n1 => s9 n (by omega)), R.xo.of2 a16 (E9 [16] (by decide) 16 (by decide)) (fun n t c t0 t1 c0 c1 n0 n1 => s9 n (by unfold cN at n0 n1; omega)), R.xk.of2 a16 G9 (E9 _ (by decide)) (fun n t c t0 t1 c0 c1 n0 n1 => s9 n (by unfold cN at n0 n1; omega)), xt, R.xi.of2 a16 G9 (E9 _ (by decide)) (fun n t c t0 t1 c0 c1 n0 n1 => s9 n (by unfold cN at n0 n1; omega)), xm, R.xu.of (e 32 (by decide) (by decide) (by decide)) (e 33 (by decide) (by decide) (by decide)) (m16 5 (by decide)), R.xc.of (E9 _ (by decide)) (fun n hn => s9 n (by omega)) (fun n n0 n1 => ⟨(s9 n (by omega)).1, (s9 n (by omega)).2.1⟩), R.xn.of a47 (E9 _ (by decide)) (fun n n0 n1 => s9 n (by omega)), R.xd.of a51 (E9 _ (by decide)) (fun n n0 n1 => s9 n (by omega))⟩
