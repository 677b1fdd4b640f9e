def ksum (A : AS) (s : Int) : Int := sm (fun i => sm (fun l => A 24 (16 * s + i) l) 16) 16
/-- the keys of a shot are counted -/
def IvK (A : AS) : Prop := ∀ s, 0 ≤ s → s < 5 → ksum A s = A 23 s 0
theorem sm_nn {g : Int → Int} : ∀ n : Nat, (∀ i : Int, 0 ≤ i → i < n → 0 ≤ g i) → 0 ≤ sm g n
  | 0, _ => by simp [sm]
  | n + 1, h => by
    have := sm_nn n (fun i i0 i1 => h i i0 (by omega))
    have := h n (by omega) (by omega)
    simp only [sm]; omega
theorem sm_one {g : Int → Int} {k : Int} (k0 : 0 ≤ k) : ∀ n : Nat, k < n → (∀ i : Int, 0 ≤ i → i < n → 0 ≤ g i) → g k ≤ sm g n
  | 0, h, _ => by omega
  | n + 1, h, hg => by
    have h9 := hg n (by omega) (by omega)
    simp only [sm]
    by_cases z : k = n
    · have := sm_nn (g := g) n (fun i i0 i1 => hg i i0 (by omega))
      rw [z]; omega
    · have := sm_one (g := g) k0 n (by omega) (fun i i0 i1 => hg i i0 (by omega))
      omega
/-- a frame has no more keys than its shot -/
theorem IvK.one {c : Int} {A : AS} (K : IvK A) (I : IvS c A) {s f : Int} (s0 : 0 ≤ s) (s1 : s < 5) (f0 : 16 * s ≤ f) (f1 : f < 16 * s + 16) : 0 ≤ sm (fun l => A 24 f l) 16 ∧ sm (fun l => A 24 f l) 16 ≤ A 23 s 0 := by
  have nn : ∀ g : Int, 0 ≤ g → g < 80 → ∀ l : Int, 0 ≤ l → l < ((16 : Nat) : Int) → 0 ≤ A 24 g l := fun g g0 g1 l l0 l1 => by have := (I.2.2.2.2.2.2.2.2.2 g l g0 g1 l0 (by omega)).1; omega
  have h1 := sm_nn (g := fun l => A 24 f l) 16 (nn f (by omega) (by omega))
  have h2 := sm_one (g := fun i => sm (fun l => A 24 (16 * s + i) l) 16) (k := f - 16 * s) (by omega) 16 (by omega) (fun i i0 i1 => sm_nn 16 (nn (16 * s + i) (by omega) (by omega)))
  simp only [show 16 * s + (f - 16 * s) = f by omega] at h2
  have := K s s0 s1
  unfold ksum at this
  omega
/-- keys are taken off, approvals changed: what a state with shots keeps -/
theorem IvS.keys {c : Int} {A B : AS} (I : IvS c A) (e : ∀ g, g ∉ [23, 24, 31] → B g = A g) (h23 : ∀ s, 0 ≤ s → s < 5 → 0 ≤ B 23 s 0 ∧ B 23 s 0 ≤ A 23 s 0) (h24 : ∀ f l, 0 ≤ f → f < 80 → 0 ≤ l → l < 16 → B 24 f l = A 24 f l ∨ B 24 f l = 0) (h31 : ∀ s, 0 ≤ s → s < 5 → B 31 s 0 = A 31 s 0 ∨ B 31 s 0 = 0) : IvS c B := by
  obtain ⟨i1, i2, i3, i4, i5, i6, i7, i8, i9, i10⟩ := I
  unfold IvS actv exv at *
  rw [e 1 (by decide), e 2 (by decide), e 16 (by decide), e 17 (by decide), e 18 (by decide), e 20 (by decide), e 21 (by decide), e 22 (by decide), e 25 (by decide), e 27 (by decide), e 28 (by decide), e 29 (by decide), e 30 (by decide)]
  refine ⟨i1, i2, fun s s0 s1 => ?_, i4, fun s s0 s1 => ?_, i6, i7, i8, i9, fun f l f0 f1 l0 l1 => ?_⟩
  · obtain ⟨b1, b2, b3, b4, b5, b6, b7, b8, b9, b10, b11, b12, b13, b14, b15⟩ := i3 s s0 s1
    have := h23 s s0 s1
    refine ⟨b1, b2, b3, b4, by omega, by omega, b7, b8, b9, b10, b11, b12, b13, b14, ?_⟩
    rcases h31 s s0 s1 with z | z <;> rw [z]
    · exact b15
    · exact Or.inl rfl
  · obtain ⟨b1, b2, b3, b4, b5, b6, b7⟩ := i5 s s0 s1
    have := h23 s (by omega) s1
    refine ⟨b1, b2, by omega, b4, b5, b6, ?_⟩
    rcases h31 s (by omega) s1 with z | z <;> rw [z]
    exact b7
  · obtain ⟨b1, b2⟩ := i10 f l f0 f1 l0 l1
    refine ⟨?_, b2⟩
    rcases h24 f l f0 f1 l0 l1 with z | z <;> rw [z]
    · exact b1
    · exact Or.inl rfl
theorem mvA_S {c : Int} {A : AS} (I : IvS c A) {s pl m to : Int} (p0 : 0 ≤ pl) (m0 : 0 ≤ m) (p1 : pl + m ≤ A 17 s 0) (o0 : 0 ≤ to) (o1 : to + m ≤ A 17 s 0) : IvS c (mvA A s pl m to) := by
  have e : ∀ g, g ≠ 18 → g ≠ 105 → mvA A s pl m to g = A g := fun g q1 q2 => mvA_f q1 q2
  have ea : ∀ f, actv A f → actv (mvA A s pl m to) f := fun f ⟨f0, f1, p, q0, q1, q2⟩ => by
    refine ⟨f0, f1, ?_⟩
    rw [e 17 (by decide) (by decide)]
    by_cases z : f / 16 = s
    · rw [z] at q1 q2 ⊢
      have y := mvi_rng (pl := to) (m := m) (to := pl) (N := A 17 s 0) (j := p) o0 m0 o1 p0 p1 q0 q1
      exact ⟨mvi to m pl p, y.1, y.2, by rw [mvA_18, if_pos rfl, mvi_inv m0]; exact q2⟩
    · exact ⟨p, q0, q1, by rw [mvA_18, if_neg z]; exact q2⟩
  obtain ⟨i1, i2, i3, i4, i5, i6, i7, i8, i9, i10⟩ := I
  unfold IvS
  rw [e 16 (by decide) (by decide), e 17 (by decide) (by decide), e 20 (by decide) (by decide), e 21 (by decide) (by decide), e 22 (by decide) (by decide), e 23 (by decide) (by decide), e 24 (by decide) (by decide), e 25 (by decide) (by decide), e 27 (by decide) (by decide), e 28 (by decide) (by decide), e 29 (by decide) (by decide), e 30 (by decide) (by decide), e 31 (by decide) (by decide)]
  refine ⟨i1, i2, i3, i4, i5, fun t p t0 t1 q0 q1 => ?_, fun t p p' t0 t1 q0 q1 q2 => ?_, fun t k t0 t1 k0 k1 => ?_, i9, fun f l f0 f1 l0 l1 => ?_⟩
  · rw [mvA_18]
    by_cases z : t = s
    · rw [if_pos z]; rw [z] at q1 t0 t1 ⊢
      have y := mvi_rng p0 m0 p1 o0 o1 q0 q1
      exact i6 s _ t0 t1 y.1 y.2
    · rw [if_neg z]; exact i6 t p t0 t1 q0 q1
  · rw [mvA_18, mvA_18]
    by_cases z : t = s
    · rw [if_pos z, if_pos z]; rw [z] at q2 t0 t1
      have y := mvi_rng p0 m0 p1 o0 o1 q0 (by omega : p < A 17 s 0)
      have y' := mvi_rng p0 m0 p1 o0 o1 (by omega : 0 ≤ p') q2
      have hne : mvi pl m to p ≠ mvi pl m to p' := fun q => by
        have h1 := mvi_inv (pl := pl) (m := m) (to := to) (j := p) m0
        rw [q, mvi_inv m0] at h1; omega
      rcases Int.lt_trichotomy (mvi pl m to p) (mvi pl m to p') with w | w | w
      · exact i7 s _ _ t0 t1 y.1 w y'.2
      · exact absurd w hne
      · have := i7 s _ _ t0 t1 y'.1 w y.2; exact ⟨fun q => this.1 q.symm, fun q => this.2 q.symm⟩
    · rw [if_neg z, if_neg z]; exact i7 t p p' t0 t1 q0 q1 q2
  · have := i8 t k t0 t1 k0 k1
    unfold exv at *
    rw [e 1 (by decide) (by decide), e 2 (by decide) (by decide)]; exact this
  · obtain ⟨b1, b2⟩ := i10 f l f0 f1 l0 l1
    exact ⟨b1.elim Or.inl (fun z => Or.inr ⟨z.1, ea f z.2⟩), b2⟩
theorem up_over {B : AS} {s f l x y : Int} : up (up (up (up B 31 s 0 x) 24 f l 0) 23 s 0 y) 31 s 0 0 = up (up (up B 24 f l 0) 23 s 0 y) 31 s 0 0 := by
  funext g i j
  unfold up
  by_cases a : g = 31
  · subst a
    by_cases y : i = s ∧ j = 0 <;> simp [y]
  · simp [a]
theorem l_removeKeys {d : Nat} (hd : 1 ≤ d) {c : Int} {A : AS} {h0 : Mh} {P : Out → Mh → Prop} {s p : Int} {c9 s9 : Nat} (T : Stx A) (I : IvS c A) (hP : isP A s p) (h23 : sm (fun l => A 24 (A 18 s p) l) 16 ≤ A 23 s 0) (H : ∀ h' x, Sx h0 h' → (x = A 31 s 0 ∨ x = 0) → RC (up (kdl A s (A 18 s p)) 31 s 0 x) h' → P (.inl none) h') :
    ∀ (n : Nat) (k x : Int) (B : AS) (h : Mh), 16 - k = n → 0 ≤ k → Sx h0 h → (x = A 31 s 0 ∨ x = 0) → KdI A s (A 18 s p) B → (∀ l, 0 ≤ l → l < k → B 24 (A 18 s p) l = 0) → (∀ l, 0 ≤ l → l < 16 → B 24 (A 18 s p) l = 0 ∨ B 24 (A 18 s p) l = A 24 (A 18 s p) l) → RC (up B 31 s 0 x) h → Ru kSh_removeKeys d none P 2 [some (pR (some (sN s))), some (pR (some (cN s (A 105 s p)))), some (pI k)] [] h c9 s9 := by
  have hs0 := hP.1
  have hs1 := hP.2.1
  have a16 := T.2.2.1
  have i17 := (I.2.2.1 s hs0 (by omega)).2.1
  have p16 : p < 16 := by have := hP.2.2.2; omega
  have ac := actv_of I hP
  have b31 := (I.2.2.1 s hs0 (by omega)).2.2.2.2.2.2.2.2.2.2.2.2.2.2
  intro n
  induction n with
  | zero =>
    intro k x B h hn k0 S hx K z0 z1 R
    have e : k = 16 := by omega
    subst e
    have K9 := H h x S hx (by rw [← K.done z0]; exact R)
    clear H
    refine bSh_removeKeys_2 _ _ _ _ _ ?_; simp only [o_const, o_null, o_lconst, o_iload, o_aload, o_istore, o_astore, o_iinc, o_iadd, o_isub, o_imul, o_idiv, o_irem, o_ineg, o_i2l, o_lcmp, o_dup, o_dup2, o_goto, o_max, o_min, o_objinit, o_icmplt, o_iflt, o_icmpge, o_ifge, o_icmpgt, o_ifgt, o_icmple, o_ifle, o_icmpeq, o_ifeq, o_icmpne, o_ifne, o_ifnull, o_ifnonnull, o_acmpeq, o_acmpne, o_tsw, tsw, o_getI, o_getR, o_putI, o_putZ, o_putR, o_iald, o_bald, o_lald, o_aald, o_iast, o_bast, o_last, o_aast, o_alen, o_new, o_newa, o_iret, o_zret, o_aret, o_vret, o_throw, o_call, o_callV, o_aft_v, o_aft_n, o_aft_x, o_up_e, lget, lset, all1, dr_some, List.take_succ_cons, List.take_zero, List.drop_succ_cons, List.drop_zero, List.reverse_cons, List.reverse_nil, List.nil_append, List.cons_append, List.length_cons, List.length_nil, List.take_nil, List.drop_nil, true_and, and_true, false_and, and_false, true_implies, implies_true, false_implies, ne_eq, not_true_eq_false, not_false_eq_true, reduceCtorEq, Option.some.injEq, if_true, if_false, ite_true, ite_false, Nat.zero_add, eq_self, okn_some, okn_none, forall_const, true_or, or_true, false_or, or_false, Option.map_some, Option.map_none, Kd_setI, Ln_setI, Mr_setI, Kd_setR, Ln_setR, Mi_setR, Int.reduceNatCast', Int.reduceNeg, Int.reduceAdd, Int.reduceSub, Int.reduceMul, Int.reduceEq, Int.reduceNe, Int.reduceLT, Int.reduceLE, Nat.reduceAdd, Nat.reduceSub, Nat.reduceLT, Nat.reduceLeDiff, Nat.reduceEqDiff, Mi_setI]
    repeat' (first | (with_reducible refine And.intro ?_ ?_) | (with_reducible intro _) | (exact Nat.le_of_ble_eq_true rfl) | (refine bSh_removeKeys_0 _ _ _ _ _ ?_; simp only [o_const, o_null, o_lconst, o_iload, o_aload, o_istore, o_astore, o_iinc, o_iadd, o_isub, o_imul, o_idiv, o_irem, o_ineg, o_i2l, o_lcmp, o_dup, o_dup2, o_goto, o_max, o_min, o_objinit, o_icmplt, o_iflt, o_icmpge, o_ifge, o_icmpgt, o_ifgt, o_icmple, o_ifle, o_icmpeq, o_ifeq, o_icmpne, o_ifne, o_ifnull, o_ifnonnull, o_acmpeq, o_acmpne, o_tsw, tsw, o_getI, o_getR, o_putI, o_putZ, o_putR, o_iald, o_bald, o_lald, o_aald, o_iast, o_bast, o_last, o_aast, o_alen, o_new, o_newa, o_iret, o_zret, o_aret, o_vret, o_throw, o_call, o_callV, o_aft_v, o_aft_n, o_aft_x, o_up_e, lget, lset, all1, dr_some, List.take_succ_cons, List.take_zero, List.drop_succ_cons, List.drop_zero, List.reverse_cons, List.reverse_nil, List.nil_append, List.cons_append, List.length_cons, List.length_nil, List.take_nil, List.drop_nil, true_and, and_true, false_and, and_false, true_implies, implies_true, false_implies, ne_eq, not_true_eq_false, not_false_eq_true, reduceCtorEq, Option.some.injEq, if_true, if_false, ite_true, ite_false, Nat.zero_add, eq_self, okn_some, okn_none, forall_const, true_or, or_true, false_or, or_false, Option.map_some, Option.map_none, Kd_setI, Ln_setI, Mr_setI, Kd_setR, Ln_setR, Mi_setR, Int.reduceNatCast', Int.reduceNeg, Int.reduceAdd, Int.reduceSub, Int.reduceMul, Int.reduceEq, Int.reduceNe, Int.reduceLT, Int.reduceLE, Nat.reduceAdd, Nat.reduceSub, Nat.reduceLT, Nat.reduceLeDiff, Nat.reduceEqDiff, Mi_setI]) | (refine bSh_removeKeys_23 _ _ _ _ _ ?_; simp only [o_const, o_null, o_lconst, o_iload, o_aload, o_istore, o_astore, o_iinc, o_iadd, o_isub, o_imul, o_idiv, o_irem, o_ineg, o_i2l, o_lcmp, o_dup, o_dup2, o_goto, o_max, o_min, o_objinit, o_icmplt, o_iflt, o_icmpge, o_ifge, o_icmpgt, o_ifgt, o_icmple, o_ifle, o_icmpeq, o_ifeq, o_icmpne, o_ifne, o_ifnull, o_ifnonnull, o_acmpeq, o_acmpne, o_tsw, tsw, o_getI, o_getR, o_putI, o_putZ, o_putR, o_iald, o_bald, o_lald, o_aald, o_iast, o_bast, o_last, o_aast, o_alen, o_new, o_newa, o_iret, o_zret, o_aret, o_vret, o_throw, o_call, o_callV, o_aft_v, o_aft_n, o_aft_x, o_up_e, lget, lset, all1, dr_some, List.take_succ_cons, List.take_zero, List.drop_succ_cons, List.drop_zero, List.reverse_cons, List.reverse_nil, List.nil_append, List.cons_append, List.length_cons, List.length_nil, List.take_nil, List.drop_nil, true_and, and_true, false_and, and_false, true_implies, implies_true, false_implies, ne_eq, not_true_eq_false, not_false_eq_true, reduceCtorEq, Option.some.injEq, if_true, if_false, ite_true, ite_false, Nat.zero_add, eq_self, okn_some, okn_none, forall_const, true_or, or_true, false_or, or_false, Option.map_some, Option.map_none, Kd_setI, Ln_setI, Mr_setI, Kd_setR, Ln_setR, Mi_setR, Int.reduceNatCast', Int.reduceNeg, Int.reduceAdd, Int.reduceSub, Int.reduceMul, Int.reduceEq, Int.reduceNe, Int.reduceLT, Int.reduceLE, Nat.reduceAdd, Nat.reduceSub, Nat.reduceLT, Nat.reduceLeDiff, Nat.reduceEqDiff, Mi_setI]) | (refine bSh_removeKeys_29 _ _ _ _ _ ?_; simp only [o_const, o_null, o_lconst, o_iload, o_aload, o_istore, o_astore, o_iinc, o_iadd, o_isub, o_imul, o_idiv, o_irem, o_ineg, o_i2l, o_lcmp, o_dup, o_dup2, o_goto, o_max, o_min, o_objinit, o_icmplt, o_iflt, o_icmpge, o_ifge, o_icmpgt, o_ifgt, o_icmple, o_ifle, o_icmpeq, o_ifeq, o_icmpne, o_ifne, o_ifnull, o_ifnonnull, o_acmpeq, o_acmpne, o_tsw, tsw, o_getI, o_getR, o_putI, o_putZ, o_putR, o_iald, o_bald, o_lald, o_aald, o_iast, o_bast, o_last, o_aast, o_alen, o_new, o_newa, o_iret, o_zret, o_aret, o_vret, o_throw, o_call, o_callV, o_aft_v, o_aft_n, o_aft_x, o_up_e, lget, lset, all1, dr_some, List.take_succ_cons, List.take_zero, List.drop_succ_cons, List.drop_zero, List.reverse_cons, List.reverse_nil, List.nil_append, List.cons_append, List.length_cons, List.length_nil, List.take_nil, List.drop_nil, true_and, and_true, false_and, and_false, true_implies, implies_true, false_implies, ne_eq, not_true_eq_false, not_false_eq_true, reduceCtorEq, Option.some.injEq, if_true, if_false, ite_true, ite_false, Nat.zero_add, eq_self, okn_some, okn_none, forall_const, true_or, or_true, false_or, or_false, Option.map_some, Option.map_none, Kd_setI, Ln_setI, Mr_setI, Kd_setR, Ln_setR, Mi_setR, Int.reduceNatCast', Int.reduceNeg, Int.reduceAdd, Int.reduceSub, Int.reduceMul, Int.reduceEq, Int.reduceNe, Int.reduceLT, Int.reduceLE, Nat.reduceAdd, Nat.reduceSub, Nat.reduceLT, Nat.reduceLeDiff, Nat.reduceEqDiff, Mi_setI]) | (simp only [o_const, o_null, o_lconst, o_iload, o_aload, o_istore, o_astore, o_iinc, o_iadd, o_isub, o_imul, o_idiv, o_irem, o_ineg, o_i2l, o_lcmp, o_dup, o_dup2, o_goto, o_max, o_min, o_objinit, o_icmplt, o_iflt, o_icmpge, o_ifge, o_icmpgt, o_ifgt, o_icmple, o_ifle, o_icmpeq, o_ifeq, o_icmpne, o_ifne, o_ifnull, o_ifnonnull, o_acmpeq, o_acmpne, o_tsw, tsw, o_getI, o_getR, o_putI, o_putZ, o_putR, o_iald, o_bald, o_lald, o_aald, o_iast, o_bast, o_last, o_aast, o_alen, o_new, o_newa, o_iret, o_zret, o_aret, o_vret, o_throw, o_call, o_callV, o_aft_v, o_aft_n, o_aft_x, o_up_e, lget, lset, all1, dr_some, List.take_succ_cons, List.take_zero, List.drop_succ_cons, List.drop_zero, List.reverse_cons, List.reverse_nil, List.nil_append, List.cons_append, List.length_cons, List.length_nil, List.take_nil, List.drop_nil, true_and, and_true, false_and, and_false, true_implies, implies_true, false_implies, ne_eq, not_true_eq_false, not_false_eq_true, reduceCtorEq, Option.some.injEq, if_true, if_false, ite_true, ite_false, Nat.zero_add, eq_self, okn_some, okn_none, forall_const, true_or, or_true, false_or, or_false, Option.map_some, Option.map_none, Kd_setI, Ln_setI, Mr_setI, Kd_setR, Ln_setR, Mi_setR, Int.reduceNatCast', Int.reduceNeg, Int.reduceAdd, Int.reduceSub, Int.reduceMul, Int.reduceEq, Int.reduceNe, Int.reduceLT, Int.reduceLE, Nat.reduceAdd, Nat.reduceSub, Nat.reduceLT, Nat.reduceLeDiff, Nat.reduceEqDiff, Mi_setI]) | (unfold rng; omega) | omega)
    all_goals first | exact K9 | (exfalso; omega) | done
  | succ n ih =>
    intro k x B h hn k0 S hx K z0 z1 R
    have K0 := K
    obtain ⟨q1, q2, q3, q4, q5⟩ := K
    have eC : ∀ g, g ∉ [23, 24, 31] → up B 31 s 0 x g = A g := fun g hg => by
      funext i j
      rw [up_f (fun q => hg (by rw [q]; decide)), q1 g (fun q => hg (by rw [q]; decide)) (fun q => hg (by rw [q]; decide))]
    have c24 : up B 31 s 0 x 24 = B 24 := by funext i j; exact up_f (by decide)
    have c23 : up B 31 s 0 x 23 = B 23 := by funext i j; exact up_f (by decide)
    have hnn := sm_nn (g := fun l => B 24 (A 18 s p) l) 16 (fun l l0 l1 => by
      show 0 ≤ B 24 (A 18 s p) l
      have := (I.2.2.2.2.2.2.2.2.2 _ l ac.2.2.1 ac.2.2.2 l0 (by omega)).1
      rcases z1 l l0 (by omega) with w | w <;> omega)
    have IC : IvS c (up B 31 s 0 x) := I.keys eC (fun t t0 t1 => by
        rw [c23]
        by_cases w : t = s
        · rw [w]; omega
        · rw [q2 t 0 (fun q => w q.1)]; have := (I.2.2.1 t t0 t1).2.2.2.2.1; omega) (fun f l f0 f1 l0 l1 => by
        rw [c24]
        by_cases w : f = A 18 s p
        · rw [w]; exact (z1 l l0 l1).symm
        · exact Or.inl (q3 f l (fun q => w q.1))) (fun t t0 t1 => by
        by_cases w : t = s
        · rw [w, up_s]; exact hx
        · left; rw [up_at, if_neg (fun q => w q.1), q1 31 (by decide) (by decide)])
    have TC : Stx (up B 31 s 0 x) := T.of (fun g hg => eC g (fun q => by revert hg q; simp only [LStx, List.mem_cons, List.not_mem_nil, or_false]; omega))
    have PC : isP (up B 31 s 0 x) s p := isP_of hP (eC 16 (by decide)) (eC 17 (by decide))
    have kS9 := (R.xs.1 s hs0 PC.2.1).1.1
    have yk := (R.xk s p hs0 PC.2.1 hP.2.2.1 p16).1 k k0 (by omega)
    have yk := (yk.1 PC.2.2.2).1
    have G := T.2.2.2.2.2.2
    have gN := G.2.2.2.2.2.1 s p hs0 (by omega) hP.2.2.1 p16
    have o := R.xo s (A 105 s p) hs0 PC.2.1 gN.1 gN.2
    rw [eC 105 (by decide), eC 18 (by decide), c24] at yk
    have o1 := o.1
    have o2 := o.2.2.1
    have o3 := o.2.2.2.2.2.2.1
    have o4 := o.2.2.2.2.2.2.2.1
    have v24 : B 24 (A 18 s p) k = 0 ∨ B 24 (A 18 s p) k = 1 := by
      have := (I.2.2.2.2.2.2.2.2.2 _ k ac.2.2.1 ac.2.2.2 k0 (by omega)).1
      rcases z1 k k0 (by omega) with w | w <;> omega
    have KN : B 24 (A 18 s p) k = 0 → Ru kSh_removeKeys d none P 2 [some (pR (some (sN s))), some (pR (some (cN s (A 105 s p)))), some (pI (k + 1))] [] h c9 s9 := fun w => ih (k + 1) x B h (by omega) (by omega) S hx K0 (fun l l0 l1 => by
      rcases (by omega : l < k ∨ l = k) with y | y
      · exact z0 l l0 y
      · rw [y]; exact w) z1 R
    have KY : B 24 (A 18 s p) k = 1 → ∀ h', Sx h h' → RC (up (up (up B 24 (A 18 s p) k 0) 23 s 0 (B 23 s 0 - 1)) 31 s 0 0) h' → Ru kSh_removeKeys d none P 2 [some (pR (some (sN s))), some (pR (some (cN s (A 105 s p)))), some (pI (k + 1))] [] h' c9 s9 := fun w h' s' R' => by
      have e24 : ∀ l, up (up B 24 (A 18 s p) k 0) 23 s 0 (B 23 s 0 - 1) 24 (A 18 s p) l = if l = k then 0 else B 24 (A 18 s p) l := fun l => by rw [up_f (by decide), up_at]; simp
      refine ih (k + 1) 0 _ h' (by omega) (by omega) (S.trans s') (Or.inr rfl) (K0.step k0 (by omega) w) (fun l l0 l1 => ?_) (fun l l0 l1 => ?_) R'
      · rw [e24]
        by_cases y : l = k
        · rw [if_pos y]
        · rw [if_neg y]; exact z0 l l0 (by omega)
      · rw [e24]
        by_cases y : l = k
        · rw [if_pos y]; exact Or.inl rfl
        · rw [if_neg y]; exact z1 l l0 l1
    have KR := fun (Q : Out → Mh → Prop) (HH) => c_Sh_removeKey (d := d - 1) (P := Q) (l := k) R TC IC PC k0 (by omega) HH
    rw [eC 105 (by decide), eC 18 (by decide), c23, up_over] at KR
    have k16 : k < 16 := by omega
    clear ih H z0 z1 IC TC q1 q2 q3 q4 q5 eC R o
    refine bSh_removeKeys_2 _ _ _ _ _ ?_; simp only [o_const, o_null, o_lconst, o_iload, o_aload, o_istore, o_astore, o_iinc, o_iadd, o_isub, o_imul, o_idiv, o_irem, o_ineg, o_i2l, o_lcmp, o_dup, o_dup2, o_goto, o_max, o_min, o_objinit, o_icmplt, o_iflt, o_icmpge, o_ifge, o_icmpgt, o_ifgt, o_icmple, o_ifle, o_icmpeq, o_ifeq, o_icmpne, o_ifne, o_ifnull, o_ifnonnull, o_acmpeq, o_acmpne, o_tsw, tsw, o_getI, o_getR, o_putI, o_putZ, o_putR, o_iald, o_bald, o_lald, o_aald, o_iast, o_bast, o_last, o_aast, o_alen, o_new, o_newa, o_iret, o_zret, o_aret, o_vret, o_throw, o_call, o_callV, o_aft_v, o_aft_n, o_aft_x, o_up_e, lget, lset, all1, dr_some, List.take_succ_cons, List.take_zero, List.drop_succ_cons, List.drop_zero, List.reverse_cons, List.reverse_nil, List.nil_append, List.cons_append, List.length_cons, List.length_nil, List.take_nil, List.drop_nil, true_and, and_true, false_and, and_false, true_implies, implies_true, false_implies, ne_eq, not_true_eq_false, not_false_eq_true, reduceCtorEq, Option.some.injEq, if_true, if_false, ite_true, ite_false, Nat.zero_add, eq_self, okn_some, okn_none, forall_const, true_or, or_true, false_or, or_false, Option.map_some, Option.map_none, Kd_setI, Ln_setI, Mr_setI, Kd_setR, Ln_setR, Mi_setR, Int.reduceNatCast', Int.reduceNeg, Int.reduceAdd, Int.reduceSub, Int.reduceMul, Int.reduceEq, Int.reduceNe, Int.reduceLT, Int.reduceLE, Nat.reduceAdd, Nat.reduceSub, Nat.reduceLT, Nat.reduceLeDiff, Nat.reduceEqDiff, Mi_setI, kS9, o1, o2, o3, o4, yk]
    repeat' (first | (with_reducible refine And.intro ?_ ?_) | (with_reducible intro _) | (exact Nat.le_of_ble_eq_true rfl) | (refine bSh_removeKeys_0 _ _ _ _ _ ?_; simp only [o_const, o_null, o_lconst, o_iload, o_aload, o_istore, o_astore, o_iinc, o_iadd, o_isub, o_imul, o_idiv, o_irem, o_ineg, o_i2l, o_lcmp, o_dup, o_dup2, o_goto, o_max, o_min, o_objinit, o_icmplt, o_iflt, o_icmpge, o_ifge, o_icmpgt, o_ifgt, o_icmple, o_ifle, o_icmpeq, o_ifeq, o_icmpne, o_ifne, o_ifnull, o_ifnonnull, o_acmpeq, o_acmpne, o_tsw, tsw, o_getI, o_getR, o_putI, o_putZ, o_putR, o_iald, o_bald, o_lald, o_aald, o_iast, o_bast, o_last, o_aast, o_alen, o_new, o_newa, o_iret, o_zret, o_aret, o_vret, o_throw, o_call, o_callV, o_aft_v, o_aft_n, o_aft_x, o_up_e, lget, lset, all1, dr_some, List.take_succ_cons, List.take_zero, List.drop_succ_cons, List.drop_zero, List.reverse_cons, List.reverse_nil, List.nil_append, List.cons_append, List.length_cons, List.length_nil, List.take_nil, List.drop_nil, true_and, and_true, false_and, and_false, true_implies, implies_true, false_implies, ne_eq, not_true_eq_false, not_false_eq_true, reduceCtorEq, Option.some.injEq, if_true, if_false, ite_true, ite_false, Nat.zero_add, eq_self, okn_some, okn_none, forall_const, true_or, or_true, false_or, or_false, Option.map_some, Option.map_none, Kd_setI, Ln_setI, Mr_setI, Kd_setR, Ln_setR, Mi_setR, Int.reduceNatCast', Int.reduceNeg, Int.reduceAdd, Int.reduceSub, Int.reduceMul, Int.reduceEq, Int.reduceNe, Int.reduceLT, Int.reduceLE, Nat.reduceAdd, Nat.reduceSub, Nat.reduceLT, Nat.reduceLeDiff, Nat.reduceEqDiff, Mi_setI, kS9, o1, o2, o3, o4, yk]) | (refine bSh_removeKeys_23 _ _ _ _ _ ?_; simp only [o_const, o_null, o_lconst, o_iload, o_aload, o_istore, o_astore, o_iinc, o_iadd, o_isub, o_imul, o_idiv, o_irem, o_ineg, o_i2l, o_lcmp, o_dup, o_dup2, o_goto, o_max, o_min, o_objinit, o_icmplt, o_iflt, o_icmpge, o_ifge, o_icmpgt, o_ifgt, o_icmple, o_ifle, o_icmpeq, o_ifeq, o_icmpne, o_ifne, o_ifnull, o_ifnonnull, o_acmpeq, o_acmpne, o_tsw, tsw, o_getI, o_getR, o_putI, o_putZ, o_putR, o_iald, o_bald, o_lald, o_aald, o_iast, o_bast, o_last, o_aast, o_alen, o_new, o_newa, o_iret, o_zret, o_aret, o_vret, o_throw, o_call, o_callV, o_aft_v, o_aft_n, o_aft_x, o_up_e, lget, lset, all1, dr_some, List.take_succ_cons, List.take_zero, List.drop_succ_cons, List.drop_zero, List.reverse_cons, List.reverse_nil, List.nil_append, List.cons_append, List.length_cons, List.length_nil, List.take_nil, List.drop_nil, true_and, and_true, false_and, and_false, true_implies, implies_true, false_implies, ne_eq, not_true_eq_false, not_false_eq_true, reduceCtorEq, Option.some.injEq, if_true, if_false, ite_true, ite_false, Nat.zero_add, eq_self, okn_some, okn_none, forall_const, true_or, or_true, false_or, or_false, Option.map_some, Option.map_none, Kd_setI, Ln_setI, Mr_setI, Kd_setR, Ln_setR, Mi_setR, Int.reduceNatCast', Int.reduceNeg, Int.reduceAdd, Int.reduceSub, Int.reduceMul, Int.reduceEq, Int.reduceNe, Int.reduceLT, Int.reduceLE, Nat.reduceAdd, Nat.reduceSub, Nat.reduceLT, Nat.reduceLeDiff, Nat.reduceEqDiff, Mi_setI, kS9, o1, o2, o3, o4, yk]) | (refine bSh_removeKeys_29 _ _ _ _ _ ?_; simp only [o_const, o_null, o_lconst, o_iload, o_aload, o_istore, o_astore, o_iinc, o_iadd, o_isub, o_imul, o_idiv, o_irem, o_ineg, o_i2l, o_lcmp, o_dup, o_dup2, o_goto, o_max, o_min, o_objinit, o_icmplt, o_iflt, o_icmpge, o_ifge, o_icmpgt, o_ifgt, o_icmple, o_ifle, o_icmpeq, o_ifeq, o_icmpne, o_ifne, o_ifnull, o_ifnonnull, o_acmpeq, o_acmpne, o_tsw, tsw, o_getI, o_getR, o_putI, o_putZ, o_putR, o_iald, o_bald, o_lald, o_aald, o_iast, o_bast, o_last, o_aast, o_alen, o_new, o_newa, o_iret, o_zret, o_aret, o_vret, o_throw, o_call, o_callV, o_aft_v, o_aft_n, o_aft_x, o_up_e, lget, lset, all1, dr_some, List.take_succ_cons, List.take_zero, List.drop_succ_cons, List.drop_zero, List.reverse_cons, List.reverse_nil, List.nil_append, List.cons_append, List.length_cons, List.length_nil, List.take_nil, List.drop_nil, true_and, and_true, false_and, and_false, true_implies, implies_true, false_implies, ne_eq, not_true_eq_false, not_false_eq_true, reduceCtorEq, Option.some.injEq, if_true, if_false, ite_true, ite_false, Nat.zero_add, eq_self, okn_some, okn_none, forall_const, true_or, or_true, false_or, or_false, Option.map_some, Option.map_none, Kd_setI, Ln_setI, Mr_setI, Kd_setR, Ln_setR, Mi_setR, Int.reduceNatCast', Int.reduceNeg, Int.reduceAdd, Int.reduceSub, Int.reduceMul, Int.reduceEq, Int.reduceNe, Int.reduceLT, Int.reduceLE, Nat.reduceAdd, Nat.reduceSub, Nat.reduceLT, Nat.reduceLeDiff, Nat.reduceEqDiff, Mi_setI, kS9, o1, o2, o3, o4, yk]) | (refine KR _ (fun h' s' R' => ?_)) | (simp only [o_const, o_null, o_lconst, o_iload, o_aload, o_istore, o_astore, o_iinc, o_iadd, o_isub, o_imul, o_idiv, o_irem, o_ineg, o_i2l, o_lcmp, o_dup, o_dup2, o_goto, o_max, o_min, o_objinit, o_icmplt, o_iflt, o_icmpge, o_ifge, o_icmpgt, o_ifgt, o_icmple, o_ifle, o_icmpeq, o_ifeq, o_icmpne, o_ifne, o_ifnull, o_ifnonnull, o_acmpeq, o_acmpne, o_tsw, tsw, o_getI, o_getR, o_putI, o_putZ, o_putR, o_iald, o_bald, o_lald, o_aald, o_iast, o_bast, o_last, o_aast, o_alen, o_new, o_newa, o_iret, o_zret, o_aret, o_vret, o_throw, o_call, o_callV, o_aft_v, o_aft_n, o_aft_x, o_up_e, lget, lset, all1, dr_some, List.take_succ_cons, List.take_zero, List.drop_succ_cons, List.drop_zero, List.reverse_cons, List.reverse_nil, List.nil_append, List.cons_append, List.length_cons, List.length_nil, List.take_nil, List.drop_nil, true_and, and_true, false_and, and_false, true_implies, implies_true, false_implies, ne_eq, not_true_eq_false, not_false_eq_true, reduceCtorEq, Option.some.injEq, if_true, if_false, ite_true, ite_false, Nat.zero_add, eq_self, okn_some, okn_none, forall_const, true_or, or_true, false_or, or_false, Option.map_some, Option.map_none, Kd_setI, Ln_setI, Mr_setI, Kd_setR, Ln_setR, Mi_setR, Int.reduceNatCast', Int.reduceNeg, Int.reduceAdd, Int.reduceSub, Int.reduceMul, Int.reduceEq, Int.reduceNe, Int.reduceLT, Int.reduceLE, Nat.reduceAdd, Nat.reduceSub, Nat.reduceLT, Nat.reduceLeDiff, Nat.reduceEqDiff, Mi_setI, kS9, o1, o2, o3, o4, yk]) | (unfold rng; omega) | omega)
    all_goals first | exact KN (by omega) | exact KY (by omega) h' s' R' | exact v24 | (exfalso; omega) | done
theorem up_self {A : AS} {f : Nat} {i j : Int} : up A f i j (A f i j) = A := up_same rfl
theorem c_Sh_removeKeys {d : Nat} (hd : 1 ≤ d) {c : Int} {A : AS} {h : Mh} {P : Out → Mh → Prop} {s p : Int} (R : RC A h) (T : Stx A) (I : IvS c A) (hP : isP A s p) (h23 : sm (fun l => A 24 (A 18 s p) l) 16 ≤ A 23 s 0) (H : ∀ h' x, Sx h h' → (x = A 31 s 0 ∨ x = 0) → RC (up (kdl A s (A 18 s p)) 31 s 0 x) h' → P (.inl none) h') : Ct kSh_removeKeys d [pR (some (sN s)), pR (some (cN s (A 105 s p)))] h P := by
  have K := l_removeKeys (d := d) hd (c9 := 0) (s9 := 0) T I hP h23 H 16 0 (A 31 s 0) A h (by omega) (by omega) Sx.rfl' (Or.inl rfl) KdI.rfl' (fun l l0 l1 => by omega) (fun l _ _ => Or.inr rfl) (by rw [up_self]; exact R)
  refine eSh_removeKeys ?_
  repeat' (first | (with_reducible refine And.intro ?_ ?_) | (with_reducible intro _) | (exact Nat.le_of_ble_eq_true rfl) | (refine bSh_removeKeys_0 _ _ _ _ _ ?_; simp only [o_const, o_null, o_lconst, o_iload, o_aload, o_istore, o_astore, o_iinc, o_iadd, o_isub, o_imul, o_idiv, o_irem, o_ineg, o_i2l, o_lcmp, o_dup, o_dup2, o_goto, o_max, o_min, o_objinit, o_icmplt, o_iflt, o_icmpge, o_ifge, o_icmpgt, o_ifgt, o_icmple, o_ifle, o_icmpeq, o_ifeq, o_icmpne, o_ifne, o_ifnull, o_ifnonnull, o_acmpeq, o_acmpne, o_tsw, tsw, o_getI, o_getR, o_putI, o_putZ, o_putR, o_iald, o_bald, o_lald, o_aald, o_iast, o_bast, o_last, o_aast, o_alen, o_new, o_newa, o_iret, o_zret, o_aret, o_vret, o_throw, o_call, o_callV, o_aft_v, o_aft_n, o_aft_x, o_up_e, lget, lset, all1, dr_some, List.take_succ_cons, List.take_zero, List.drop_succ_cons, List.drop_zero, List.reverse_cons, List.reverse_nil, List.nil_append, List.cons_append, List.length_cons, List.length_nil, List.take_nil, List.drop_nil, true_and, and_true, false_and, and_false, true_implies, implies_true, false_implies, ne_eq, not_true_eq_false, not_false_eq_true, reduceCtorEq, Option.some.injEq, if_true, if_false, ite_true, ite_false, Nat.zero_add, eq_self, okn_some, okn_none, forall_const, true_or, or_true, false_or, or_false, Option.map_some, Option.map_none, Kd_setI, Ln_setI, Mr_setI, Kd_setR, Ln_setR, Mi_setR, Int.reduceNatCast', Int.reduceNeg, Int.reduceAdd, Int.reduceSub, Int.reduceMul, Int.reduceEq, Int.reduceNe, Int.reduceLT, Int.reduceLE, Nat.reduceAdd, Nat.reduceSub, Nat.reduceLT, Nat.reduceLeDiff, Nat.reduceEqDiff, Mi_setI]) | (refine bSh_removeKeys_23 _ _ _ _ _ ?_; simp only [o_const, o_null, o_lconst, o_iload, o_aload, o_istore, o_astore, o_iinc, o_iadd, o_isub, o_imul, o_idiv, o_irem, o_ineg, o_i2l, o_lcmp, o_dup, o_dup2, o_goto, o_max, o_min, o_objinit, o_icmplt, o_iflt, o_icmpge, o_ifge, o_icmpgt, o_ifgt, o_icmple, o_ifle, o_icmpeq, o_ifeq, o_icmpne, o_ifne, o_ifnull, o_ifnonnull, o_acmpeq, o_acmpne, o_tsw, tsw, o_getI, o_getR, o_putI, o_putZ, o_putR, o_iald, o_bald, o_lald, o_aald, o_iast, o_bast, o_last, o_aast, o_alen, o_new, o_newa, o_iret, o_zret, o_aret, o_vret, o_throw, o_call, o_callV, o_aft_v, o_aft_n, o_aft_x, o_up_e, lget, lset, all1, dr_some, List.take_succ_cons, List.take_zero, List.drop_succ_cons, List.drop_zero, List.reverse_cons, List.reverse_nil, List.nil_append, List.cons_append, List.length_cons, List.length_nil, List.take_nil, List.drop_nil, true_and, and_true, false_and, and_false, true_implies, implies_true, false_implies, ne_eq, not_true_eq_false, not_false_eq_true, reduceCtorEq, Option.some.injEq, if_true, if_false, ite_true, ite_false, Nat.zero_add, eq_self, okn_some, okn_none, forall_const, true_or, or_true, false_or, or_false, Option.map_some, Option.map_none, Kd_setI, Ln_setI, Mr_setI, Kd_setR, Ln_setR, Mi_setR, Int.reduceNatCast', Int.reduceNeg, Int.reduceAdd, Int.reduceSub, Int.reduceMul, Int.reduceEq, Int.reduceNe, Int.reduceLT, Int.reduceLE, Nat.reduceAdd, Nat.reduceSub, Nat.reduceLT, Nat.reduceLeDiff, Nat.reduceEqDiff, Mi_setI]) | (refine bSh_removeKeys_29 _ _ _ _ _ ?_; simp only [o_const, o_null, o_lconst, o_iload, o_aload, o_istore, o_astore, o_iinc, o_iadd, o_isub, o_imul, o_idiv, o_irem, o_ineg, o_i2l, o_lcmp, o_dup, o_dup2, o_goto, o_max, o_min, o_objinit, o_icmplt, o_iflt, o_icmpge, o_ifge, o_icmpgt, o_ifgt, o_icmple, o_ifle, o_icmpeq, o_ifeq, o_icmpne, o_ifne, o_ifnull, o_ifnonnull, o_acmpeq, o_acmpne, o_tsw, tsw, o_getI, o_getR, o_putI, o_putZ, o_putR, o_iald, o_bald, o_lald, o_aald, o_iast, o_bast, o_last, o_aast, o_alen, o_new, o_newa, o_iret, o_zret, o_aret, o_vret, o_throw, o_call, o_callV, o_aft_v, o_aft_n, o_aft_x, o_up_e, lget, lset, all1, dr_some, List.take_succ_cons, List.take_zero, List.drop_succ_cons, List.drop_zero, List.reverse_cons, List.reverse_nil, List.nil_append, List.cons_append, List.length_cons, List.length_nil, List.take_nil, List.drop_nil, true_and, and_true, false_and, and_false, true_implies, implies_true, false_implies, ne_eq, not_true_eq_false, not_false_eq_true, reduceCtorEq, Option.some.injEq, if_true, if_false, ite_true, ite_false, Nat.zero_add, eq_self, okn_some, okn_none, forall_const, true_or, or_true, false_or, or_false, Option.map_some, Option.map_none, Kd_setI, Ln_setI, Mr_setI, Kd_setR, Ln_setR, Mi_setR, Int.reduceNatCast', Int.reduceNeg, Int.reduceAdd, Int.reduceSub, Int.reduceMul, Int.reduceEq, Int.reduceNe, Int.reduceLT, Int.reduceLE, Nat.reduceAdd, Nat.reduceSub, Nat.reduceLT, Nat.reduceLeDiff, Nat.reduceEqDiff, Mi_setI]) | (simp only [o_const, o_null, o_lconst, o_iload, o_aload, o_istore, o_astore, o_iinc, o_iadd, o_isub, o_imul, o_idiv, o_irem, o_ineg, o_i2l, o_lcmp, o_dup, o_dup2, o_goto, o_max, o_min, o_objinit, o_icmplt, o_iflt, o_icmpge, o_ifge, o_icmpgt, o_ifgt, o_icmple, o_ifle, o_icmpeq, o_ifeq, o_icmpne, o_ifne, o_ifnull, o_ifnonnull, o_acmpeq, o_acmpne, o_tsw, tsw, o_getI, o_getR, o_putI, o_putZ, o_putR, o_iald, o_bald, o_lald, o_aald, o_iast, o_bast, o_last, o_aast, o_alen, o_new, o_newa, o_iret, o_zret, o_aret, o_vret, o_throw, o_call, o_callV, o_aft_v, o_aft_n, o_aft_x, o_up_e, lget, lset, all1, dr_some, List.take_succ_cons, List.take_zero, List.drop_succ_cons, List.drop_zero, List.reverse_cons, List.reverse_nil, List.nil_append, List.cons_append, List.length_cons, List.length_nil, List.take_nil, List.drop_nil, true_and, and_true, false_and, and_false, true_implies, implies_true, false_implies, ne_eq, not_true_eq_false, not_false_eq_true, reduceCtorEq, Option.some.injEq, if_true, if_false, ite_true, ite_false, Nat.zero_add, eq_self, okn_some, okn_none, forall_const, true_or, or_true, false_or, or_false, Option.map_some, Option.map_none, Kd_setI, Ln_setI, Mr_setI, Kd_setR, Ln_setR, Mi_setR, Int.reduceNatCast', Int.reduceNeg, Int.reduceAdd, Int.reduceSub, Int.reduceMul, Int.reduceEq, Int.reduceNe, Int.reduceLT, Int.reduceLE, Nat.reduceAdd, Nat.reduceSub, Nat.reduceLT, Nat.reduceLeDiff, Nat.reduceEqDiff, Mi_setI]) | (unfold rng; omega) | omega)
  all_goals first | exact K | done
